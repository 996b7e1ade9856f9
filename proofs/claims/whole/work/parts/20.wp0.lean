def w_X9_in (a0 : Int64) (a2 : Int64) (a4 : Int64) (σ : ds_S) (Q : Option Value → ds_S → Prop) : Prop := (((lg_cmp a0 a2) < 0 → Q (some (.int (0 : Int32))) σ) ∧ (¬ (lg_cmp a0 a2) < 0 → ((0 < (lg_cmp a0 a4) → Q (some (.int (0 : Int32))) σ) ∧ (¬ 0 < (lg_cmp a0 a4) → Q (some (.int (1 : Int32))) σ))))
theorem e_X9_in (a0 : Int64) (a2 : Int64) (a4 : Int64) (σ : ds_S) (Q : Option Value → ds_S → Prop) (h : w_X9_in a0 a2 a4 σ Q) : ds_E mt_X9_in Ym [.long a0, .long a2, .long a4] σ Q := by
  refine ds_enter (by decide) (Nat.le_of_ble_eq_true rfl) ?_
  show ds_X mt_X9_in Ym 0 [some (.long a0), none, some (.long a2), none, some (.long a4), none] [] σ Q
  unfold w_X9_in at h
  refine ds_blk (ls2 := [some (.long a0), none, some (.long a2), none, some (.long a4), none]) (st2 := [.int (lg_cmp a0 a2)]) (σ2 := σ) ok_X9_in 0 3 0 3 [] rfl rfl rfl rfl trivial ?_
  refine ds_if_lt (show decode mt_X9_in.2.1 3 = .ok (.ifCond .lt 14, 3) from ds_dec (i := (3, .ifCond .lt 14, 3, 0, 0, 0, .int 0)) ok_X9_in 3 rfl) (t := 17) (by decide) (fun hc => ?_) (fun hc => ?_)
  · replace h := h.1 hc
    refine ds_blk (ls2 := [some (.long a0), none, some (.long a2), none, some (.long a4), none]) (st2 := [.int (0 : Int32)]) (σ2 := σ) ok_X9_in 10 1 17 18 [] rfl rfl rfl rfl trivial ?_
    exact ds_zret (show decode mt_X9_in.2.1 18 = .ok (.ireturn, 1) from ds_dec (i := (18, .ireturn, 1, 0, 0, 0, .int 0)) ok_X9_in 11 rfl) rfl (by decide) h
  · replace h := h.2 hc
    refine ds_blk (ls2 := [some (.long a0), none, some (.long a2), none, some (.long a4), none]) (st2 := [.int (lg_cmp a0 a4)]) (σ2 := σ) ok_X9_in 4 3 6 10 [] rfl rfl rfl rfl trivial ?_
    refine ds_if_gt (show decode mt_X9_in.2.1 10 = .ok (.ifCond .gt 7, 3) from ds_dec (i := (10, .ifCond .gt 7, 3, 0, 0, 0, .int 0)) ok_X9_in 7 rfl) (t := 17) (by decide) (fun hc => ?_) (fun hc => ?_)
    · replace h := h.1 hc
      refine ds_blk (ls2 := [some (.long a0), none, some (.long a2), none, some (.long a4), none]) (st2 := [.int (0 : Int32)]) (σ2 := σ) ok_X9_in 10 1 17 18 [] rfl rfl rfl rfl trivial ?_
      exact ds_zret (show decode mt_X9_in.2.1 18 = .ok (.ireturn, 1) from ds_dec (i := (18, .ireturn, 1, 0, 0, 0, .int 0)) ok_X9_in 11 rfl) rfl (by decide) h
    · replace h := h.2 hc
      refine ds_blk (ls2 := [some (.long a0), none, some (.long a2), none, some (.long a4), none]) (st2 := [.int (1 : Int32)]) (σ2 := σ) ok_X9_in 8 1 13 14 [] rfl rfl rfl rfl trivial ?_
      refine ds_goto (show decode mt_X9_in.2.1 14 = .ok (.goto 4, 3) from ds_dec (i := (14, .goto 4, 3, 0, 0, 0, .int 0)) ok_X9_in 9 rfl) (t := 18) (by decide) ?_
      exact ds_zret (show decode mt_X9_in.2.1 18 = .ok (.ireturn, 1) from ds_dec (i := (18, .ireturn, 1, 0, 0, 0, .int 0)) ok_X9_in 11 rfl) rfl (by decide) h
def w_X9_common_28 : Nat → (v4 : Int64) → (v6 : Int64) → (σ : ds_S) → (Q : Option Value → ds_S → Prop) → Prop
  | 0, _, _, _, _ => False
  | f + 1, v4, v6, σ, Q => (((lg_cmp v6 (0 : Int64)) = 0 → Q (some (.long v4)) σ) ∧ (¬ (lg_cmp v6 (0 : Int64)) = 0 → ¬ v6 = 0 ∧ w_X9_common_28 f v6 (v4 - v4 / v6 * v6) σ Q))
theorem x_X9_common_28 : ∀ (f : Nat) (v4 : Int64) (v6 : Int64) (g0 : Option Value) (g1 : Option Value) (g2 : Option Value) (g3 : Option Value) (g5 : Option Value) (g7 : Option Value) (g8 : Option Value) (g9 : Option Value) (σ : ds_S) (Q : Option Value → ds_S → Prop), w_X9_common_28 f v4 v6 σ Q → ds_X mt_X9_common Ym 28 [g0, g1, g2, g3, some (.long v4), g5, some (.long v6), g7, g8, g9] [] σ Q := by
  intro f
  induction f with
  | zero => intro v4 v6 g0 g1 g2 g3 g5 g7 g8 g9 σ Q h; exact False.elim h
  | succ f ih =>
    intro v4 v6 g0 g1 g2 g3 g5 g7 g8 g9 σ Q h
    rw [w_X9_common_28] at h
    refine ds_blk (ls2 := [g0, g1, g2, g3, some (.long v4), g5, some (.long v6), g7, g8, g9]) (st2 := [.int (lg_cmp v6 (0 : Int64))]) (σ2 := σ) ok_X9_common 18 3 28 32 [] rfl rfl rfl rfl trivial ?_
    refine ds_if_eq (show decode mt_X9_common.2.1 32 = .ok (.ifCond .eq 21, 3) from ds_dec (i := (32, .ifCond .eq 21, 3, 0, 0, 0, .int 0)) ok_X9_common 21 rfl) (t := 53) (by decide) (fun hc => ?_) (fun hc => ?_)
    · replace h := h.1 hc
      refine ds_blk (ls2 := [g0, g1, g2, g3, some (.long v4), g5, some (.long v6), g7, g8, g9]) (st2 := [.long v4]) (σ2 := σ) ok_X9_common 31 1 53 55 [] rfl rfl rfl rfl trivial ?_
      exact ds_lret (show decode mt_X9_common.2.1 55 = .ok (.lreturn, 1) from ds_dec (i := (55, .lreturn, 1, 0, 0, 0, .int 0)) ok_X9_common 32 rfl) rfl h
    · replace h := h.2 hc
      obtain ⟨o1, h⟩ := h
      refine ds_blk (ls2 := [g0, g1, g2, (ds_nl g3), some (.long v6), none, some (.long (v4 - v4 / v6 * v6)), none, some (.long (v4 - v4 / v6 * v6)), none]) (st2 := []) (σ2 := σ) ok_X9_common 22 8 35 50 [¬ v6 = 0] rfl rfl rfl rfl ⟨o1, trivial⟩ ?_
      refine ds_goto (show decode mt_X9_common.2.1 50 = .ok (.goto (-22), 3) from ds_dec (i := (50, .goto (-22), 3, 0, 0, 0, .int 0)) ok_X9_common 30 rfl) (t := 28) (by decide) ?_
      exact ih v6 (v4 - v4 / v6 * v6) _ _ _ _ _ _ _ _ σ Q h
def w_X9_common_12 (v2 : Int64) (t0 : Int64) (σ : ds_S) (Q : Option Value → ds_S → Prop) : Prop := ((0 ≤ (lg_cmp v2 (0 : Int64)) → ∃ n, w_X9_common_28 n t0 v2 σ Q) ∧ (¬ 0 ≤ (lg_cmp v2 (0 : Int64)) → ∃ n, w_X9_common_28 n t0 (-v2) σ Q))
theorem x_X9_common_12 (v2 : Int64) (t0 : Int64) (g0 : Option Value) (g1 : Option Value) (g3 : Option Value) (g4 : Option Value) (g5 : Option Value) (g6 : Option Value) (g7 : Option Value) (g8 : Option Value) (g9 : Option Value) (σ : ds_S) (Q : Option Value → ds_S → Prop) (h : w_X9_common_12 v2 t0 σ Q) : ds_X mt_X9_common Ym 12 [g0, g1, some (.long v2), g3, g4, g5, g6, g7, g8, g9] [.long t0] σ Q := by
  unfold w_X9_common_12 at h
  refine ds_blk (ls2 := [g0, g1, some (.long v2), (ds_nl g3), some (.long t0), none, g6, g7, g8, g9]) (st2 := [.int (lg_cmp v2 (0 : Int64))]) (σ2 := σ) ok_X9_common 8 4 12 17 [] rfl rfl rfl rfl trivial ?_
  refine ds_if_ge (show decode mt_X9_common.2.1 17 = .ok (.ifCond .ge 8, 3) from ds_dec (i := (17, .ifCond .ge 8, 3, 0, 0, 0, .int 0)) ok_X9_common 12 rfl) (t := 25) (by decide) (fun hc => ?_) (fun hc => ?_)
  · replace h := h.1 hc
    refine ds_blk (ls2 := [g0, g1, some (.long v2), (ds_nl g3), some (.long t0), none, some (.long v2), none, g8, g9]) (st2 := []) (σ2 := σ) ok_X9_common 16 2 25 28 [] rfl rfl rfl rfl trivial ?_
    obtain ⟨n, h⟩ := h
    refine x_X9_common_28 n t0 v2 _ _ _ _ _ _ _ _ σ Q h
  · replace h := h.2 hc
    refine ds_blk (ls2 := [g0, g1, some (.long v2), (ds_nl g3), some (.long t0), none, g6, g7, g8, g9]) (st2 := [.long (-v2)]) (σ2 := σ) ok_X9_common 13 2 20 22 [] rfl rfl rfl rfl trivial ?_
    refine ds_goto (show decode mt_X9_common.2.1 22 = .ok (.goto 4, 3) from ds_dec (i := (22, .goto 4, 3, 0, 0, 0, .int 0)) ok_X9_common 15 rfl) (t := 26) (by decide) ?_
    refine ds_blk (ls2 := [g0, g1, some (.long v2), (ds_nl g3), some (.long t0), none, some (.long (-v2)), none, g8, g9]) (st2 := []) (σ2 := σ) ok_X9_common 17 1 26 28 [] rfl rfl rfl rfl trivial ?_
    obtain ⟨n, h⟩ := h
    refine x_X9_common_28 n t0 (-v2) _ _ _ _ _ _ _ _ σ Q h
def w_X9_common (a0 : Int64) (a2 : Int64) (σ : ds_S) (Q : Option Value → ds_S → Prop) : Prop := ((0 ≤ (lg_cmp a0 (0 : Int64)) → w_X9_common_12 a2 a0 σ Q) ∧ (¬ 0 ≤ (lg_cmp a0 (0 : Int64)) → w_X9_common_12 a2 (-a0) σ Q))
theorem e_X9_common (a0 : Int64) (a2 : Int64) (σ : ds_S) (Q : Option Value → ds_S → Prop) (h : w_X9_common a0 a2 σ Q) : ds_E mt_X9_common Ym [.long a0, .long a2] σ Q := by
  refine ds_enter (by decide) (Nat.le_of_ble_eq_true rfl) ?_
  show ds_X mt_X9_common Ym 0 [some (.long a0), none, some (.long a2), none, none, none, none, none, none, none] [] σ Q
  unfold w_X9_common at h
  refine ds_blk (ls2 := [some (.long a0), none, some (.long a2), none, none, none, none, none, none, none]) (st2 := [.int (lg_cmp a0 (0 : Int64))]) (σ2 := σ) ok_X9_common 0 3 0 3 [] rfl rfl rfl rfl trivial ?_
  refine ds_if_ge (show decode mt_X9_common.2.1 3 = .ok (.ifCond .ge 8, 3) from ds_dec (i := (3, .ifCond .ge 8, 3, 0, 0, 0, .int 0)) ok_X9_common 3 rfl) (t := 11) (by decide) (fun hc => ?_) (fun hc => ?_)
  · replace h := h.1 hc
    refine ds_blk (ls2 := [some (.long a0), none, some (.long a2), none, none, none, none, none, none, none]) (st2 := [.long a0]) (σ2 := σ) ok_X9_common 7 1 11 12 [] rfl rfl rfl rfl trivial ?_
    refine x_X9_common_12 a2 a0 _ _ _ _ _ _ _ _ _ σ Q h
  · replace h := h.2 hc
    refine ds_blk (ls2 := [some (.long a0), none, some (.long a2), none, none, none, none, none, none, none]) (st2 := [.long (-a0)]) (σ2 := σ) ok_X9_common 4 2 6 8 [] rfl rfl rfl rfl trivial ?_
    refine ds_goto (show decode mt_X9_common.2.1 8 = .ok (.goto 4, 3) from ds_dec (i := (8, .goto 4, 3, 0, 0, 0, .int 0)) ok_X9_common 6 rfl) (t := 12) (by decide) ?_
    refine x_X9_common_12 a2 (-a0) _ _ _ _ _ _ _ _ _ σ Q h
def w_X9_isGreater_17 : Nat → (v8 : Int64) → (v10 : Int64) → (v12 : Int64) → (v14 : Int64) → (v16 : Int32) → (σ : ds_S) → (Q : Option Value → ds_S → Prop) → (K31 : Int64 → Int64 → Int64 → Int64 → Int32 → ds_S → Prop) → (K89 : Int32 → Int64 → Int64 → ds_S → Prop) → Prop
  | 0, _, _, _, _, _, _, _, _, _ => False
  | f + 1, v8, v10, v12, v14, v16, σ, Q, K31, K89 => ¬ v10 = 0 ∧ ¬ v14 = 0 ∧ (((lg_cmp (v8 / v10) (v12 / v14)) = 0 → ¬ v10 = 0 ∧ ¬ v14 = 0 ∧ (((lg_cmp (v8 - v8 / v10 * v10) (0 : Int64)) = 0 → K89 v16 (v8 - v8 / v10 * v10) (v12 - v12 / v14 * v14) σ) ∧ (¬ (lg_cmp (v8 - v8 / v10 * v10) (0 : Int64)) = 0 → ((¬ (lg_cmp (v12 - v12 / v14 * v14) (0 : Int64)) = 0 → ((¬ v16 = 0 → w_X9_isGreater_17 f v10 (v8 - v8 / v10 * v10) v14 (v12 - v12 / v14 * v14) (0 : Int32) σ Q K31 K89) ∧ (v16 = 0 → w_X9_isGreater_17 f v10 (v8 - v8 / v10 * v10) v14 (v12 - v12 / v14 * v14) (1 : Int32) σ Q K31 K89))) ∧ ((lg_cmp (v12 - v12 / v14 * v14) (0 : Int64)) = 0 → K89 v16 (v8 - v8 / v10 * v10) (v12 - v12 / v14 * v14) σ))))) ∧ (¬ (lg_cmp (v8 / v10) (v12 / v14)) = 0 → K31 v8 v10 v12 v14 v16 σ))
theorem x_X9_isGreater_17 : ∀ (f : Nat) (v8 : Int64) (v10 : Int64) (v12 : Int64) (v14 : Int64) (v16 : Int32) (g0 : Option Value) (g1 : Option Value) (g2 : Option Value) (g3 : Option Value) (g4 : Option Value) (g5 : Option Value) (g6 : Option Value) (g7 : Option Value) (g9 : Option Value) (g11 : Option Value) (g13 : Option Value) (g15 : Option Value) (g17 : Option Value) (g18 : Option Value) (g19 : Option Value) (g20 : Option Value) (σ : ds_S) (Q : Option Value → ds_S → Prop) (K31 : Int64 → Int64 → Int64 → Int64 → Int32 → ds_S → Prop) (K89 : Int32 → Int64 → Int64 → ds_S → Prop) (hK31 : ∀ (v8 : Int64) (v10 : Int64) (v12 : Int64) (v14 : Int64) (v16 : Int32) (g0 : Option Value) (g1 : Option Value) (g2 : Option Value) (g3 : Option Value) (g4 : Option Value) (g5 : Option Value) (g6 : Option Value) (g7 : Option Value) (g9 : Option Value) (g11 : Option Value) (g13 : Option Value) (g15 : Option Value) (g17 : Option Value) (g18 : Option Value) (g19 : Option Value) (g20 : Option Value) (σ2 : ds_S), K31 v8 v10 v12 v14 v16 σ2 → ds_X mt_X9_isGreater Ym 31 [g0, g1, g2, g3, g4, g5, g6, g7, some (.long v8), g9, some (.long v10), g11, some (.long v12), g13, some (.long v14), g15, some (.int v16), g17, g18, g19, g20] [] σ2 Q) (hK89 : ∀ (v16 : Int32) (v17 : Int64) (v19 : Int64) (g0 : Option Value) (g1 : Option Value) (g2 : Option Value) (g3 : Option Value) (g4 : Option Value) (g5 : Option Value) (g6 : Option Value) (g7 : Option Value) (g8 : Option Value) (g9 : Option Value) (g10 : Option Value) (g11 : Option Value) (g12 : Option Value) (g13 : Option Value) (g14 : Option Value) (g15 : Option Value) (g18 : Option Value) (g20 : Option Value) (σ2 : ds_S), K89 v16 v17 v19 σ2 → ds_X mt_X9_isGreater Ym 89 [g0, g1, g2, g3, g4, g5, g6, g7, g8, g9, g10, g11, g12, g13, g14, g15, some (.int v16), some (.long v17), g18, some (.long v19), g20] [] σ2 Q), w_X9_isGreater_17 f v8 v10 v12 v14 v16 σ Q K31 K89 → ds_X mt_X9_isGreater Ym 17 [g0, g1, g2, g3, g4, g5, g6, g7, some (.long v8), g9, some (.long v10), g11, some (.long v12), g13, some (.long v14), g15, some (.int v16), g17, g18, g19, g20] [] σ Q := by
  intro f
  induction f with
  | zero => intro v8 v10 v12 v14 v16 g0 g1 g2 g3 g4 g5 g6 g7 g9 g11 g13 g15 g17 g18 g19 g20 σ Q K31 K89 hK31 hK89 h; exact False.elim h
  | succ f ih =>
    intro v8 v10 v12 v14 v16 g0 g1 g2 g3 g4 g5 g6 g7 g9 g11 g13 g15 g17 g18 g19 g20 σ Q K31 K89 hK31 hK89 h
    rw [w_X9_isGreater_17] at h
    obtain ⟨o1, o2, h⟩ := h
    refine ds_blk (ls2 := [g0, g1, g2, g3, g4, g5, g6, g7, some (.long v8), g9, some (.long v10), g11, some (.long v12), g13, some (.long v14), g15, some (.int v16), g17, g18, g19, g20]) (st2 := [.int (lg_cmp (v8 / v10) (v12 / v14))]) (σ2 := σ) ok_X9_isGreater 10 7 17 28 [¬ v10 = 0, ¬ v14 = 0] rfl rfl rfl rfl ⟨o1, o2, trivial⟩ ?_
    refine ds_if_eq (show decode mt_X9_isGreater.2.1 28 = .ok (.ifCond .eq 33, 3) from ds_dec (i := (28, .ifCond .eq 33, 3, 0, 0, 0, .int 0)) ok_X9_isGreater 17 rfl) (t := 61) (by decide) (fun hc => ?_) (fun hc => ?_)
    · replace h := h.1 hc
      obtain ⟨o3, o4, h⟩ := h
      refine ds_blk (ls2 := [g0, g1, g2, g3, g4, g5, g6, g7, some (.long v8), g9, some (.long v10), g11, some (.long v12), g13, some (.long v14), g15, some (.int v16), some (.long (v8 - v8 / v10 * v10)), none, some (.long (v12 - v12 / v14 * v14)), none]) (st2 := [.int (lg_cmp (v8 - v8 / v10 * v10) (0 : Int64))]) (σ2 := σ) ok_X9_isGreater 35 11 61 79 [¬ v10 = 0, ¬ v14 = 0] rfl rfl rfl rfl ⟨o3, o4, trivial⟩ ?_
      refine ds_if_eq (show decode mt_X9_isGreater.2.1 79 = .ok (.ifCond .eq 10, 3) from ds_dec (i := (79, .ifCond .eq 10, 3, 0, 0, 0, .int 0)) ok_X9_isGreater 46 rfl) (t := 89) (by decide) (fun hc => ?_) (fun hc => ?_)
      · replace h := h.1 hc
        exact hK89 v16 (v8 - v8 / v10 * v10) (v12 - v12 / v14 * v14) _ _ _ _ _ _ _ _ _ _ _ _ _ _ _ _ _ _ σ h
      · replace h := h.2 hc
        refine ds_blk (ls2 := [g0, g1, g2, g3, g4, g5, g6, g7, some (.long v8), g9, some (.long v10), g11, some (.long v12), g13, some (.long v14), g15, some (.int v16), some (.long (v8 - v8 / v10 * v10)), none, some (.long (v12 - v12 / v14 * v14)), none]) (st2 := [.int (lg_cmp (v12 - v12 / v14 * v14) (0 : Int64))]) (σ2 := σ) ok_X9_isGreater 47 3 82 86 [] rfl rfl rfl rfl trivial ?_
        refine ds_if_ne (show decode mt_X9_isGreater.2.1 86 = .ok (.ifCond .ne 34, 3) from ds_dec (i := (86, .ifCond .ne 34, 3, 0, 0, 0, .int 0)) ok_X9_isGreater 50 rfl) (t := 120) (by decide) (fun hc => ?_) (fun hc => ?_)
        · replace h := h.1 hc
          refine ds_blk (ls2 := [g0, g1, g2, g3, g4, g5, g6, (ds_nl g7), some (.long v10), none, some (.long (v8 - v8 / v10 * v10)), none, some (.long v14), none, some (.long (v12 - v12 / v14 * v14)), none, some (.int v16), some (.long (v8 - v8 / v10 * v10)), none, some (.long (v12 - v12 / v14 * v14)), none]) (st2 := [.int v16]) (σ2 := σ) ok_X9_isGreater 68 9 120 138 [] rfl rfl rfl rfl trivial ?_
          refine ds_if_ne (show decode mt_X9_isGreater.2.1 138 = .ok (.ifCond .ne 7, 3) from ds_dec (i := (138, .ifCond .ne 7, 3, 0, 0, 0, .int 0)) ok_X9_isGreater 77 rfl) (t := 145) (by decide) (fun hc => ?_) (fun hc => ?_)
          · replace h := h.1 hc
            refine ds_blk (ls2 := [g0, g1, g2, g3, g4, g5, g6, (ds_nl g7), some (.long v10), none, some (.long (v8 - v8 / v10 * v10)), none, some (.long v14), none, some (.long (v12 - v12 / v14 * v14)), none, some (.int (0 : Int32)), some (.long (v8 - v8 / v10 * v10)), none, some (.long (v12 - v12 / v14 * v14)), none]) (st2 := []) (σ2 := σ) ok_X9_isGreater 80 2 145 148 [] rfl rfl rfl rfl trivial ?_
            refine ds_goto (show decode mt_X9_isGreater.2.1 148 = .ok (.goto (-131), 3) from ds_dec (i := (148, .goto (-131), 3, 0, 0, 0, .int 0)) ok_X9_isGreater 82 rfl) (t := 17) (by decide) ?_
            exact ih v10 (v8 - v8 / v10 * v10) v14 (v12 - v12 / v14 * v14) (0 : Int32) _ _ _ _ _ _ _ _ _ _ _ _ _ _ _ _ σ Q K31 K89 hK31 hK89 h
          · replace h := h.2 hc
            refine ds_blk (ls2 := [g0, g1, g2, g3, g4, g5, g6, (ds_nl g7), some (.long v10), none, some (.long (v8 - v8 / v10 * v10)), none, some (.long v14), none, some (.long (v12 - v12 / v14 * v14)), none, some (.int v16), some (.long (v8 - v8 / v10 * v10)), none, some (.long (v12 - v12 / v14 * v14)), none]) (st2 := [.int (1 : Int32)]) (σ2 := σ) ok_X9_isGreater 78 1 141 142 [] rfl rfl rfl rfl trivial ?_
            refine ds_goto (show decode mt_X9_isGreater.2.1 142 = .ok (.goto 4, 3) from ds_dec (i := (142, .goto 4, 3, 0, 0, 0, .int 0)) ok_X9_isGreater 79 rfl) (t := 146) (by decide) ?_
            refine ds_blk (ls2 := [g0, g1, g2, g3, g4, g5, g6, (ds_nl g7), some (.long v10), none, some (.long (v8 - v8 / v10 * v10)), none, some (.long v14), none, some (.long (v12 - v12 / v14 * v14)), none, some (.int (1 : Int32)), some (.long (v8 - v8 / v10 * v10)), none, some (.long (v12 - v12 / v14 * v14)), none]) (st2 := []) (σ2 := σ) ok_X9_isGreater 81 1 146 148 [] rfl rfl rfl rfl trivial ?_
            refine ds_goto (show decode mt_X9_isGreater.2.1 148 = .ok (.goto (-131), 3) from ds_dec (i := (148, .goto (-131), 3, 0, 0, 0, .int 0)) ok_X9_isGreater 82 rfl) (t := 17) (by decide) ?_
            exact ih v10 (v8 - v8 / v10 * v10) v14 (v12 - v12 / v14 * v14) (1 : Int32) _ _ _ _ _ _ _ _ _ _ _ _ _ _ _ _ σ Q K31 K89 hK31 hK89 h
        · replace h := h.2 hc
          exact hK89 v16 (v8 - v8 / v10 * v10) (v12 - v12 / v14 * v14) _ _ _ _ _ _ _ _ _ _ _ _ _ _ _ _ _ _ σ h
    · replace h := h.2 hc
      exact hK31 v8 v10 v12 v14 v16 _ _ _ _ _ _ _ _ _ _ _ _ _ _ _ _ σ h
def w_X9_isGreater_50 (v16 : Int32) (t0 : Int32) (σ : ds_S) (Q : Option Value → ds_S → Prop) : Prop := ((t0 = v16 → Q (some (.int (0 : Int32))) σ) ∧ (¬ t0 = v16 → Q (some (.int (1 : Int32))) σ))
theorem x_X9_isGreater_50 (v16 : Int32) (t0 : Int32) (g0 : Option Value) (g1 : Option Value) (g2 : Option Value) (g3 : Option Value) (g4 : Option Value) (g5 : Option Value) (g6 : Option Value) (g7 : Option Value) (g8 : Option Value) (g9 : Option Value) (g10 : Option Value) (g11 : Option Value) (g12 : Option Value) (g13 : Option Value) (g14 : Option Value) (g15 : Option Value) (g17 : Option Value) (g18 : Option Value) (g19 : Option Value) (g20 : Option Value) (σ : ds_S) (Q : Option Value → ds_S → Prop) (h : w_X9_isGreater_50 v16 t0 σ Q) : ds_X mt_X9_isGreater Ym 50 [g0, g1, g2, g3, g4, g5, g6, g7, g8, g9, g10, g11, g12, g13, g14, g15, some (.int v16), g17, g18, g19, g20] [.int t0] σ Q := by
  unfold w_X9_isGreater_50 at h
  refine ds_blk (ls2 := [g0, g1, g2, g3, g4, g5, g6, g7, g8, g9, g10, g11, g12, g13, g14, g15, some (.int v16), g17, g18, g19, g20]) (st2 := [.int v16, .int t0]) (σ2 := σ) ok_X9_isGreater 29 1 50 52 [] rfl rfl rfl rfl trivial ?_
  refine ds_ic_eq (show decode mt_X9_isGreater.2.1 52 = .ok (.if_icmp .eq 7, 3) from ds_dec (i := (52, .if_icmp .eq 7, 3, 0, 0, 0, .int 0)) ok_X9_isGreater 30 rfl) (t := 59) (by decide) (fun hc => ?_) (fun hc => ?_)
  · replace h := h.1 hc
    refine ds_blk (ls2 := [g0, g1, g2, g3, g4, g5, g6, g7, g8, g9, g10, g11, g12, g13, g14, g15, some (.int v16), g17, g18, g19, g20]) (st2 := [.int (0 : Int32)]) (σ2 := σ) ok_X9_isGreater 33 1 59 60 [] rfl rfl rfl rfl trivial ?_
    exact ds_zret (show decode mt_X9_isGreater.2.1 60 = .ok (.ireturn, 1) from ds_dec (i := (60, .ireturn, 1, 0, 0, 0, .int 0)) ok_X9_isGreater 34 rfl) rfl (by decide) h
  · replace h := h.2 hc
    refine ds_blk (ls2 := [g0, g1, g2, g3, g4, g5, g6, g7, g8, g9, g10, g11, g12, g13, g14, g15, some (.int v16), g17, g18, g19, g20]) (st2 := [.int (1 : Int32)]) (σ2 := σ) ok_X9_isGreater 31 1 55 56 [] rfl rfl rfl rfl trivial ?_
    refine ds_goto (show decode mt_X9_isGreater.2.1 56 = .ok (.goto 4, 3) from ds_dec (i := (56, .goto 4, 3, 0, 0, 0, .int 0)) ok_X9_isGreater 32 rfl) (t := 60) (by decide) ?_
    exact ds_zret (show decode mt_X9_isGreater.2.1 60 = .ok (.ireturn, 1) from ds_dec (i := (60, .ireturn, 1, 0, 0, 0, .int 0)) ok_X9_isGreater 34 rfl) rfl (by decide) h
def w_X9_isGreater_109 (v16 : Int32) (t0 : Int32) (σ : ds_S) (Q : Option Value → ds_S → Prop) : Prop := ((t0 = v16 → Q (some (.int (0 : Int32))) σ) ∧ (¬ t0 = v16 → Q (some (.int (1 : Int32))) σ))
theorem x_X9_isGreater_109 (v16 : Int32) (t0 : Int32) (g0 : Option Value) (g1 : Option Value) (g2 : Option Value) (g3 : Option Value) (g4 : Option Value) (g5 : Option Value) (g6 : Option Value) (g7 : Option Value) (g8 : Option Value) (g9 : Option Value) (g10 : Option Value) (g11 : Option Value) (g12 : Option Value) (g13 : Option Value) (g14 : Option Value) (g15 : Option Value) (g17 : Option Value) (g18 : Option Value) (g19 : Option Value) (g20 : Option Value) (σ : ds_S) (Q : Option Value → ds_S → Prop) (h : w_X9_isGreater_109 v16 t0 σ Q) : ds_X mt_X9_isGreater Ym 109 [g0, g1, g2, g3, g4, g5, g6, g7, g8, g9, g10, g11, g12, g13, g14, g15, some (.int v16), g17, g18, g19, g20] [.int t0] σ Q := by
  unfold w_X9_isGreater_109 at h
  refine ds_blk (ls2 := [g0, g1, g2, g3, g4, g5, g6, g7, g8, g9, g10, g11, g12, g13, g14, g15, some (.int v16), g17, g18, g19, g20]) (st2 := [.int v16, .int t0]) (σ2 := σ) ok_X9_isGreater 62 1 109 111 [] rfl rfl rfl rfl trivial ?_
  refine ds_ic_eq (show decode mt_X9_isGreater.2.1 111 = .ok (.if_icmp .eq 7, 3) from ds_dec (i := (111, .if_icmp .eq 7, 3, 0, 0, 0, .int 0)) ok_X9_isGreater 63 rfl) (t := 118) (by decide) (fun hc => ?_) (fun hc => ?_)
  · replace h := h.1 hc
    refine ds_blk (ls2 := [g0, g1, g2, g3, g4, g5, g6, g7, g8, g9, g10, g11, g12, g13, g14, g15, some (.int v16), g17, g18, g19, g20]) (st2 := [.int (0 : Int32)]) (σ2 := σ) ok_X9_isGreater 66 1 118 119 [] rfl rfl rfl rfl trivial ?_
    exact ds_zret (show decode mt_X9_isGreater.2.1 119 = .ok (.ireturn, 1) from ds_dec (i := (119, .ireturn, 1, 0, 0, 0, .int 0)) ok_X9_isGreater 67 rfl) rfl (by decide) h
  · replace h := h.2 hc
    refine ds_blk (ls2 := [g0, g1, g2, g3, g4, g5, g6, g7, g8, g9, g10, g11, g12, g13, g14, g15, some (.int v16), g17, g18, g19, g20]) (st2 := [.int (1 : Int32)]) (σ2 := σ) ok_X9_isGreater 64 1 114 115 [] rfl rfl rfl rfl trivial ?_
    refine ds_goto (show decode mt_X9_isGreater.2.1 115 = .ok (.goto 4, 3) from ds_dec (i := (115, .goto 4, 3, 0, 0, 0, .int 0)) ok_X9_isGreater 65 rfl) (t := 119) (by decide) ?_
    exact ds_zret (show decode mt_X9_isGreater.2.1 119 = .ok (.ireturn, 1) from ds_dec (i := (119, .ireturn, 1, 0, 0, 0, .int 0)) ok_X9_isGreater 67 rfl) rfl (by decide) h
def w_X9_isGreater_89 (v16 : Int32) (v17 : Int64) (v19 : Int64) (σ : ds_S) (Q : Option Value → ds_S → Prop) : Prop := (((lg_cmp v17 v19) = 0 → Q (some (.int (0 : Int32))) σ) ∧ (¬ (lg_cmp v17 v19) = 0 → (((lg_cmp v17 (0 : Int64)) ≤ 0 → w_X9_isGreater_109 v16 (0 : Int32) σ Q) ∧ (¬ (lg_cmp v17 (0 : Int64)) ≤ 0 → w_X9_isGreater_109 v16 (1 : Int32) σ Q))))
theorem x_X9_isGreater_89 (v16 : Int32) (v17 : Int64) (v19 : Int64) (g0 : Option Value) (g1 : Option Value) (g2 : Option Value) (g3 : Option Value) (g4 : Option Value) (g5 : Option Value) (g6 : Option Value) (g7 : Option Value) (g8 : Option Value) (g9 : Option Value) (g10 : Option Value) (g11 : Option Value) (g12 : Option Value) (g13 : Option Value) (g14 : Option Value) (g15 : Option Value) (g18 : Option Value) (g20 : Option Value) (σ : ds_S) (Q : Option Value → ds_S → Prop) (h : w_X9_isGreater_89 v16 v17 v19 σ Q) : ds_X mt_X9_isGreater Ym 89 [g0, g1, g2, g3, g4, g5, g6, g7, g8, g9, g10, g11, g12, g13, g14, g15, some (.int v16), some (.long v17), g18, some (.long v19), g20] [] σ Q := by
  unfold w_X9_isGreater_89 at h
  refine ds_blk (ls2 := [g0, g1, g2, g3, g4, g5, g6, g7, g8, g9, g10, g11, g12, g13, g14, g15, some (.int v16), some (.long v17), g18, some (.long v19), g20]) (st2 := [.int (lg_cmp v17 v19)]) (σ2 := σ) ok_X9_isGreater 51 3 89 94 [] rfl rfl rfl rfl trivial ?_
  refine ds_if_eq (show decode mt_X9_isGreater.2.1 94 = .ok (.ifCond .eq 24, 3) from ds_dec (i := (94, .ifCond .eq 24, 3, 0, 0, 0, .int 0)) ok_X9_isGreater 54 rfl) (t := 118) (by decide) (fun hc => ?_) (fun hc => ?_)
  · replace h := h.1 hc
    refine ds_blk (ls2 := [g0, g1, g2, g3, g4, g5, g6, g7, g8, g9, g10, g11, g12, g13, g14, g15, some (.int v16), some (.long v17), g18, some (.long v19), g20]) (st2 := [.int (0 : Int32)]) (σ2 := σ) ok_X9_isGreater 66 1 118 119 [] rfl rfl rfl rfl trivial ?_
    exact ds_zret (show decode mt_X9_isGreater.2.1 119 = .ok (.ireturn, 1) from ds_dec (i := (119, .ireturn, 1, 0, 0, 0, .int 0)) ok_X9_isGreater 67 rfl) rfl (by decide) h
  · replace h := h.2 hc
    refine ds_blk (ls2 := [g0, g1, g2, g3, g4, g5, g6, g7, g8, g9, g10, g11, g12, g13, g14, g15, some (.int v16), some (.long v17), g18, some (.long v19), g20]) (st2 := [.int (lg_cmp v17 (0 : Int64))]) (σ2 := σ) ok_X9_isGreater 55 3 97 101 [] rfl rfl rfl rfl trivial ?_
    refine ds_if_le (show decode mt_X9_isGreater.2.1 101 = .ok (.ifCond .le 7, 3) from ds_dec (i := (101, .ifCond .le 7, 3, 0, 0, 0, .int 0)) ok_X9_isGreater 58 rfl) (t := 108) (by decide) (fun hc => ?_) (fun hc => ?_)
    · replace h := h.1 hc
      refine ds_blk (ls2 := [g0, g1, g2, g3, g4, g5, g6, g7, g8, g9, g10, g11, g12, g13, g14, g15, some (.int v16), some (.long v17), g18, some (.long v19), g20]) (st2 := [.int (0 : Int32)]) (σ2 := σ) ok_X9_isGreater 61 1 108 109 [] rfl rfl rfl rfl trivial ?_
      refine x_X9_isGreater_109 v16 (0 : Int32) _ _ _ _ _ _ _ _ _ _ _ _ _ _ _ _ _ _ _ _ σ Q h
    · replace h := h.2 hc
      refine ds_blk (ls2 := [g0, g1, g2, g3, g4, g5, g6, g7, g8, g9, g10, g11, g12, g13, g14, g15, some (.int v16), some (.long v17), g18, some (.long v19), g20]) (st2 := [.int (1 : Int32)]) (σ2 := σ) ok_X9_isGreater 59 1 104 105 [] rfl rfl rfl rfl trivial ?_
      refine ds_goto (show decode mt_X9_isGreater.2.1 105 = .ok (.goto 4, 3) from ds_dec (i := (105, .goto 4, 3, 0, 0, 0, .int 0)) ok_X9_isGreater 60 rfl) (t := 109) (by decide) ?_
      refine x_X9_isGreater_109 v16 (1 : Int32) _ _ _ _ _ _ _ _ _ _ _ _ _ _ _ _ _ _ _ _ σ Q h
def w_X9_isGreater (a0 : Int64) (a2 : Int64) (a4 : Int64) (a6 : Int64) (σ : ds_S) (Q : Option Value → ds_S → Prop) : Prop := ∃ n, w_X9_isGreater_17 n a0 a2 a4 a6 (0 : Int32) σ Q (fun v8_1 v10_1 v12_1 v14_1 v16_1 σ1 => ¬ v10_1 = 0 ∧ ¬ v14_1 = 0 ∧ (((lg_cmp (v8_1 / v10_1) (v12_1 / v14_1)) ≤ 0 → w_X9_isGreater_50 v16_1 (0 : Int32) σ1 Q) ∧ (¬ (lg_cmp (v8_1 / v10_1) (v12_1 / v14_1)) ≤ 0 → w_X9_isGreater_50 v16_1 (1 : Int32) σ1 Q))) (fun v16_2 v17_2 v19_2 σ2 => w_X9_isGreater_89 v16_2 v17_2 v19_2 σ2 Q)
theorem e_X9_isGreater (a0 : Int64) (a2 : Int64) (a4 : Int64) (a6 : Int64) (σ : ds_S) (Q : Option Value → ds_S → Prop) (h : w_X9_isGreater a0 a2 a4 a6 σ Q) : ds_E mt_X9_isGreater Ym [.long a0, .long a2, .long a4, .long a6] σ Q := by
  refine ds_enter (by decide) (Nat.le_of_ble_eq_true rfl) ?_
  show ds_X mt_X9_isGreater Ym 0 [some (.long a0), none, some (.long a2), none, some (.long a4), none, some (.long a6), none, none, none, none, none, none, none, none, none, none, none, none, none, none] [] σ Q
  unfold w_X9_isGreater at h
  refine ds_blk (ls2 := [some (.long a0), none, some (.long a2), none, some (.long a4), none, some (.long a6), none, some (.long a0), none, some (.long a2), none, some (.long a4), none, some (.long a6), none, some (.int (0 : Int32)), none, none, none, none]) (st2 := []) (σ2 := σ) ok_X9_isGreater 0 10 0 17 [] rfl rfl rfl rfl trivial ?_
  obtain ⟨n, h⟩ := h
  refine x_X9_isGreater_17 n a0 a2 a4 a6 (0 : Int32) _ _ _ _ _ _ _ _ _ _ _ _ _ _ _ _ σ Q _ _ ?_ ?_ h
  · intro v8_1 v10_1 v12_1 v14_1 v16_1 g0_1 g1_1 g2_1 g3_1 g4_1 g5_1 g6_1 g7_1 g9_1 g11_1 g13_1 g15_1 g17_1 g18_1 g19_1 g20_1 σ1 h
    obtain ⟨o1, o2, h⟩ := h
    refine ds_blk (ls2 := [g0_1, g1_1, g2_1, g3_1, g4_1, g5_1, g6_1, g7_1, some (.long v8_1), g9_1, some (.long v10_1), g11_1, some (.long v12_1), g13_1, some (.long v14_1), g15_1, some (.int v16_1), g17_1, g18_1, g19_1, g20_1]) (st2 := [.int (lg_cmp (v8_1 / v10_1) (v12_1 / v14_1))]) (σ2 := σ1) ok_X9_isGreater 18 7 31 42 [¬ v10_1 = 0, ¬ v14_1 = 0] rfl rfl rfl rfl ⟨o1, o2, trivial⟩ ?_
    refine ds_if_le (show decode mt_X9_isGreater.2.1 42 = .ok (.ifCond .le 7, 3) from ds_dec (i := (42, .ifCond .le 7, 3, 0, 0, 0, .int 0)) ok_X9_isGreater 25 rfl) (t := 49) (by decide) (fun hc => ?_) (fun hc => ?_)
    · replace h := h.1 hc
      refine ds_blk (ls2 := [g0_1, g1_1, g2_1, g3_1, g4_1, g5_1, g6_1, g7_1, some (.long v8_1), g9_1, some (.long v10_1), g11_1, some (.long v12_1), g13_1, some (.long v14_1), g15_1, some (.int v16_1), g17_1, g18_1, g19_1, g20_1]) (st2 := [.int (0 : Int32)]) (σ2 := σ1) ok_X9_isGreater 28 1 49 50 [] rfl rfl rfl rfl trivial ?_
      refine x_X9_isGreater_50 v16_1 (0 : Int32) _ _ _ _ _ _ _ _ _ _ _ _ _ _ _ _ _ _ _ _ σ1 Q h
    · replace h := h.2 hc
      refine ds_blk (ls2 := [g0_1, g1_1, g2_1, g3_1, g4_1, g5_1, g6_1, g7_1, some (.long v8_1), g9_1, some (.long v10_1), g11_1, some (.long v12_1), g13_1, some (.long v14_1), g15_1, some (.int v16_1), g17_1, g18_1, g19_1, g20_1]) (st2 := [.int (1 : Int32)]) (σ2 := σ1) ok_X9_isGreater 26 1 45 46 [] rfl rfl rfl rfl trivial ?_
      refine ds_goto (show decode mt_X9_isGreater.2.1 46 = .ok (.goto 4, 3) from ds_dec (i := (46, .goto 4, 3, 0, 0, 0, .int 0)) ok_X9_isGreater 27 rfl) (t := 50) (by decide) ?_
      refine x_X9_isGreater_50 v16_1 (1 : Int32) _ _ _ _ _ _ _ _ _ _ _ _ _ _ _ _ _ _ _ _ σ1 Q h
  · intro v16_2 v17_2 v19_2 g0_2 g1_2 g2_2 g3_2 g4_2 g5_2 g6_2 g7_2 g8_2 g9_2 g10_2 g11_2 g12_2 g13_2 g14_2 g15_2 g18_2 g20_2 σ2 h
    refine x_X9_isGreater_89 v16_2 v17_2 v19_2 _ _ _ _ _ _ _ _ _ _ _ _ _ _ _ _ _ _ σ2 Q h
def w_X9_loadOf (a1 : Int32) (a2 : Int32) (a3 : Int32) (σ : ds_S) (Q : Option Value → ds_S → Prop) : Prop := vp_in ((((36 : Int32) * a1) + ((6 : Int32) * a2)) + a3) 108 ∧ Q (some (.int (σ.1 7 (((((36 : Int32) * a1) + ((6 : Int32) * a2)) + a3).toNatClampNeg)))) σ
theorem e_X9_loadOf (a1 : Int32) (a2 : Int32) (a3 : Int32) (σ : ds_S) (Q : Option Value → ds_S → Prop) (h : w_X9_loadOf a1 a2 a3 σ Q) : ds_E mt_X9_loadOf Ym [.ref 0, .int a1, .int a2, .int a3] σ Q := by
  refine ds_enter (by decide) (Nat.le_of_ble_eq_true rfl) ?_
  show ds_X mt_X9_loadOf Ym 0 [some (.ref 0), some (.int a1), some (.int a2), some (.int a3)] [] σ Q
  unfold w_X9_loadOf at h
  obtain ⟨o1, h⟩ := h
  refine ds_blk (ls2 := [some (.ref 0), some (.int a1), some (.int a2), some (.int a3)]) (st2 := [.int (σ.1 7 (((((36 : Int32) * a1) + ((6 : Int32) * a2)) + a3).toNatClampNeg))]) (σ2 := σ) ok_X9_loadOf 0 12 0 16 [ds_k Ym 0 9, ds_k Ym 7 10, vp_in ((((36 : Int32) * a1) + ((6 : Int32) * a2)) + a3) 108] rfl rfl rfl rfl ⟨⟨by decide, rfl⟩, ⟨by decide, rfl⟩, o1, trivial⟩ ?_
  exact ds_iret (show decode mt_X9_loadOf.2.1 16 = .ok (.ireturn, 1) from ds_dec (i := (16, .ireturn, 1, 0, 0, 0, .int 0)) ok_X9_loadOf 12 rfl) rfl h
def w_X9_isThere (a1 : Int32) (σ : ds_S) (Q : Option Value → ds_S → Prop) : Prop := vp_in a1 10 ∧ ((¬ (σ.1 6 a1.toNatClampNeg) = 0 → Q (some (.int (0 : Int32))) σ) ∧ ((σ.1 6 a1.toNatClampNeg) = 0 → ((a1 = (σ.1 0 13) → Q (some (.int (0 : Int32))) σ) ∧ (¬ a1 = (σ.1 0 13) → Q (some (.int (1 : Int32))) σ))))
theorem e_X9_isThere (a1 : Int32) (σ : ds_S) (Q : Option Value → ds_S → Prop) (h : w_X9_isThere a1 σ Q) : ds_E mt_X9_isThere Ym [.ref 0, .int a1] σ Q := by
  refine ds_enter (by decide) (Nat.le_of_ble_eq_true rfl) ?_
  show ds_X mt_X9_isThere Ym 0 [some (.ref 0), some (.int a1)] [] σ Q
  unfold w_X9_isThere at h
  obtain ⟨o1, h⟩ := h
  refine ds_blk (ls2 := [some (.ref 0), some (.int a1)]) (st2 := [.int (σ.1 6 a1.toNatClampNeg)]) (σ2 := σ) ok_X9_isThere 0 4 0 6 [ds_k Ym 0 9, ds_k Ym 6 12, vp_in a1 10] rfl rfl rfl rfl ⟨⟨by decide, rfl⟩, ⟨by decide, rfl⟩, o1, trivial⟩ ?_
  refine ds_if_ne (show decode mt_X9_isThere.2.1 6 = .ok (.ifCond .ne 15, 3) from ds_dec (i := (6, .ifCond .ne 15, 3, 0, 0, 0, .int 0)) ok_X9_isThere 4 rfl) (t := 21) (by decide) (fun hc => ?_) (fun hc => ?_)
  · replace h := h.1 hc
    refine ds_blk (ls2 := [some (.ref 0), some (.int a1)]) (st2 := [.int (0 : Int32)]) (σ2 := σ) ok_X9_isThere 11 1 21 22 [] rfl rfl rfl rfl trivial ?_
    exact ds_zret (show decode mt_X9_isThere.2.1 22 = .ok (.ireturn, 1) from ds_dec (i := (22, .ireturn, 1, 0, 0, 0, .int 0)) ok_X9_isThere 12 rfl) rfl (by decide) h
  · replace h := h.2 hc
    refine ds_blk (ls2 := [some (.ref 0), some (.int a1)]) (st2 := [.int (σ.1 0 13), .int a1]) (σ2 := σ) ok_X9_isThere 5 3 9 14 [ds_k Ym 0 9] rfl rfl rfl rfl ⟨⟨by decide, rfl⟩, trivial⟩ ?_
    refine ds_ic_eq (show decode mt_X9_isThere.2.1 14 = .ok (.if_icmp .eq 7, 3) from ds_dec (i := (14, .if_icmp .eq 7, 3, 0, 0, 0, .int 0)) ok_X9_isThere 8 rfl) (t := 21) (by decide) (fun hc => ?_) (fun hc => ?_)
    · replace h := h.1 hc
      refine ds_blk (ls2 := [some (.ref 0), some (.int a1)]) (st2 := [.int (0 : Int32)]) (σ2 := σ) ok_X9_isThere 11 1 21 22 [] rfl rfl rfl rfl trivial ?_
      exact ds_zret (show decode mt_X9_isThere.2.1 22 = .ok (.ireturn, 1) from ds_dec (i := (22, .ireturn, 1, 0, 0, 0, .int 0)) ok_X9_isThere 12 rfl) rfl (by decide) h
    · replace h := h.2 hc
      refine ds_blk (ls2 := [some (.ref 0), some (.int a1)]) (st2 := [.int (1 : Int32)]) (σ2 := σ) ok_X9_isThere 9 1 17 18 [] rfl rfl rfl rfl trivial ?_
      refine ds_goto (show decode mt_X9_isThere.2.1 18 = .ok (.goto 4, 3) from ds_dec (i := (18, .goto 4, 3, 0, 0, 0, .int 0)) ok_X9_isThere 10 rfl) (t := 22) (by decide) ?_
      exact ds_zret (show decode mt_X9_isThere.2.1 22 = .ok (.ireturn, 1) from ds_dec (i := (22, .ireturn, 1, 0, 0, 0, .int 0)) ok_X9_isThere 12 rfl) rfl (by decide) h
def w_X9_ones_4 : Nat → (v0 : Int32) → (v1 : Int32) → (v2 : Int32) → (σ : ds_S) → (Q : Option Value → ds_S → Prop) → Prop
  | 0, _, _, _, _, _ => False
  | f + 1, v0, v1, v2, σ, Q => (((10 : Int32) ≤ v2 → Q (some (.int v1)) σ) ∧ (¬ (10 : Int32) ≤ v2 → w_X9_ones_4 f v0 (v1 + ((v0 >>> (v2 &&& 31)) &&& (1 : Int32))) (v2 + (1 : Int32)) σ Q))
theorem x_X9_ones_4 : ∀ (f : Nat) (v0 : Int32) (v1 : Int32) (v2 : Int32) (σ : ds_S) (Q : Option Value → ds_S → Prop), w_X9_ones_4 f v0 v1 v2 σ Q → ds_X mt_X9_ones Ym 4 [some (.int v0), some (.int v1), some (.int v2)] [] σ Q := by
  intro f
  induction f with
  | zero => intro v0 v1 v2 σ Q h; exact False.elim h
  | succ f ih =>
    intro v0 v1 v2 σ Q h
    rw [w_X9_ones_4] at h
    refine ds_blk (ls2 := [some (.int v0), some (.int v1), some (.int v2)]) (st2 := [.int (10 : Int32), .int v2]) (σ2 := σ) ok_X9_ones 4 2 4 7 [] rfl rfl rfl rfl trivial ?_
    refine ds_ic_ge (show decode mt_X9_ones.2.1 7 = .ok (.if_icmp .ge 17, 3) from ds_dec (i := (7, .if_icmp .ge 17, 3, 0, 0, 0, .int 0)) ok_X9_ones 6 rfl) (t := 24) (by decide) (fun hc => ?_) (fun hc => ?_)
    · replace h := h.1 hc
      refine ds_blk (ls2 := [some (.int v0), some (.int v1), some (.int v2)]) (st2 := [.int v1]) (σ2 := σ) ok_X9_ones 17 1 24 25 [] rfl rfl rfl rfl trivial ?_
      exact ds_iret (show decode mt_X9_ones.2.1 25 = .ok (.ireturn, 1) from ds_dec (i := (25, .ireturn, 1, 0, 0, 0, .int 0)) ok_X9_ones 18 rfl) rfl h
    · replace h := h.2 hc
      refine ds_blk (ls2 := [some (.int v0), some (.int (v1 + ((v0 >>> (v2 &&& 31)) &&& (1 : Int32)))), some (.int (v2 + (1 : Int32)))]) (st2 := []) (σ2 := σ) ok_X9_ones 7 9 10 21 [] rfl rfl rfl rfl trivial ?_
      refine ds_goto (show decode mt_X9_ones.2.1 21 = .ok (.goto (-17), 3) from ds_dec (i := (21, .goto (-17), 3, 0, 0, 0, .int 0)) ok_X9_ones 16 rfl) (t := 4) (by decide) ?_
      exact ih v0 (v1 + ((v0 >>> (v2 &&& 31)) &&& (1 : Int32))) (v2 + (1 : Int32)) σ Q h
def w_X9_ones (a0 : Int32) (σ : ds_S) (Q : Option Value → ds_S → Prop) : Prop := ∃ n, w_X9_ones_4 n a0 (0 : Int32) (0 : Int32) σ Q
theorem e_X9_ones (a0 : Int32) (σ : ds_S) (Q : Option Value → ds_S → Prop) (h : w_X9_ones a0 σ Q) : ds_E mt_X9_ones Ym [.int a0] σ Q := by
  refine ds_enter (by decide) (Nat.le_of_ble_eq_true rfl) ?_
  show ds_X mt_X9_ones Ym 0 [some (.int a0), none, none] [] σ Q
  unfold w_X9_ones at h
  refine ds_blk (ls2 := [some (.int a0), some (.int (0 : Int32)), some (.int (0 : Int32))]) (st2 := []) (σ2 := σ) ok_X9_ones 0 4 0 4 [] rfl rfl rfl rfl trivial ?_
  obtain ⟨n, h⟩ := h
  refine x_X9_ones_4 n a0 (0 : Int32) (0 : Int32) σ Q h
def w_J9_min_f86c9 (a0 : Int64) (a2 : Int64) (σ : ds_S) (Q : Option Value → ds_S → Prop) : Prop := ((0 < (lg_cmp a0 a2) → Q (some (.long a2)) σ) ∧ (¬ 0 < (lg_cmp a0 a2) → Q (some (.long a0)) σ))
theorem e_J9_min_f86c9 (a0 : Int64) (a2 : Int64) (σ : ds_S) (Q : Option Value → ds_S → Prop) (h : w_J9_min_f86c9 a0 a2 σ Q) : ds_E mt_J9_min_f86c9 Yc [.long a0, .long a2] σ Q := by
  refine ds_enterF (by decide +kernel) (Nat.le_of_ble_eq_true rfl) ?_
  show ds_X mt_J9_min_f86c9 Yc 0 [some (.long a0), none, some (.long a2), none] [] σ Q
  unfold w_J9_min_f86c9 at h
  refine ds_blk (ls2 := [some (.long a0), none, some (.long a2), none]) (st2 := [.int (lg_cmp a0 a2)]) (σ2 := σ) ok_J9_min_f86c9 0 3 0 3 [] rfl rfl rfl rfl trivial ?_
  refine ds_if_gt (show decode mt_J9_min_f86c9.2.1 3 = .ok (.ifCond .gt 7, 3) from ds_dec (i := (3, .ifCond .gt 7, 3, 0, 0, 0, .int 0)) ok_J9_min_f86c9 3 rfl) (t := 10) (by decide) (fun hc => ?_) (fun hc => ?_)
  · replace h := h.1 hc
    refine ds_blk (ls2 := [some (.long a0), none, some (.long a2), none]) (st2 := [.long a2]) (σ2 := σ) ok_J9_min_f86c9 6 1 10 11 [] rfl rfl rfl rfl trivial ?_
    exact ds_lret (show decode mt_J9_min_f86c9.2.1 11 = .ok (.lreturn, 1) from ds_dec (i := (11, .lreturn, 1, 0, 0, 0, .int 0)) ok_J9_min_f86c9 7 rfl) rfl h
  · replace h := h.2 hc
    refine ds_blk (ls2 := [some (.long a0), none, some (.long a2), none]) (st2 := [.long a0]) (σ2 := σ) ok_J9_min_f86c9 4 1 6 7 [] rfl rfl rfl rfl trivial ?_
    refine ds_goto (show decode mt_J9_min_f86c9.2.1 7 = .ok (.goto 4, 3) from ds_dec (i := (7, .goto 4, 3, 0, 0, 0, .int 0)) ok_J9_min_f86c9 5 rfl) (t := 11) (by decide) ?_
    exact ds_lret (show decode mt_J9_min_f86c9.2.1 11 = .ok (.lreturn, 1) from ds_dec (i := (11, .lreturn, 1, 0, 0, 0, .int 0)) ok_J9_min_f86c9 7 rfl) rfl h
def w_J13_compare_74951 (a0 : Int64) (a2 : Int64) (σ : ds_S) (Q : Option Value → ds_S → Prop) : Prop := ((0 ≤ (lg_cmp a0 a2) → ((¬ (lg_cmp a0 a2) = 0 → Q (some (.int (1 : Int32))) σ) ∧ ((lg_cmp a0 a2) = 0 → Q (some (.int (0 : Int32))) σ))) ∧ (¬ 0 ≤ (lg_cmp a0 a2) → Q (some (.int (-1 : Int32))) σ))
theorem e_J13_compare_74951 (a0 : Int64) (a2 : Int64) (σ : ds_S) (Q : Option Value → ds_S → Prop) (h : w_J13_compare_74951 a0 a2 σ Q) : ds_E mt_J13_compare_74951 Yc [.long a0, .long a2] σ Q := by
  refine ds_enter (by decide) (Nat.le_of_ble_eq_true rfl) ?_
  show ds_X mt_J13_compare_74951 Yc 0 [some (.long a0), none, some (.long a2), none] [] σ Q
  unfold w_J13_compare_74951 at h
  refine ds_blk (ls2 := [some (.long a0), none, some (.long a2), none]) (st2 := [.int (lg_cmp a0 a2)]) (σ2 := σ) ok_J13_compare_74951 0 3 0 3 [] rfl rfl rfl rfl trivial ?_
  refine ds_if_ge (show decode mt_J13_compare_74951.2.1 3 = .ok (.ifCond .ge 7, 3) from ds_dec (i := (3, .ifCond .ge 7, 3, 0, 0, 0, .int 0)) ok_J13_compare_74951 3 rfl) (t := 10) (by decide) (fun hc => ?_) (fun hc => ?_)
  · replace h := h.1 hc
    refine ds_blk (ls2 := [some (.long a0), none, some (.long a2), none]) (st2 := [.int (lg_cmp a0 a2)]) (σ2 := σ) ok_J13_compare_74951 6 3 10 13 [] rfl rfl rfl rfl trivial ?_
    refine ds_if_ne (show decode mt_J13_compare_74951.2.1 13 = .ok (.ifCond .ne 7, 3) from ds_dec (i := (13, .ifCond .ne 7, 3, 0, 0, 0, .int 0)) ok_J13_compare_74951 9 rfl) (t := 20) (by decide) (fun hc => ?_) (fun hc => ?_)
    · replace h := h.1 hc
      refine ds_blk (ls2 := [some (.long a0), none, some (.long a2), none]) (st2 := [.int (1 : Int32)]) (σ2 := σ) ok_J13_compare_74951 12 1 20 21 [] rfl rfl rfl rfl trivial ?_
      exact ds_iret (show decode mt_J13_compare_74951.2.1 21 = .ok (.ireturn, 1) from ds_dec (i := (21, .ireturn, 1, 0, 0, 0, .int 0)) ok_J13_compare_74951 13 rfl) rfl h
    · replace h := h.2 hc
      refine ds_blk (ls2 := [some (.long a0), none, some (.long a2), none]) (st2 := [.int (0 : Int32)]) (σ2 := σ) ok_J13_compare_74951 10 1 16 17 [] rfl rfl rfl rfl trivial ?_
      refine ds_goto (show decode mt_J13_compare_74951.2.1 17 = .ok (.goto 4, 3) from ds_dec (i := (17, .goto 4, 3, 0, 0, 0, .int 0)) ok_J13_compare_74951 11 rfl) (t := 21) (by decide) ?_
      exact ds_iret (show decode mt_J13_compare_74951.2.1 21 = .ok (.ireturn, 1) from ds_dec (i := (21, .ireturn, 1, 0, 0, 0, .int 0)) ok_J13_compare_74951 13 rfl) rfl h
  · replace h := h.2 hc
    refine ds_blk (ls2 := [some (.long a0), none, some (.long a2), none]) (st2 := [.int (-1 : Int32)]) (σ2 := σ) ok_J13_compare_74951 4 1 6 7 [] rfl rfl rfl rfl trivial ?_
    refine ds_goto (show decode mt_J13_compare_74951.2.1 7 = .ok (.goto 14, 3) from ds_dec (i := (7, .goto 14, 3, 0, 0, 0, .int 0)) ok_J13_compare_74951 5 rfl) (t := 21) (by decide) ?_
    exact ds_iret (show decode mt_J13_compare_74951.2.1 21 = .ok (.ireturn, 1) from ds_dec (i := (21, .ireturn, 1, 0, 0, 0, .int 0)) ok_J13_compare_74951 13 rfl) rfl h
def w_X8_isTable (a0 : Int32) (σ : ds_S) (Q : Option Value → ds_S → Prop) : Prop := ((a0 < 0 → Q (some (.int (0 : Int32))) σ) ∧ (¬ a0 < 0 → (((3 : Int32) ≤ a0 → Q (some (.int (0 : Int32))) σ) ∧ (¬ (3 : Int32) ≤ a0 → Q (some (.int (1 : Int32))) σ))))
theorem e_X8_isTable (a0 : Int32) (σ : ds_S) (Q : Option Value → ds_S → Prop) (h : w_X8_isTable a0 σ Q) : ds_E mt_X8_isTable Yc [.int a0] σ Q := by
  refine ds_enter (by decide) (Nat.le_of_ble_eq_true rfl) ?_
  show ds_X mt_X8_isTable Yc 0 [some (.int a0)] [] σ Q
  unfold w_X8_isTable at h
  refine ds_blk (ls2 := [some (.int a0)]) (st2 := [.int a0]) (σ2 := σ) ok_X8_isTable 0 1 0 1 [] rfl rfl rfl rfl trivial ?_
  refine ds_if_lt (show decode mt_X8_isTable.2.1 1 = .ok (.ifCond .lt 12, 3) from ds_dec (i := (1, .ifCond .lt 12, 3, 0, 0, 0, .int 0)) ok_X8_isTable 1 rfl) (t := 13) (by decide) (fun hc => ?_) (fun hc => ?_)
  · replace h := h.1 hc
    refine ds_blk (ls2 := [some (.int a0)]) (st2 := [.int (0 : Int32)]) (σ2 := σ) ok_X8_isTable 7 1 13 14 [] rfl rfl rfl rfl trivial ?_
    exact ds_zret (show decode mt_X8_isTable.2.1 14 = .ok (.ireturn, 1) from ds_dec (i := (14, .ireturn, 1, 0, 0, 0, .int 0)) ok_X8_isTable 8 rfl) rfl (by decide) h
  · replace h := h.2 hc
    refine ds_blk (ls2 := [some (.int a0)]) (st2 := [.int (3 : Int32), .int a0]) (σ2 := σ) ok_X8_isTable 2 2 4 6 [] rfl rfl rfl rfl trivial ?_
    refine ds_ic_ge (show decode mt_X8_isTable.2.1 6 = .ok (.if_icmp .ge 7, 3) from ds_dec (i := (6, .if_icmp .ge 7, 3, 0, 0, 0, .int 0)) ok_X8_isTable 4 rfl) (t := 13) (by decide) (fun hc => ?_) (fun hc => ?_)
    · replace h := h.1 hc
      refine ds_blk (ls2 := [some (.int a0)]) (st2 := [.int (0 : Int32)]) (σ2 := σ) ok_X8_isTable 7 1 13 14 [] rfl rfl rfl rfl trivial ?_
      exact ds_zret (show decode mt_X8_isTable.2.1 14 = .ok (.ireturn, 1) from ds_dec (i := (14, .ireturn, 1, 0, 0, 0, .int 0)) ok_X8_isTable 8 rfl) rfl (by decide) h
    · replace h := h.2 hc
      refine ds_blk (ls2 := [some (.int a0)]) (st2 := [.int (1 : Int32)]) (σ2 := σ) ok_X8_isTable 5 1 9 10 [] rfl rfl rfl rfl trivial ?_
      refine ds_goto (show decode mt_X8_isTable.2.1 10 = .ok (.goto 4, 3) from ds_dec (i := (10, .goto 4, 3, 0, 0, 0, .int 0)) ok_X8_isTable 6 rfl) (t := 14) (by decide) ?_
      exact ds_zret (show decode mt_X8_isTable.2.1 14 = .ok (.ireturn, 1) from ds_dec (i := (14, .ireturn, 1, 0, 0, 0, .int 0)) ok_X8_isTable 8 rfl) rfl (by decide) h
def w_X8_isWeight (a0 : Int32) (σ : ds_S) (Q : Option Value → ds_S → Prop) : Prop := ((a0 < (1 : Int32) → Q (some (.int (0 : Int32))) σ) ∧ (¬ a0 < (1 : Int32) → (((20 : Int32) < a0 → Q (some (.int (0 : Int32))) σ) ∧ (¬ (20 : Int32) < a0 → Q (some (.int (1 : Int32))) σ))))
theorem e_X8_isWeight (a0 : Int32) (σ : ds_S) (Q : Option Value → ds_S → Prop) (h : w_X8_isWeight a0 σ Q) : ds_E mt_X8_isWeight Yc [.int a0] σ Q := by
  refine ds_enter (by decide) (Nat.le_of_ble_eq_true rfl) ?_
  show ds_X mt_X8_isWeight Yc 0 [some (.int a0)] [] σ Q
  unfold w_X8_isWeight at h
  refine ds_blk (ls2 := [some (.int a0)]) (st2 := [.int (1 : Int32), .int a0]) (σ2 := σ) ok_X8_isWeight 0 2 0 2 [] rfl rfl rfl rfl trivial ?_
  refine ds_ic_lt (show decode mt_X8_isWeight.2.1 2 = .ok (.if_icmp .lt 13, 3) from ds_dec (i := (2, .if_icmp .lt 13, 3, 0, 0, 0, .int 0)) ok_X8_isWeight 2 rfl) (t := 15) (by decide) (fun hc => ?_) (fun hc => ?_)
  · replace h := h.1 hc
    refine ds_blk (ls2 := [some (.int a0)]) (st2 := [.int (0 : Int32)]) (σ2 := σ) ok_X8_isWeight 8 1 15 16 [] rfl rfl rfl rfl trivial ?_
    exact ds_zret (show decode mt_X8_isWeight.2.1 16 = .ok (.ireturn, 1) from ds_dec (i := (16, .ireturn, 1, 0, 0, 0, .int 0)) ok_X8_isWeight 9 rfl) rfl (by decide) h
  · replace h := h.2 hc
    refine ds_blk (ls2 := [some (.int a0)]) (st2 := [.int (20 : Int32), .int a0]) (σ2 := σ) ok_X8_isWeight 3 2 5 8 [] rfl rfl rfl rfl trivial ?_
    refine ds_ic_gt (show decode mt_X8_isWeight.2.1 8 = .ok (.if_icmp .gt 7, 3) from ds_dec (i := (8, .if_icmp .gt 7, 3, 0, 0, 0, .int 0)) ok_X8_isWeight 5 rfl) (t := 15) (by decide) (fun hc => ?_) (fun hc => ?_)
    · replace h := h.1 hc
      refine ds_blk (ls2 := [some (.int a0)]) (st2 := [.int (0 : Int32)]) (σ2 := σ) ok_X8_isWeight 8 1 15 16 [] rfl rfl rfl rfl trivial ?_
      exact ds_zret (show decode mt_X8_isWeight.2.1 16 = .ok (.ireturn, 1) from ds_dec (i := (16, .ireturn, 1, 0, 0, 0, .int 0)) ok_X8_isWeight 9 rfl) rfl (by decide) h
    · replace h := h.2 hc
      refine ds_blk (ls2 := [some (.int a0)]) (st2 := [.int (1 : Int32)]) (σ2 := σ) ok_X8_isWeight 6 1 11 12 [] rfl rfl rfl rfl trivial ?_
      refine ds_goto (show decode mt_X8_isWeight.2.1 12 = .ok (.goto 4, 3) from ds_dec (i := (12, .goto 4, 3, 0, 0, 0, .int 0)) ok_X8_isWeight 7 rfl) (t := 16) (by decide) ?_
      exact ds_zret (show decode mt_X8_isWeight.2.1 16 = .ok (.ireturn, 1) from ds_dec (i := (16, .ireturn, 1, 0, 0, 0, .int 0)) ok_X8_isWeight 9 rfl) rfl (by decide) h
def w_X8_isOneOfTwo (a0 : Int32) (σ : ds_S) (Q : Option Value → ds_S → Prop) : Prop := ((a0 = 0 → Q (some (.int (1 : Int32))) σ) ∧ (¬ a0 = 0 → ((¬ a0 = (1 : Int32) → Q (some (.int (0 : Int32))) σ) ∧ (a0 = (1 : Int32) → Q (some (.int (1 : Int32))) σ))))
theorem e_X8_isOneOfTwo (a0 : Int32) (σ : ds_S) (Q : Option Value → ds_S → Prop) (h : w_X8_isOneOfTwo a0 σ Q) : ds_E mt_X8_isOneOfTwo Yc [.int a0] σ Q := by
  refine ds_enter (by decide) (Nat.le_of_ble_eq_true rfl) ?_
  show ds_X mt_X8_isOneOfTwo Yc 0 [some (.int a0)] [] σ Q
  unfold w_X8_isOneOfTwo at h
  refine ds_blk (ls2 := [some (.int a0)]) (st2 := [.int a0]) (σ2 := σ) ok_X8_isOneOfTwo 0 1 0 1 [] rfl rfl rfl rfl trivial ?_
  refine ds_if_eq (show decode mt_X8_isOneOfTwo.2.1 1 = .ok (.ifCond .eq 8, 3) from ds_dec (i := (1, .ifCond .eq 8, 3, 0, 0, 0, .int 0)) ok_X8_isOneOfTwo 1 rfl) (t := 9) (by decide) (fun hc => ?_) (fun hc => ?_)
  · replace h := h.1 hc
    refine ds_blk (ls2 := [some (.int a0)]) (st2 := [.int (1 : Int32)]) (σ2 := σ) ok_X8_isOneOfTwo 5 1 9 10 [] rfl rfl rfl rfl trivial ?_
    refine ds_goto (show decode mt_X8_isOneOfTwo.2.1 10 = .ok (.goto 4, 3) from ds_dec (i := (10, .goto 4, 3, 0, 0, 0, .int 0)) ok_X8_isOneOfTwo 6 rfl) (t := 14) (by decide) ?_
    exact ds_zret (show decode mt_X8_isOneOfTwo.2.1 14 = .ok (.ireturn, 1) from ds_dec (i := (14, .ireturn, 1, 0, 0, 0, .int 0)) ok_X8_isOneOfTwo 8 rfl) rfl (by decide) h
  · replace h := h.2 hc
    refine ds_blk (ls2 := [some (.int a0)]) (st2 := [.int (1 : Int32), .int a0]) (σ2 := σ) ok_X8_isOneOfTwo 2 2 4 6 [] rfl rfl rfl rfl trivial ?_
    refine ds_ic_ne (show decode mt_X8_isOneOfTwo.2.1 6 = .ok (.if_icmp .ne 7, 3) from ds_dec (i := (6, .if_icmp .ne 7, 3, 0, 0, 0, .int 0)) ok_X8_isOneOfTwo 4 rfl) (t := 13) (by decide) (fun hc => ?_) (fun hc => ?_)
    · replace h := h.1 hc
      refine ds_blk (ls2 := [some (.int a0)]) (st2 := [.int (0 : Int32)]) (σ2 := σ) ok_X8_isOneOfTwo 7 1 13 14 [] rfl rfl rfl rfl trivial ?_
      exact ds_zret (show decode mt_X8_isOneOfTwo.2.1 14 = .ok (.ireturn, 1) from ds_dec (i := (14, .ireturn, 1, 0, 0, 0, .int 0)) ok_X8_isOneOfTwo 8 rfl) rfl (by decide) h
    · replace h := h.2 hc
      refine ds_blk (ls2 := [some (.int a0)]) (st2 := [.int (1 : Int32)]) (σ2 := σ) ok_X8_isOneOfTwo 5 1 9 10 [] rfl rfl rfl rfl trivial ?_
      refine ds_goto (show decode mt_X8_isOneOfTwo.2.1 10 = .ok (.goto 4, 3) from ds_dec (i := (10, .goto 4, 3, 0, 0, 0, .int 0)) ok_X8_isOneOfTwo 6 rfl) (t := 14) (by decide) ?_
      exact ds_zret (show decode mt_X8_isOneOfTwo.2.1 14 = .ok (.ireturn, 1) from ds_dec (i := (14, .ireturn, 1, 0, 0, 0, .int 0)) ok_X8_isOneOfTwo 8 rfl) rfl (by decide) h
def w_X8_bit (a0 : Int32) (a1 : Int32) (σ : ds_S) (Q : Option Value → ds_S → Prop) : Prop := Q (some (.int ((a0 >>> (a1 &&& 31)) &&& (1 : Int32)))) σ
theorem e_X8_bit (a0 : Int32) (a1 : Int32) (σ : ds_S) (Q : Option Value → ds_S → Prop) (h : w_X8_bit a0 a1 σ Q) : ds_E mt_X8_bit Yc [.int a0, .int a1] σ Q := by
  refine ds_enter (by decide) (Nat.le_of_ble_eq_true rfl) ?_
  show ds_X mt_X8_bit Yc 0 [some (.int a0), some (.int a1)] [] σ Q
  unfold w_X8_bit at h
  refine ds_blk (ls2 := [some (.int a0), some (.int a1)]) (st2 := [.int ((a0 >>> (a1 &&& 31)) &&& (1 : Int32))]) (σ2 := σ) ok_X8_bit 0 5 0 5 [] rfl rfl rfl rfl trivial ?_
  exact ds_iret (show decode mt_X8_bit.2.1 5 = .ok (.ireturn, 1) from ds_dec (i := (5, .ireturn, 1, 0, 0, 0, .int 0)) ok_X8_bit 5 rfl) rfl h
def w_X8_withBit (a0 : Int32) (a1 : Int32) (a2 : Int32) (σ : ds_S) (Q : Option Value → ds_S → Prop) : Prop := ((a2 = 0 → Q (some (.int (a0 &&& (((1 : Int32) <<< (a1 &&& 31)) ^^^ (-1 : Int32))))) σ) ∧ (¬ a2 = 0 → Q (some (.int (a0 ||| ((1 : Int32) <<< (a1 &&& 31))))) σ))
theorem e_X8_withBit (a0 : Int32) (a1 : Int32) (a2 : Int32) (σ : ds_S) (Q : Option Value → ds_S → Prop) (h : w_X8_withBit a0 a1 a2 σ Q) : ds_E mt_X8_withBit Yc [.int a0, .int a1, .int a2] σ Q := by
  refine ds_enter (by decide) (Nat.le_of_ble_eq_true rfl) ?_
  show ds_X mt_X8_withBit Yc 0 [some (.int a0), some (.int a1), some (.int a2)] [] σ Q
  unfold w_X8_withBit at h
  refine ds_blk (ls2 := [some (.int a0), some (.int a1), some (.int a2)]) (st2 := [.int a2]) (σ2 := σ) ok_X8_withBit 0 1 0 1 [] rfl rfl rfl rfl trivial ?_
  refine ds_if_eq (show decode mt_X8_withBit.2.1 1 = .ok (.ifCond .eq 11, 3) from ds_dec (i := (1, .ifCond .eq 11, 3, 0, 0, 0, .int 0)) ok_X8_withBit 1 rfl) (t := 12) (by decide) (fun hc => ?_) (fun hc => ?_)
  · replace h := h.1 hc
    refine ds_blk (ls2 := [some (.int a0), some (.int a1), some (.int a2)]) (st2 := [.int (a0 &&& (((1 : Int32) <<< (a1 &&& 31)) ^^^ (-1 : Int32)))]) (σ2 := σ) ok_X8_withBit 8 7 12 19 [] rfl rfl rfl rfl trivial ?_
    exact ds_iret (show decode mt_X8_withBit.2.1 19 = .ok (.ireturn, 1) from ds_dec (i := (19, .ireturn, 1, 0, 0, 0, .int 0)) ok_X8_withBit 15 rfl) rfl h
  · replace h := h.2 hc
    refine ds_blk (ls2 := [some (.int a0), some (.int a1), some (.int a2)]) (st2 := [.int (a0 ||| ((1 : Int32) <<< (a1 &&& 31)))]) (σ2 := σ) ok_X8_withBit 2 5 4 9 [] rfl rfl rfl rfl trivial ?_
    refine ds_goto (show decode mt_X8_withBit.2.1 9 = .ok (.goto 10, 3) from ds_dec (i := (9, .goto 10, 3, 0, 0, 0, .int 0)) ok_X8_withBit 7 rfl) (t := 19) (by decide) ?_
    exact ds_iret (show decode mt_X8_withBit.2.1 19 = .ok (.ireturn, 1) from ds_dec (i := (19, .ireturn, 1, 0, 0, 0, .int 0)) ok_X8_withBit 15 rfl) rfl h
def w_X8_pair (a0 : Int32) (a1 : Int32) (σ : ds_S) (Q : Option Value → ds_S → Prop) : Prop := Q (some (.int ((a0 * (6 : Int32)) + a1))) σ
theorem e_X8_pair (a0 : Int32) (a1 : Int32) (σ : ds_S) (Q : Option Value → ds_S → Prop) (h : w_X8_pair a0 a1 σ Q) : ds_E mt_X8_pair Yc [.int a0, .int a1] σ Q := by
  refine ds_enter (by decide) (Nat.le_of_ble_eq_true rfl) ?_
  show ds_X mt_X8_pair Yc 0 [some (.int a0), some (.int a1)] [] σ Q
  unfold w_X8_pair at h
  refine ds_blk (ls2 := [some (.int a0), some (.int a1)]) (st2 := [.int ((a0 * (6 : Int32)) + a1)]) (σ2 := σ) ok_X8_pair 0 5 0 6 [] rfl rfl rfl rfl trivial ?_
  exact ds_iret (show decode mt_X8_pair.2.1 6 = .ok (.ireturn, 1) from ds_dec (i := (6, .ireturn, 1, 0, 0, 0, .int 0)) ok_X8_pair 5 rfl) rfl h
def w_X8_slot (a0 : Int32) (a1 : Int32) (σ : ds_S) (Q : Option Value → ds_S → Prop) : Prop := Q (some (.int (((2 : Int32) * a0) + a1))) σ
theorem e_X8_slot (a0 : Int32) (a1 : Int32) (σ : ds_S) (Q : Option Value → ds_S → Prop) (h : w_X8_slot a0 a1 σ Q) : ds_E mt_X8_slot Yc [.int a0, .int a1] σ Q := by
  refine ds_enter (by decide) (Nat.le_of_ble_eq_true rfl) ?_
  show ds_X mt_X8_slot Yc 0 [some (.int a0), some (.int a1)] [] σ Q
  unfold w_X8_slot at h
  refine ds_blk (ls2 := [some (.int a0), some (.int a1)]) (st2 := [.int (((2 : Int32) * a0) + a1)]) (σ2 := σ) ok_X8_slot 0 5 0 5 [] rfl rfl rfl rfl trivial ?_
  exact ds_iret (show decode mt_X8_slot.2.1 5 = .ok (.ireturn, 1) from ds_dec (i := (5, .ireturn, 1, 0, 0, 0, .int 0)) ok_X8_slot 5 rfl) rfl h
def w_X8_commonDivisor_3 : Nat → (v0 : Int64) → (v2 : Int64) → (v4 : Int32) → (σ : ds_S) → (Q : Option Value → ds_S → Prop) → Prop
  | 0, _, _, _, _, _ => False
  | f + 1, v0, v2, v4, σ, Q => (((100 : Int32) ≤ v4 → Q (some (.long v0)) σ) ∧ (¬ (100 : Int32) ≤ v4 → (((lg_cmp v2 (0 : Int64)) = 0 → Q (some (.long v0)) σ) ∧ (¬ (lg_cmp v2 (0 : Int64)) = 0 → ¬ v2 = 0 ∧ w_X8_commonDivisor_3 f v2 (v0 - v0 / v2 * v2) (v4 + (1 : Int32)) σ Q))))
theorem x_X8_commonDivisor_3 : ∀ (f : Nat) (v0 : Int64) (v2 : Int64) (v4 : Int32) (g1 : Option Value) (g3 : Option Value) (g5 : Option Value) (g6 : Option Value) (σ : ds_S) (Q : Option Value → ds_S → Prop), w_X8_commonDivisor_3 f v0 v2 v4 σ Q → ds_X mt_X8_commonDivisor Yc 3 [some (.long v0), g1, some (.long v2), g3, some (.int v4), g5, g6] [] σ Q := by
  intro f
  induction f with
  | zero => intro v0 v2 v4 g1 g3 g5 g6 σ Q h; exact False.elim h
  | succ f ih =>
    intro v0 v2 v4 g1 g3 g5 g6 σ Q h
    rw [w_X8_commonDivisor_3] at h
    refine ds_blk (ls2 := [some (.long v0), g1, some (.long v2), g3, some (.int v4), g5, g6]) (st2 := [.int (100 : Int32), .int v4]) (σ2 := σ) ok_X8_commonDivisor 2 2 3 7 [] rfl rfl rfl rfl trivial ?_
    refine ds_ic_ge (show decode mt_X8_commonDivisor.2.1 7 = .ok (.if_icmp .ge 25, 3) from ds_dec (i := (7, .if_icmp .ge 25, 3, 0, 0, 0, .int 0)) ok_X8_commonDivisor 4 rfl) (t := 32) (by decide) (fun hc => ?_) (fun hc => ?_)
    · replace h := h.1 hc
      refine ds_blk (ls2 := [some (.long v0), g1, some (.long v2), g3, some (.int v4), g5, g6]) (st2 := [.long v0]) (σ2 := σ) ok_X8_commonDivisor 19 1 32 33 [] rfl rfl rfl rfl trivial ?_
      exact ds_lret (show decode mt_X8_commonDivisor.2.1 33 = .ok (.lreturn, 1) from ds_dec (i := (33, .lreturn, 1, 0, 0, 0, .int 0)) ok_X8_commonDivisor 20 rfl) rfl h
    · replace h := h.2 hc
      refine ds_blk (ls2 := [some (.long v0), g1, some (.long v2), g3, some (.int v4), g5, g6]) (st2 := [.int (lg_cmp v2 (0 : Int64))]) (σ2 := σ) ok_X8_commonDivisor 5 3 10 13 [] rfl rfl rfl rfl trivial ?_
      refine ds_if_eq (show decode mt_X8_commonDivisor.2.1 13 = .ok (.ifCond .eq 19, 3) from ds_dec (i := (13, .ifCond .eq 19, 3, 0, 0, 0, .int 0)) ok_X8_commonDivisor 8 rfl) (t := 32) (by decide) (fun hc => ?_) (fun hc => ?_)
      · replace h := h.1 hc
        refine ds_blk (ls2 := [some (.long v0), g1, some (.long v2), g3, some (.int v4), g5, g6]) (st2 := [.long v0]) (σ2 := σ) ok_X8_commonDivisor 19 1 32 33 [] rfl rfl rfl rfl trivial ?_
        exact ds_lret (show decode mt_X8_commonDivisor.2.1 33 = .ok (.lreturn, 1) from ds_dec (i := (33, .lreturn, 1, 0, 0, 0, .int 0)) ok_X8_commonDivisor 20 rfl) rfl h
      · replace h := h.2 hc
        obtain ⟨o1, h⟩ := h
        refine ds_blk (ls2 := [some (.long v2), none, some (.long (v0 - v0 / v2 * v2)), none, some (.int (v4 + (1 : Int32))), some (.long (v0 - v0 / v2 * v2)), none]) (st2 := []) (σ2 := σ) ok_X8_commonDivisor 9 9 16 29 [¬ v2 = 0] rfl rfl rfl rfl ⟨o1, trivial⟩ ?_
        refine ds_goto (show decode mt_X8_commonDivisor.2.1 29 = .ok (.goto (-26), 3) from ds_dec (i := (29, .goto (-26), 3, 0, 0, 0, .int 0)) ok_X8_commonDivisor 18 rfl) (t := 3) (by decide) ?_
        exact ih v2 (v0 - v0 / v2 * v2) (v4 + (1 : Int32)) _ _ _ _ σ Q h
def w_X8_commonDivisor (a0 : Int64) (a2 : Int64) (σ : ds_S) (Q : Option Value → ds_S → Prop) : Prop := ∃ n, w_X8_commonDivisor_3 n a0 a2 (0 : Int32) σ Q
theorem e_X8_commonDivisor (a0 : Int64) (a2 : Int64) (σ : ds_S) (Q : Option Value → ds_S → Prop) (h : w_X8_commonDivisor a0 a2 σ Q) : ds_E mt_X8_commonDivisor Yc [.long a0, .long a2] σ Q := by
  refine ds_enter (by decide) (Nat.le_of_ble_eq_true rfl) ?_
  show ds_X mt_X8_commonDivisor Yc 0 [some (.long a0), none, some (.long a2), none, none, none, none] [] σ Q
  unfold w_X8_commonDivisor at h
  refine ds_blk (ls2 := [some (.long a0), none, some (.long a2), none, some (.int (0 : Int32)), none, none]) (st2 := []) (σ2 := σ) ok_X8_commonDivisor 0 2 0 3 [] rfl rfl rfl rfl trivial ?_
  obtain ⟨n, h⟩ := h
  refine x_X8_commonDivisor_3 n a0 a2 (0 : Int32) _ _ _ _ σ Q h
def w_X1_hasBox (a1 : Int32) (σ : ds_S) (Q : Option Value → ds_S → Prop) : Prop := ((a1 < 0 → Q (some (.int (0 : Int32))) σ) ∧ (¬ a1 < 0 → (((σ.1 1 0) ≤ a1 → Q (some (.int (0 : Int32))) σ) ∧ (¬ (σ.1 1 0) ≤ a1 → Q (some (.int (1 : Int32))) σ))))
theorem e_X1_hasBox (a1 : Int32) (σ : ds_S) (Q : Option Value → ds_S → Prop) (h : w_X1_hasBox a1 σ Q) : ds_E mt_X1_hasBox Yc [.ref 1, .int a1] σ Q := by
  refine ds_enter (by decide) (Nat.le_of_ble_eq_true rfl) ?_
  show ds_X mt_X1_hasBox Yc 0 [some (.ref 1), some (.int a1)] [] σ Q
  unfold w_X1_hasBox at h
  refine ds_blk (ls2 := [some (.ref 1), some (.int a1)]) (st2 := [.int a1]) (σ2 := σ) ok_X1_hasBox 0 1 0 1 [] rfl rfl rfl rfl trivial ?_
  refine ds_if_lt (show decode mt_X1_hasBox.2.1 1 = .ok (.ifCond .lt 15, 3) from ds_dec (i := (1, .ifCond .lt 15, 3, 0, 0, 0, .int 0)) ok_X1_hasBox 1 rfl) (t := 16) (by decide) (fun hc => ?_) (fun hc => ?_)
  · replace h := h.1 hc
    refine ds_blk (ls2 := [some (.ref 1), some (.int a1)]) (st2 := [.int (0 : Int32)]) (σ2 := σ) ok_X1_hasBox 8 1 16 17 [] rfl rfl rfl rfl trivial ?_
    exact ds_zret (show decode mt_X1_hasBox.2.1 17 = .ok (.ireturn, 1) from ds_dec (i := (17, .ireturn, 1, 0, 0, 0, .int 0)) ok_X1_hasBox 9 rfl) rfl (by decide) h
  · replace h := h.2 hc
    refine ds_blk (ls2 := [some (.ref 1), some (.int a1)]) (st2 := [.int (σ.1 1 0), .int a1]) (σ2 := σ) ok_X1_hasBox 2 3 4 9 [ds_k Yc 1 1] rfl rfl rfl rfl ⟨⟨by decide, rfl⟩, trivial⟩ ?_
    refine ds_ic_ge (show decode mt_X1_hasBox.2.1 9 = .ok (.if_icmp .ge 7, 3) from ds_dec (i := (9, .if_icmp .ge 7, 3, 0, 0, 0, .int 0)) ok_X1_hasBox 5 rfl) (t := 16) (by decide) (fun hc => ?_) (fun hc => ?_)
    · replace h := h.1 hc
      refine ds_blk (ls2 := [some (.ref 1), some (.int a1)]) (st2 := [.int (0 : Int32)]) (σ2 := σ) ok_X1_hasBox 8 1 16 17 [] rfl rfl rfl rfl trivial ?_
      exact ds_zret (show decode mt_X1_hasBox.2.1 17 = .ok (.ireturn, 1) from ds_dec (i := (17, .ireturn, 1, 0, 0, 0, .int 0)) ok_X1_hasBox 9 rfl) rfl (by decide) h
    · replace h := h.2 hc
      refine ds_blk (ls2 := [some (.ref 1), some (.int a1)]) (st2 := [.int (1 : Int32)]) (σ2 := σ) ok_X1_hasBox 6 1 12 13 [] rfl rfl rfl rfl trivial ?_
      refine ds_goto (show decode mt_X1_hasBox.2.1 13 = .ok (.goto 4, 3) from ds_dec (i := (13, .goto 4, 3, 0, 0, 0, .int 0)) ok_X1_hasBox 7 rfl) (t := 17) (by decide) ?_
      exact ds_zret (show decode mt_X1_hasBox.2.1 17 = .ok (.ireturn, 1) from ds_dec (i := (17, .ireturn, 1, 0, 0, 0, .int 0)) ok_X1_hasBox 9 rfl) rfl (by decide) h
def w_X1_hasLine (a1 : Int32) (σ : ds_S) (Q : Option Value → ds_S → Prop) : Prop := ((a1 < 0 → Q (some (.int (0 : Int32))) σ) ∧ (¬ a1 < 0 → (((σ.1 1 1) ≤ a1 → Q (some (.int (0 : Int32))) σ) ∧ (¬ (σ.1 1 1) ≤ a1 → Q (some (.int (1 : Int32))) σ))))
theorem e_X1_hasLine (a1 : Int32) (σ : ds_S) (Q : Option Value → ds_S → Prop) (h : w_X1_hasLine a1 σ Q) : ds_E mt_X1_hasLine Yc [.ref 1, .int a1] σ Q := by
  refine ds_enter (by decide) (Nat.le_of_ble_eq_true rfl) ?_
  show ds_X mt_X1_hasLine Yc 0 [some (.ref 1), some (.int a1)] [] σ Q
  unfold w_X1_hasLine at h
  refine ds_blk (ls2 := [some (.ref 1), some (.int a1)]) (st2 := [.int a1]) (σ2 := σ) ok_X1_hasLine 0 1 0 1 [] rfl rfl rfl rfl trivial ?_
  refine ds_if_lt (show decode mt_X1_hasLine.2.1 1 = .ok (.ifCond .lt 15, 3) from ds_dec (i := (1, .ifCond .lt 15, 3, 0, 0, 0, .int 0)) ok_X1_hasLine 1 rfl) (t := 16) (by decide) (fun hc => ?_) (fun hc => ?_)
  · replace h := h.1 hc
    refine ds_blk (ls2 := [some (.ref 1), some (.int a1)]) (st2 := [.int (0 : Int32)]) (σ2 := σ) ok_X1_hasLine 8 1 16 17 [] rfl rfl rfl rfl trivial ?_
    exact ds_zret (show decode mt_X1_hasLine.2.1 17 = .ok (.ireturn, 1) from ds_dec (i := (17, .ireturn, 1, 0, 0, 0, .int 0)) ok_X1_hasLine 9 rfl) rfl (by decide) h
  · replace h := h.2 hc
    refine ds_blk (ls2 := [some (.ref 1), some (.int a1)]) (st2 := [.int (σ.1 1 1), .int a1]) (σ2 := σ) ok_X1_hasLine 2 3 4 9 [ds_k Yc 1 1] rfl rfl rfl rfl ⟨⟨by decide, rfl⟩, trivial⟩ ?_
    refine ds_ic_ge (show decode mt_X1_hasLine.2.1 9 = .ok (.if_icmp .ge 7, 3) from ds_dec (i := (9, .if_icmp .ge 7, 3, 0, 0, 0, .int 0)) ok_X1_hasLine 5 rfl) (t := 16) (by decide) (fun hc => ?_) (fun hc => ?_)
    · replace h := h.1 hc
      refine ds_blk (ls2 := [some (.ref 1), some (.int a1)]) (st2 := [.int (0 : Int32)]) (σ2 := σ) ok_X1_hasLine 8 1 16 17 [] rfl rfl rfl rfl trivial ?_
      exact ds_zret (show decode mt_X1_hasLine.2.1 17 = .ok (.ireturn, 1) from ds_dec (i := (17, .ireturn, 1, 0, 0, 0, .int 0)) ok_X1_hasLine 9 rfl) rfl (by decide) h
    · replace h := h.2 hc
      refine ds_blk (ls2 := [some (.ref 1), some (.int a1)]) (st2 := [.int (1 : Int32)]) (σ2 := σ) ok_X1_hasLine 6 1 12 13 [] rfl rfl rfl rfl trivial ?_
      refine ds_goto (show decode mt_X1_hasLine.2.1 13 = .ok (.goto 4, 3) from ds_dec (i := (13, .goto 4, 3, 0, 0, 0, .int 0)) ok_X1_hasLine 7 rfl) (t := 17) (by decide) ?_
      exact ds_zret (show decode mt_X1_hasLine.2.1 17 = .ok (.ireturn, 1) from ds_dec (i := (17, .ireturn, 1, 0, 0, 0, .int 0)) ok_X1_hasLine 9 rfl) rfl (by decide) h
def w_X1_linesThere (a1 : Int32) (σ : ds_S) (Q : Option Value → ds_S → Prop) : Prop := ((¬ a1 = (-1 : Int32) → Q (some (.int (((((1 : Int32) <<< ((σ.1 1 1) &&& 31)) - (1 : Int32)) &&& ((σ.1 1 7) ^^^ (-1 : Int32))) &&& (((1 : Int32) <<< (a1 &&& 31)) ^^^ (-1 : Int32))))) σ) ∧ (a1 = (-1 : Int32) → Q (some (.int ((((1 : Int32) <<< ((σ.1 1 1) &&& 31)) - (1 : Int32)) &&& ((σ.1 1 7) ^^^ (-1 : Int32))))) σ))
theorem e_X1_linesThere (a1 : Int32) (σ : ds_S) (Q : Option Value → ds_S → Prop) (h : w_X1_linesThere a1 σ Q) : ds_E mt_X1_linesThere Yc [.ref 1, .int a1] σ Q := by
  refine ds_enter (by decide) (Nat.le_of_ble_eq_true rfl) ?_
  show ds_X mt_X1_linesThere Yc 0 [some (.ref 1), some (.int a1), none] [] σ Q
  unfold w_X1_linesThere at h
  refine ds_blk (ls2 := [some (.ref 1), some (.int a1), some (.int ((((1 : Int32) <<< ((σ.1 1 1) &&& 31)) - (1 : Int32)) &&& ((σ.1 1 7) ^^^ (-1 : Int32))))]) (st2 := [.int (-1 : Int32), .int a1]) (σ2 := σ) ok_X1_linesThere 0 14 0 18 [ds_k Yc 1 1, ds_k Yc 1 1] rfl rfl rfl rfl ⟨⟨by decide, rfl⟩, ⟨by decide, rfl⟩, trivial⟩ ?_
  refine ds_ic_ne (show decode mt_X1_linesThere.2.1 18 = .ok (.if_icmp .ne 7, 3) from ds_dec (i := (18, .if_icmp .ne 7, 3, 0, 0, 0, .int 0)) ok_X1_linesThere 14 rfl) (t := 25) (by decide) (fun hc => ?_) (fun hc => ?_)
  · replace h := h.1 hc
    refine ds_blk (ls2 := [some (.ref 1), some (.int a1), some (.int ((((1 : Int32) <<< ((σ.1 1 1) &&& 31)) - (1 : Int32)) &&& ((σ.1 1 7) ^^^ (-1 : Int32))))]) (st2 := [.int (((((1 : Int32) <<< ((σ.1 1 1) &&& 31)) - (1 : Int32)) &&& ((σ.1 1 7) ^^^ (-1 : Int32))) &&& (((1 : Int32) <<< (a1 &&& 31)) ^^^ (-1 : Int32)))]) (σ2 := σ) ok_X1_linesThere 17 7 25 32 [] rfl rfl rfl rfl trivial ?_
    exact ds_iret (show decode mt_X1_linesThere.2.1 32 = .ok (.ireturn, 1) from ds_dec (i := (32, .ireturn, 1, 0, 0, 0, .int 0)) ok_X1_linesThere 24 rfl) rfl h
  · replace h := h.2 hc
    refine ds_blk (ls2 := [some (.ref 1), some (.int a1), some (.int ((((1 : Int32) <<< ((σ.1 1 1) &&& 31)) - (1 : Int32)) &&& ((σ.1 1 7) ^^^ (-1 : Int32))))]) (st2 := [.int ((((1 : Int32) <<< ((σ.1 1 1) &&& 31)) - (1 : Int32)) &&& ((σ.1 1 7) ^^^ (-1 : Int32)))]) (σ2 := σ) ok_X1_linesThere 15 1 21 22 [] rfl rfl rfl rfl trivial ?_
    refine ds_goto (show decode mt_X1_linesThere.2.1 22 = .ok (.goto 10, 3) from ds_dec (i := (22, .goto 10, 3, 0, 0, 0, .int 0)) ok_X1_linesThere 16 rfl) (t := 32) (by decide) ?_
    exact ds_iret (show decode mt_X1_linesThere.2.1 32 = .ok (.ireturn, 1) from ds_dec (i := (32, .ireturn, 1, 0, 0, 0, .int 0)) ok_X1_linesThere 24 rfl) rfl h
def w_X2_place (a0 : Int32) (a1 : Int32) (a2 : Int32) (σ : ds_S) (Q : Option Value → ds_S → Prop) : Prop := Q (some (.int (((a0 * (36 : Int32)) + (a1 * (6 : Int32))) + a2))) σ
theorem e_X2_place (a0 : Int32) (a1 : Int32) (a2 : Int32) (σ : ds_S) (Q : Option Value → ds_S → Prop) (h : w_X2_place a0 a1 a2 σ Q) : ds_E mt_X2_place Yc [.int a0, .int a1, .int a2] σ Q := by
  refine ds_enter (by decide) (Nat.le_of_ble_eq_true rfl) ?_
  show ds_X mt_X2_place Yc 0 [some (.int a0), some (.int a1), some (.int a2)] [] σ Q
  unfold w_X2_place at h
  refine ds_blk (ls2 := [some (.int a0), some (.int a1), some (.int a2)]) (st2 := [.int (((a0 * (36 : Int32)) + (a1 * (6 : Int32))) + a2)]) (σ2 := σ) ok_X2_place 0 9 0 11 [] rfl rfl rfl rfl trivial ?_
  exact ds_iret (show decode mt_X2_place.2.1 11 = .ok (.ireturn, 1) from ds_dec (i := (11, .ireturn, 1, 0, 0, 0, .int 0)) ok_X2_place 9 rfl) rfl h
def w_X3_isAboveOne (a0 : Nat) (σ : ds_S) (Q : Option Value → ds_S → Prop) : Prop := ds_k Yc a0 3 ∧ ds_k Yc a0 3 ∧ (((lg_cmp (σ.2 a0 0) ((151200 : Int64) * (σ.1 a0 1).toInt64)) ≤ 0 → Q (some (.int (0 : Int32))) σ) ∧ (¬ (lg_cmp (σ.2 a0 0) ((151200 : Int64) * (σ.1 a0 1).toInt64)) ≤ 0 → Q (some (.int (1 : Int32))) σ))
theorem e_X3_isAboveOne (a0 : Nat) (σ : ds_S) (Q : Option Value → ds_S → Prop) (h : w_X3_isAboveOne a0 σ Q) : ds_E mt_X3_isAboveOne Yc [.ref a0] σ Q := by
  refine ds_enter (by decide) (Nat.le_of_ble_eq_true rfl) ?_
  show ds_X mt_X3_isAboveOne Yc 0 [some (.ref a0)] [] σ Q
  unfold w_X3_isAboveOne at h
  obtain ⟨o1, o2, h⟩ := h
  refine ds_blk (ls2 := [some (.ref a0)]) (st2 := [.int (lg_cmp (σ.2 a0 0) ((151200 : Int64) * (σ.1 a0 1).toInt64))]) (σ2 := σ) ok_X3_isAboveOne 0 8 0 14 [ds_k Yc a0 3, ds_k Yc a0 3] rfl rfl rfl rfl ⟨o1, o2, trivial⟩ ?_
  refine ds_if_le (show decode mt_X3_isAboveOne.2.1 14 = .ok (.ifCond .le 7, 3) from ds_dec (i := (14, .ifCond .le 7, 3, 0, 0, 0, .int 0)) ok_X3_isAboveOne 8 rfl) (t := 21) (by decide) (fun hc => ?_) (fun hc => ?_)
  · replace h := h.1 hc
    refine ds_blk (ls2 := [some (.ref a0)]) (st2 := [.int (0 : Int32)]) (σ2 := σ) ok_X3_isAboveOne 11 1 21 22 [] rfl rfl rfl rfl trivial ?_
    exact ds_zret (show decode mt_X3_isAboveOne.2.1 22 = .ok (.ireturn, 1) from ds_dec (i := (22, .ireturn, 1, 0, 0, 0, .int 0)) ok_X3_isAboveOne 12 rfl) rfl (by decide) h
  · replace h := h.2 hc
    refine ds_blk (ls2 := [some (.ref a0)]) (st2 := [.int (1 : Int32)]) (σ2 := σ) ok_X3_isAboveOne 9 1 17 18 [] rfl rfl rfl rfl trivial ?_
    refine ds_goto (show decode mt_X3_isAboveOne.2.1 18 = .ok (.goto 4, 3) from ds_dec (i := (18, .goto 4, 3, 0, 0, 0, .int 0)) ok_X3_isAboveOne 10 rfl) (t := 22) (by decide) ?_
    exact ds_zret (show decode mt_X3_isAboveOne.2.1 22 = .ok (.ireturn, 1) from ds_dec (i := (22, .ireturn, 1, 0, 0, 0, .int 0)) ok_X3_isAboveOne 12 rfl) rfl (by decide) h
def w_X5_choicesOf (a1 : Int32) (σ : ds_S) (Q : Option Value → ds_S → Prop) : Prop := vp_in a1 10 ∧ (((σ.1 64 a1.toNatClampNeg) ≤ (σ.1 14 6) → Q (some (.int (σ.1 14 6))) σ) ∧ (¬ (σ.1 64 a1.toNatClampNeg) ≤ (σ.1 14 6) → Q (some (.int ((σ.1 14 6) + (1 : Int32)))) σ))
theorem e_X5_choicesOf (a1 : Int32) (σ : ds_S) (Q : Option Value → ds_S → Prop) (h : w_X5_choicesOf a1 σ Q) : ds_E mt_X5_choicesOf Yc [.ref 14, .int a1] σ Q := by
  refine ds_enter (by decide) (Nat.le_of_ble_eq_true rfl) ?_
  show ds_X mt_X5_choicesOf Yc 0 [some (.ref 14), some (.int a1)] [] σ Q
  unfold w_X5_choicesOf at h
  obtain ⟨o1, h⟩ := h
  refine ds_blk (ls2 := [some (.ref 14), some (.int a1)]) (st2 := [.int (σ.1 14 6), .int (σ.1 64 a1.toNatClampNeg)]) (σ2 := σ) ok_X5_choicesOf 0 7 0 13 [ds_k Yc 14 5, ds_k Yc 1 1, ds_k Yc 64 10, vp_in a1 10, ds_k Yc 14 5] rfl rfl rfl rfl ⟨⟨by decide, rfl⟩, ⟨by decide, rfl⟩, ⟨by decide, rfl⟩, o1, ⟨by decide, rfl⟩, trivial⟩ ?_
  refine ds_ic_le (show decode mt_X5_choicesOf.2.1 13 = .ok (.if_icmp .le 12, 3) from ds_dec (i := (13, .if_icmp .le 12, 3, 0, 0, 0, .int 0)) ok_X5_choicesOf 7 rfl) (t := 25) (by decide) (fun hc => ?_) (fun hc => ?_)
  · replace h := h.1 hc
    refine ds_blk (ls2 := [some (.ref 14), some (.int a1)]) (st2 := [.int (σ.1 14 6)]) (σ2 := σ) ok_X5_choicesOf 13 2 25 29 [ds_k Yc 14 5] rfl rfl rfl rfl ⟨⟨by decide, rfl⟩, trivial⟩ ?_
    exact ds_iret (show decode mt_X5_choicesOf.2.1 29 = .ok (.ireturn, 1) from ds_dec (i := (29, .ireturn, 1, 0, 0, 0, .int 0)) ok_X5_choicesOf 15 rfl) rfl h
  · replace h := h.2 hc
    refine ds_blk (ls2 := [some (.ref 14), some (.int a1)]) (st2 := [.int ((σ.1 14 6) + (1 : Int32))]) (σ2 := σ) ok_X5_choicesOf 8 4 16 22 [ds_k Yc 14 5] rfl rfl rfl rfl ⟨⟨by decide, rfl⟩, trivial⟩ ?_
    refine ds_goto (show decode mt_X5_choicesOf.2.1 22 = .ok (.goto 7, 3) from ds_dec (i := (22, .goto 7, 3, 0, 0, 0, .int 0)) ok_X5_choicesOf 12 rfl) (t := 29) (by decide) ?_
    exact ds_iret (show decode mt_X5_choicesOf.2.1 29 = .ok (.ireturn, 1) from ds_dec (i := (29, .ireturn, 1, 0, 0, 0, .int 0)) ok_X5_choicesOf 15 rfl) rfl h
def w_X6_countNets (σ : ds_S) (Q : Option Value → ds_S → Prop) : Prop := (((σ.1 12 2) = 0 → Q (some (.int (1 : Int32))) σ) ∧ (¬ (σ.1 12 2) = 0 → Q (some (.int ((1 : Int32) + (σ.1 1 1)))) σ))
theorem e_X6_countNets (σ : ds_S) (Q : Option Value → ds_S → Prop) (h : w_X6_countNets σ Q) : ds_E mt_X6_countNets Yc [.ref 12] σ Q := by
  refine ds_enter (by decide) (Nat.le_of_ble_eq_true rfl) ?_
  show ds_X mt_X6_countNets Yc 0 [some (.ref 12)] [] σ Q
  unfold w_X6_countNets at h
  refine ds_blk (ls2 := [some (.ref 12)]) (st2 := [.int (σ.1 12 2)]) (σ2 := σ) ok_X6_countNets 0 2 0 4 [ds_k Yc 12 6] rfl rfl rfl rfl ⟨⟨by decide, rfl⟩, trivial⟩ ?_
  refine ds_if_eq (show decode mt_X6_countNets.2.1 4 = .ok (.ifCond .eq 15, 3) from ds_dec (i := (4, .ifCond .eq 15, 3, 0, 0, 0, .int 0)) ok_X6_countNets 2 rfl) (t := 19) (by decide) (fun hc => ?_) (fun hc => ?_)
  · replace h := h.1 hc
    refine ds_blk (ls2 := [some (.ref 12)]) (st2 := [.int (1 : Int32)]) (σ2 := σ) ok_X6_countNets 9 1 19 20 [] rfl rfl rfl rfl trivial ?_
    exact ds_iret (show decode mt_X6_countNets.2.1 20 = .ok (.ireturn, 1) from ds_dec (i := (20, .ireturn, 1, 0, 0, 0, .int 0)) ok_X6_countNets 10 rfl) rfl h
  · replace h := h.2 hc
    refine ds_blk (ls2 := [some (.ref 12)]) (st2 := [.int ((1 : Int32) + (σ.1 1 1))]) (σ2 := σ) ok_X6_countNets 3 5 7 16 [ds_k Yc 12 6, ds_k Yc 1 1] rfl rfl rfl rfl ⟨⟨by decide, rfl⟩, ⟨by decide, rfl⟩, trivial⟩ ?_
    refine ds_goto (show decode mt_X6_countNets.2.1 16 = .ok (.goto 4, 3) from ds_dec (i := (16, .goto 4, 3, 0, 0, 0, .int 0)) ok_X6_countNets 8 rfl) (t := 20) (by decide) ?_
    exact ds_iret (show decode mt_X6_countNets.2.1 20 = .ok (.ireturn, 1) from ds_dec (i := (20, .ireturn, 1, 0, 0, 0, .int 0)) ok_X6_countNets 10 rfl) rfl h
