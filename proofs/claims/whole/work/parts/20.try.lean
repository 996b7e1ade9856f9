def w_X9_ones_4 : Nat → (v0 : Int32) → (v1 : Int32) → (v2 : Int32) → (σ : ds_S) → (Q : Option Value → ds_S → Prop) → Prop
  | 0, _, _, _, _, _ => False
  | f + 1, v0, v1, v2, σ, Q => (((10 : Int32) ≤ v2 → Q (some (.int v1)) σ) ∧ (¬ (10 : Int32) ≤ v2 → w_X9_ones_4 f v0 (v1 + ((v0 >>> (v2 &&& 31)) &&& (1 : Int32))) (v2 + (1 : Int32)) σ Q))
theorem x_X9_ones_4 : ∀ (f : Nat) (v0 : Int32) (v1 : Int32) (v2 : Int32) (σ : ds_S) (Q : Option Value → ds_S → Prop), w_X9_ones_4 f v0 v1 v2 σ Q → ds_X mt_X9_ones Ym 4 [some (.int v0), some (.int v1), some (.int v2)] [] σ Q := by
  intro f
  induction f with
  | zero => intro v0 v1 v2 σ Q h; exact False.elim h
  | succ f ih =>
    intro v0 v1 v2 σ Q h
    rw [w_X9_ones_4] at h
    refine ds_blk (ls2 := [some (.int v0), some (.int v1), some (.int v2)]) (st2 := [.int (10 : Int32), .int v2]) (σ2 := σ) ok_X9_ones 4 2 4 7 [] rfl rfl rfl rfl trivial ?_
    refine ds_ic_ge (show decode mt_X9_ones.2.1 7 = .ok (.if_icmp .ge 17, 3) from ds_dec (i := (7, .if_icmp .ge 17, 3, 0, 0, 0, .int 0)) ok_X9_ones 6 rfl) (t := 24) (by decide) (fun hc => ?_) (fun hc => ?_)
    · replace h := h.1 hc
      refine ds_blk (ls2 := [some (.int v0), some (.int v1), some (.int v2)]) (st2 := [.int v1]) (σ2 := σ) ok_X9_ones 17 1 24 25 [] rfl rfl rfl rfl trivial ?_
      exact ds_iret (show decode mt_X9_ones.2.1 25 = .ok (.ireturn, 1) from ds_dec (i := (25, .ireturn, 1, 0, 0, 0, .int 0)) ok_X9_ones 18 rfl) rfl h
    · replace h := h.2 hc
      refine ds_blk (ls2 := [some (.int v0), some (.int (v1 + ((v0 >>> (v2 &&& 31)) &&& (1 : Int32)))), some (.int (v2 + (1 : Int32)))]) (st2 := []) (σ2 := σ) ok_X9_ones 7 9 10 21 [] rfl rfl rfl rfl trivial ?_
      refine ds_goto (show decode mt_X9_ones.2.1 21 = .ok (.goto (-17), 3) from ds_dec (i := (21, .goto (-17), 3, 0, 0, 0, .int 0)) ok_X9_ones 16 rfl) (t := 4) (by decide) ?_
      exact ih v0 (v1 + ((v0 >>> (v2 &&& 31)) &&& (1 : Int32))) (v2 + (1 : Int32)) σ Q h
def w_X9_ones (a0 : Int32) (σ : ds_S) (Q : Option Value → ds_S → Prop) : Prop := ∃ n, w_X9_ones_4 n a0 (0 : Int32) (0 : Int32) σ Q
theorem e_X9_ones (a0 : Int32) (σ : ds_S) (Q : Option Value → ds_S → Prop) (h : w_X9_ones a0 σ Q) : ds_E mt_X9_ones Ym [.int a0] σ Q := by
  refine ds_enter (by decide) (Nat.le_of_ble_eq_true rfl) ?_
  show ds_X mt_X9_ones Ym 0 [some (.int a0), none, none] [] σ Q
  unfold w_X9_ones at h
  refine ds_blk (ls2 := [some (.int a0), some (.int (0 : Int32)), some (.int (0 : Int32))]) (st2 := []) (σ2 := σ) ok_X9_ones 0 4 0 4 [] rfl rfl rfl rfl trivial ?_
  obtain ⟨n, h⟩ := h
  refine x_X9_ones_4 n a0 (0 : Int32) (0 : Int32) σ Q h
def w_X9_nextOf_55 (v1 : Int32) (v2 : Int32) (v3 : Int32) (t0 : Int32) (σ : ds_S) (Q : Option Value → ds_S → Prop) (K4 : Int32 → Int32 → Int32 → ds_S → Prop) : Prop := ((t0 = 0 → K4 v1 (v2 ||| (0 : Int32)) (v3 + (1 : Int32)) σ) ∧ (¬ t0 = 0 → K4 v1 (v2 ||| ((1 : Int32) <<< (v3 &&& 31))) (v3 + (1 : Int32)) σ))
theorem x_X9_nextOf_55 (v1 : Int32) (v2 : Int32) (v3 : Int32) (t0 : Int32) (g4 : Option Value) (σ : ds_S) (Q : Option Value → ds_S → Prop) (K4 : Int32 → Int32 → Int32 → ds_S → Prop) (hK4 : ∀ (v1 : Int32) (v2 : Int32) (v3 : Int32) (g4 : Option Value) (σ2 : ds_S), K4 v1 v2 v3 σ2 → ds_X mt_X9_nextOf Ym 4 [some (.ref 0), some (.int v1), some (.int v2), some (.int v3), g4] [] σ2 Q) (h : w_X9_nextOf_55 v1 v2 v3 t0 σ Q K4) : ds_X mt_X9_nextOf Ym 55 [some (.ref 0), some (.int v1), some (.int v2), some (.int v3), g4] [.int t0] σ Q := by
  unfold w_X9_nextOf_55 at h
  refine ds_blk (ls2 := [some (.ref 0), some (.int v1), some (.int v2), some (.int v3), some (.int t0)]) (st2 := [.int t0, .int v2]) (σ2 := σ) ok_X9_nextOf 33 3 55 60 [] rfl rfl rfl rfl trivial ?_
  refine ds_if_eq (show decode mt_X9_nextOf.2.1 60 = .ok (.ifCond .eq 9, 3) from ds_dec (i := (60, .ifCond .eq 9, 3, 0, 0, 0, .int 0)) ok_X9_nextOf 36 rfl) (t := 69) (by decide) (fun hc => ?_) (fun hc => ?_)
  · replace h := h.1 hc
    refine ds_blk (ls2 := [some (.ref 0), some (.int v1), some (.int (v2 ||| (0 : Int32))), some (.int (v3 + (1 : Int32))), some (.int t0)]) (st2 := []) (σ2 := σ) ok_X9_nextOf 41 4 69 75 [] rfl rfl rfl rfl trivial ?_
    refine ds_goto (show decode mt_X9_nextOf.2.1 75 = .ok (.goto (-71), 3) from ds_dec (i := (75, .goto (-71), 3, 0, 0, 0, .int 0)) ok_X9_nextOf 45 rfl) (t := 4) (by decide) ?_
    exact hK4 v1 (v2 ||| (0 : Int32)) (v3 + (1 : Int32)) _ σ h
  · replace h := h.2 hc
    refine ds_blk (ls2 := [some (.ref 0), some (.int v1), some (.int v2), some (.int v3), some (.int t0)]) (st2 := [.int ((1 : Int32) <<< (v3 &&& 31)), .int v2]) (σ2 := σ) ok_X9_nextOf 37 3 63 66 [] rfl rfl rfl rfl trivial ?_
    refine ds_goto (show decode mt_X9_nextOf.2.1 66 = .ok (.goto 4, 3) from ds_dec (i := (66, .goto 4, 3, 0, 0, 0, .int 0)) ok_X9_nextOf 40 rfl) (t := 70) (by decide) ?_
    refine ds_blk (ls2 := [some (.ref 0), some (.int v1), some (.int (v2 ||| ((1 : Int32) <<< (v3 &&& 31)))), some (.int (v3 + (1 : Int32))), some (.int t0)]) (st2 := []) (σ2 := σ) ok_X9_nextOf 42 3 70 75 [] rfl rfl rfl rfl trivial ?_
    refine ds_goto (show decode mt_X9_nextOf.2.1 75 = .ok (.goto (-71), 3) from ds_dec (i := (75, .goto (-71), 3, 0, 0, 0, .int 0)) ok_X9_nextOf 45 rfl) (t := 4) (by decide) ?_
    exact hK4 v1 (v2 ||| ((1 : Int32) <<< (v3 &&& 31))) (v3 + (1 : Int32)) _ σ h
def w_X9_nextOf_31 (v1 : Int32) (v2 : Int32) (v3 : Int32) (σ : ds_S) (Q : Option Value → ds_S → Prop) (K4 : Int32 → Int32 → Int32 → ds_S → Prop) : Prop := vp_in v3 10 ∧ ((¬ (σ.1 2 v3.toNatClampNeg) = v1 → w_X9_nextOf_55 v1 v2 v3 (0 : Int32) σ Q K4) ∧ ((σ.1 2 v3.toNatClampNeg) = v1 → ds_EI mt_X9_isNext Ym [.ref 0, .int v3, .int (1 : Int32)] σ (fun r1 σ1 => ((r1 = 0 → w_X9_nextOf_55 v1 v2 v3 (0 : Int32) σ1 Q K4) ∧ (¬ r1 = 0 → w_X9_nextOf_55 v1 v2 v3 (1 : Int32) σ1 Q K4)))))
theorem x_X9_nextOf_31 (v1 : Int32) (v2 : Int32) (v3 : Int32) (g4 : Option Value) (σ : ds_S) (Q : Option Value → ds_S → Prop) (K4 : Int32 → Int32 → Int32 → ds_S → Prop) (hK4 : ∀ (v1 : Int32) (v2 : Int32) (v3 : Int32) (g4 : Option Value) (σ2 : ds_S), K4 v1 v2 v3 σ2 → ds_X mt_X9_nextOf Ym 4 [some (.ref 0), some (.int v1), some (.int v2), some (.int v3), g4] [] σ2 Q) (h : w_X9_nextOf_31 v1 v2 v3 σ Q K4) : ds_X mt_X9_nextOf Ym 31 [some (.ref 0), some (.int v1), some (.int v2), some (.int v3), g4] [] σ Q := by
  unfold w_X9_nextOf_31 at h
  obtain ⟨o1, h⟩ := h
  refine ds_blk (ls2 := [some (.ref 0), some (.int v1), some (.int v2), some (.int v3), g4]) (st2 := [.int v1, .int (σ.1 2 v3.toNatClampNeg)]) (σ2 := σ) ok_X9_nextOf 19 5 31 38 [ds_k Ym 0 9, ds_k Ym 2 10, vp_in v3 10] rfl rfl rfl rfl ⟨⟨by decide, rfl⟩, ⟨by decide, rfl⟩, o1, trivial⟩ ?_
  refine ds_ic_ne (show decode mt_X9_nextOf.2.1 38 = .ok (.if_icmp .ne 16, 3) from ds_dec (i := (38, .if_icmp .ne 16, 3, 0, 0, 0, .int 0)) ok_X9_nextOf 24 rfl) (t := 54) (by decide) (fun hc => ?_) (fun hc => ?_)
  · replace h := h.1 hc
    refine ds_blk (ls2 := [some (.ref 0), some (.int v1), some (.int v2), some (.int v3), g4]) (st2 := [.int (0 : Int32)]) (σ2 := σ) ok_X9_nextOf 32 1 54 55 [] rfl rfl rfl rfl trivial ?_
    refine x_X9_nextOf_55 v1 v2 v3 (0 : Int32) _ σ Q K4 hK4 h
  · replace h := h.2 hc
    refine ds_blk (ls2 := [some (.ref 0), some (.int v1), some (.int v2), some (.int v3), g4]) (st2 := [.int (1 : Int32), .int v3, .ref 0]) (σ2 := σ) ok_X9_nextOf 25 3 41 44 [] rfl rfl rfl rfl trivial ?_
    refine ds_callV (z := mt_X9_isNext) (b := 0) (as := [.int v3, .int (1 : Int32)]) (rest := []) (show decode mt_X9_nextOf.2.1 44 = .ok (.invokevirtual 116, 3) from ds_dec (i := (44, .invokevirtual 116, 3, 0, 0, 898, .int 0)) ok_X9_nextOf 28 rfl) (ds_E.mono h (fun r σ1 hr => ?_)) ⟨zw_X9_isNext.1, zw_X9_isNext.2.1, zw_X9_isNext.2.2, by decide, by decide⟩ (ds_wb_T (p := 898) (by decide +kernel)) zi_X9_isNext zs_X9_isNext (by decide) rfl ⟨_, rfl, rfl⟩ (Nat.le_of_ble_eq_true rfl)
    obtain ⟨r1, rfl, h⟩ := hr
    show ds_X mt_X9_nextOf Ym 47 [some (.ref 0), some (.int v1), some (.int v2), some (.int v3), g4] [.int r1] σ1 Q
    refine ds_if_eq (show decode mt_X9_nextOf.2.1 47 = .ok (.ifCond .eq 7, 3) from ds_dec (i := (47, .ifCond .eq 7, 3, 0, 0, 0, .int 0)) ok_X9_nextOf 29 rfl) (t := 54) (by decide) (fun hc => ?_) (fun hc => ?_)
    · replace h := h.1 hc
      refine ds_blk (ls2 := [some (.ref 0), some (.int v1), some (.int v2), some (.int v3), g4]) (st2 := [.int (0 : Int32)]) (σ2 := σ1) ok_X9_nextOf 32 1 54 55 [] rfl rfl rfl rfl trivial ?_
      refine x_X9_nextOf_55 v1 v2 v3 (0 : Int32) _ σ1 Q K4 hK4 h
    · replace h := h.2 hc
      refine ds_blk (ls2 := [some (.ref 0), some (.int v1), some (.int v2), some (.int v3), g4]) (st2 := [.int (1 : Int32)]) (σ2 := σ1) ok_X9_nextOf 30 1 50 51 [] rfl rfl rfl rfl trivial ?_
      refine ds_goto (show decode mt_X9_nextOf.2.1 51 = .ok (.goto 4, 3) from ds_dec (i := (51, .goto 4, 3, 0, 0, 0, .int 0)) ok_X9_nextOf 31 rfl) (t := 55) (by decide) ?_
      refine x_X9_nextOf_55 v1 v2 v3 (1 : Int32) _ σ1 Q K4 hK4 h
def w_X9_nextOf_4 : Nat → (v1 : Int32) → (v2 : Int32) → (v3 : Int32) → (σ : ds_S) → (Q : Option Value → ds_S → Prop) → Prop
  | 0, _, _, _, _, _ => False
  | f + 1, v1, v2, v3, σ, Q => (((σ.1 0 7) ≤ v3 → Q (some (.int v2)) σ) ∧ (¬ (σ.1 0 7) ≤ v3 → vp_in v3 10 ∧ ((¬ (σ.1 1 v3.toNatClampNeg) = v1 → w_X9_nextOf_31 v1 v2 v3 σ Q (fun v1_1 v2_1 v3_1 σ1 => w_X9_nextOf_4 f v1_1 v2_1 v3_1 σ1 Q)) ∧ ((σ.1 1 v3.toNatClampNeg) = v1 → ds_EI mt_X9_isNext Ym [.ref 0, .int v3, .int (0 : Int32)] σ (fun r2 σ2 => ((¬ r2 = 0 → w_X9_nextOf_55 v1 v2 v3 (1 : Int32) σ2 Q (fun v1_3 v2_3 v3_3 σ3 => w_X9_nextOf_4 f v1_3 v2_3 v3_3 σ3 Q)) ∧ (r2 = 0 → w_X9_nextOf_31 v1 v2 v3 σ2 Q (fun v1_4 v2_4 v3_4 σ4 => w_X9_nextOf_4 f v1_4 v2_4 v3_4 σ4 Q))))))))
theorem x_X9_nextOf_4 : ∀ (f : Nat) (v1 : Int32) (v2 : Int32) (v3 : Int32) (g4 : Option Value) (σ : ds_S) (Q : Option Value → ds_S → Prop), w_X9_nextOf_4 f v1 v2 v3 σ Q → ds_X mt_X9_nextOf Ym 4 [some (.ref 0), some (.int v1), some (.int v2), some (.int v3), g4] [] σ Q := by
  intro f
  induction f with
  | zero => intro v1 v2 v3 g4 σ Q h; exact False.elim h
  | succ f ih =>
    intro v1 v2 v3 g4 σ Q h
    rw [w_X9_nextOf_4] at h
    refine ds_blk (ls2 := [some (.ref 0), some (.int v1), some (.int v2), some (.int v3), g4]) (st2 := [.int (σ.1 0 7), .int v3]) (σ2 := σ) ok_X9_nextOf 4 3 4 9 [ds_k Ym 0 9] rfl rfl rfl rfl ⟨⟨by decide, rfl⟩, trivial⟩ ?_
    refine ds_ic_ge (show decode mt_X9_nextOf.2.1 9 = .ok (.if_icmp .ge 69, 3) from ds_dec (i := (9, .if_icmp .ge 69, 3, 0, 0, 0, .int 0)) ok_X9_nextOf 7 rfl) (t := 78) (by decide) (fun hc => ?_) (fun hc => ?_)
    · replace h := h.1 hc
      refine ds_blk (ls2 := [some (.ref 0), some (.int v1), some (.int v2), some (.int v3), g4]) (st2 := [.int v2]) (σ2 := σ) ok_X9_nextOf 46 1 78 79 [] rfl rfl rfl rfl trivial ?_
      exact ds_iret (show decode mt_X9_nextOf.2.1 79 = .ok (.ireturn, 1) from ds_dec (i := (79, .ireturn, 1, 0, 0, 0, .int 0)) ok_X9_nextOf 47 rfl) rfl h
    · replace h := h.2 hc
      obtain ⟨o1, h⟩ := h
      refine ds_blk (ls2 := [some (.ref 0), some (.int v1), some (.int v2), some (.int v3), g4]) (st2 := [.int v1, .int (σ.1 1 v3.toNatClampNeg)]) (σ2 := σ) ok_X9_nextOf 8 5 12 19 [ds_k Ym 0 9, ds_k Ym 1 10, vp_in v3 10] rfl rfl rfl rfl ⟨⟨by decide, rfl⟩, ⟨by decide, rfl⟩, o1, trivial⟩ ?_
      refine ds_ic_ne (show decode mt_X9_nextOf.2.1 19 = .ok (.if_icmp .ne 12, 3) from ds_dec (i := (19, .if_icmp .ne 12, 3, 0, 0, 0, .int 0)) ok_X9_nextOf 13 rfl) (t := 31) (by decide) (fun hc => ?_) (fun hc => ?_)
      · replace h := h.1 hc
        refine x_X9_nextOf_31 v1 v2 v3 _ σ Q _ ?_ h
        · intro v1_1 v2_1 v3_1 g4_1 σ1 h
          exact ih v1_1 v2_1 v3_1 _ σ1 Q h
      · replace h := h.2 hc
        refine ds_blk (ls2 := [some (.ref 0), some (.int v1), some (.int v2), some (.int v3), g4]) (st2 := [.int (0 : Int32), .int v3, .ref 0]) (σ2 := σ) ok_X9_nextOf 14 3 22 25 [] rfl rfl rfl rfl trivial ?_
        refine ds_callV (z := mt_X9_isNext) (b := 0) (as := [.int v3, .int (0 : Int32)]) (rest := []) (show decode mt_X9_nextOf.2.1 25 = .ok (.invokevirtual 116, 3) from ds_dec (i := (25, .invokevirtual 116, 3, 0, 0, 898, .int 0)) ok_X9_nextOf 17 rfl) (ds_E.mono h (fun r σ2 hr => ?_)) ⟨zw_X9_isNext.1, zw_X9_isNext.2.1, zw_X9_isNext.2.2, by decide, by decide⟩ (ds_wb_T (p := 898) (by decide +kernel)) zi_X9_isNext zs_X9_isNext (by decide) rfl ⟨_, rfl, rfl⟩ (Nat.le_of_ble_eq_true rfl)
        obtain ⟨r2, rfl, h⟩ := hr
        show ds_X mt_X9_nextOf Ym 28 [some (.ref 0), some (.int v1), some (.int v2), some (.int v3), g4] [.int r2] σ2 Q
        refine ds_if_ne (show decode mt_X9_nextOf.2.1 28 = .ok (.ifCond .ne 22, 3) from ds_dec (i := (28, .ifCond .ne 22, 3, 0, 0, 0, .int 0)) ok_X9_nextOf 18 rfl) (t := 50) (by decide) (fun hc => ?_) (fun hc => ?_)
        · replace h := h.1 hc
          refine ds_blk (ls2 := [some (.ref 0), some (.int v1), some (.int v2), some (.int v3), g4]) (st2 := [.int (1 : Int32)]) (σ2 := σ2) ok_X9_nextOf 30 1 50 51 [] rfl rfl rfl rfl trivial ?_
          refine ds_goto (show decode mt_X9_nextOf.2.1 51 = .ok (.goto 4, 3) from ds_dec (i := (51, .goto 4, 3, 0, 0, 0, .int 0)) ok_X9_nextOf 31 rfl) (t := 55) (by decide) ?_
          refine x_X9_nextOf_55 v1 v2 v3 (1 : Int32) _ σ2 Q _ ?_ h
          · intro v1_3 v2_3 v3_3 g4_3 σ3 h
            exact ih v1_3 v2_3 v3_3 _ σ3 Q h
        · replace h := h.2 hc
          refine x_X9_nextOf_31 v1 v2 v3 _ σ2 Q _ ?_ h
          · intro v1_4 v2_4 v3_4 g4_4 σ4 h
            exact ih v1_4 v2_4 v3_4 _ σ4 Q h
def w_X9_nextOf (a1 : Int32) (σ : ds_S) (Q : Option Value → ds_S → Prop) : Prop := ∃ n, w_X9_nextOf_4 n a1 (0 : Int32) (0 : Int32) σ Q
theorem e_X9_nextOf (a1 : Int32) (σ : ds_S) (Q : Option Value → ds_S → Prop) (h : w_X9_nextOf a1 σ Q) : ds_E mt_X9_nextOf Ym [.ref 0, .int a1] σ Q := by
  refine ds_enter (by decide) (Nat.le_of_ble_eq_true rfl) ?_
  show ds_X mt_X9_nextOf Ym 0 [some (.ref 0), some (.int a1), none, none, none] [] σ Q
  unfold w_X9_nextOf at h
  refine ds_blk (ls2 := [some (.ref 0), some (.int a1), some (.int (0 : Int32)), some (.int (0 : Int32)), none]) (st2 := []) (σ2 := σ) ok_X9_nextOf 0 4 0 4 [] rfl rfl rfl rfl trivial ?_
  obtain ⟨n, h⟩ := h
  refine x_X9_nextOf_4 n a1 (0 : Int32) (0 : Int32) _ σ Q h
def w_X9_findFar_2 : Nat → (v1 : Int32) → (v2 : Int32) → (σ : ds_S) → (Q : Option Value → ds_S → Prop) → (K31 : ds_S → Prop) → Prop
  | 0, _, _, _, _, _ => False
  | f + 1, v1, v2, σ, Q, K31 => (((6 : Int32) ≤ v2 → K31 σ) ∧ (¬ (6 : Int32) ≤ v2 → ((¬ v2 = v1 → vp_in v2 6 ∧ w_X9_findFar_2 f v1 (v2 + (1 : Int32)) (ds_wi σ 9 v2.toNatClampNeg (1000000 : Int32)) Q K31) ∧ (v2 = v1 → vp_in v2 6 ∧ w_X9_findFar_2 f v1 (v2 + (1 : Int32)) (ds_wi σ 9 v2.toNatClampNeg (0 : Int32)) Q K31))))
theorem x_X9_findFar_2 : ∀ (f : Nat) (v1 : Int32) (v2 : Int32) (g3 : Option Value) (g4 : Option Value) (g5 : Option Value) (σ : ds_S) (Q : Option Value → ds_S → Prop) (K31 : ds_S → Prop) (hK31 : ∀ (g1 : Option Value) (g2 : Option Value) (g3 : Option Value) (g4 : Option Value) (g5 : Option Value) (σ2 : ds_S), K31 σ2 → ds_X mt_X9_findFar Ym 31 [some (.ref 0), g1, g2, g3, g4, g5] [] σ2 Q), w_X9_findFar_2 f v1 v2 σ Q K31 → ds_X mt_X9_findFar Ym 2 [some (.ref 0), some (.int v1), some (.int v2), g3, g4, g5] [] σ Q := by
  intro f
  induction f with
  | zero => intro v1 v2 g3 g4 g5 σ Q K31 hK31 h; exact False.elim h
  | succ f ih =>
    intro v1 v2 g3 g4 g5 σ Q K31 hK31 h
    rw [w_X9_findFar_2] at h
    refine ds_blk (ls2 := [some (.ref 0), some (.int v1), some (.int v2), g3, g4, g5]) (st2 := [.int (6 : Int32), .int v2]) (σ2 := σ) ok_X9_findFar 2 2 2 5 [] rfl rfl rfl rfl trivial ?_
    refine ds_ic_ge (show decode mt_X9_findFar.2.1 5 = .ok (.if_icmp .ge 26, 3) from ds_dec (i := (5, .if_icmp .ge 26, 3, 0, 0, 0, .int 0)) ok_X9_findFar 4 rfl) (t := 31) (by decide) (fun hc => ?_) (fun hc => ?_)
    · replace h := h.1 hc
      exact hK31  _ _ _ _ _ σ h
    · replace h := h.2 hc
      refine ds_blk (ls2 := [some (.ref 0), some (.int v1), some (.int v2), g3, g4, g5]) (st2 := [.int v1, .int v2, .int v2, .ref 9]) (σ2 := σ) ok_X9_findFar 5 5 8 15 [ds_k Ym 0 9] rfl rfl rfl rfl ⟨⟨by decide, rfl⟩, trivial⟩ ?_
      refine ds_ic_ne (show decode mt_X9_findFar.2.1 15 = .ok (.if_icmp .ne 7, 3) from ds_dec (i := (15, .if_icmp .ne 7, 3, 0, 0, 0, .int 0)) ok_X9_findFar 10 rfl) (t := 22) (by decide) (fun hc => ?_) (fun hc => ?_)
      · replace h := h.1 hc
        obtain ⟨o1, h⟩ := h
        refine ds_blk (ls2 := [some (.ref 0), some (.int v1), some (.int (v2 + (1 : Int32))), g3, g4, g5]) (st2 := []) (σ2 := (ds_wi σ 9 v2.toNatClampNeg (1000000 : Int32))) ok_X9_findFar 13 3 22 28 [ds_k Ym 9 10, vp_in v2 6] rfl rfl rfl rfl ⟨⟨by decide, rfl⟩, o1, trivial⟩ ?_
        refine ds_goto (show decode mt_X9_findFar.2.1 28 = .ok (.goto (-26), 3) from ds_dec (i := (28, .goto (-26), 3, 0, 0, 0, .int 0)) ok_X9_findFar 16 rfl) (t := 2) (by decide) ?_
        exact ih v1 (v2 + (1 : Int32)) _ _ _ (ds_wi σ 9 v2.toNatClampNeg (1000000 : Int32)) Q K31 hK31 h
      · replace h := h.2 hc
        refine ds_blk (ls2 := [some (.ref 0), some (.int v1), some (.int v2), g3, g4, g5]) (st2 := [.int (0 : Int32), .int v2, .ref 9]) (σ2 := σ) ok_X9_findFar 11 1 18 19 [] rfl rfl rfl rfl trivial ?_
        refine ds_goto (show decode mt_X9_findFar.2.1 19 = .ok (.goto 5, 3) from ds_dec (i := (19, .goto 5, 3, 0, 0, 0, .int 0)) ok_X9_findFar 12 rfl) (t := 24) (by decide) ?_
        obtain ⟨o2, h⟩ := h
        refine ds_blk (ls2 := [some (.ref 0), some (.int v1), some (.int (v2 + (1 : Int32))), g3, g4, g5]) (st2 := []) (σ2 := (ds_wi σ 9 v2.toNatClampNeg (0 : Int32))) ok_X9_findFar 14 2 24 28 [ds_k Ym 9 10, vp_in v2 6] rfl rfl rfl rfl ⟨⟨by decide, rfl⟩, o2, trivial⟩ ?_
        refine ds_goto (show decode mt_X9_findFar.2.1 28 = .ok (.goto (-26), 3) from ds_dec (i := (28, .goto (-26), 3, 0, 0, 0, .int 0)) ok_X9_findFar 16 rfl) (t := 2) (by decide) ?_
        exact ih v1 (v2 + (1 : Int32)) _ _ _ (ds_wi σ 9 v2.toNatClampNeg (0 : Int32)) Q K31 hK31 h
def w_X9_findFar_129 (v2 : Int32) (v3 : Int32) (v4 : Int32) (v5 : Int32) (t0 : Int32) (t1 : Int32) (σ : ds_S) (Q : Option Value → ds_S → Prop) (K43 : Int32 → Int32 → ds_S → Prop) : Prop := vp_in t1 6 ∧ vp_in v4 6 ∧ vp_in v3 10 ∧ vp_in v5 6 ∧ ((((ds_wi σ 9 t1.toNatClampNeg t0).1 9 v5.toNatClampNeg) ≤ (((ds_wi σ 9 t1.toNatClampNeg t0).1 9 v4.toNatClampNeg) + (σ.1 4 v3.toNatClampNeg)) → vp_in v5 6 ∧ vp_in v5 6 ∧ K43 v2 (v3 + (1 : Int32)) (ds_wi (ds_wi σ 9 t1.toNatClampNeg t0) 9 v5.toNatClampNeg ((ds_wi σ 9 t1.toNatClampNeg t0).1 9 v5.toNatClampNeg))) ∧ (¬ ((ds_wi σ 9 t1.toNatClampNeg t0).1 9 v5.toNatClampNeg) ≤ (((ds_wi σ 9 t1.toNatClampNeg t0).1 9 v4.toNatClampNeg) + (σ.1 4 v3.toNatClampNeg)) → vp_in v4 6 ∧ vp_in v3 10 ∧ vp_in v5 6 ∧ K43 v2 (v3 + (1 : Int32)) (ds_wi (ds_wi σ 9 t1.toNatClampNeg t0) 9 v5.toNatClampNeg (((ds_wi σ 9 t1.toNatClampNeg t0).1 9 v4.toNatClampNeg) + (σ.1 4 v3.toNatClampNeg)))))
theorem x_X9_findFar_129 (v2 : Int32) (v3 : Int32) (v4 : Int32) (v5 : Int32) (t0 : Int32) (t1 : Int32) (g1 : Option Value) (σ : ds_S) (Q : Option Value → ds_S → Prop) (K43 : Int32 → Int32 → ds_S → Prop) (hK43 : ∀ (v2 : Int32) (v3 : Int32) (g1 : Option Value) (g4 : Option Value) (g5 : Option Value) (σ2 : ds_S), K43 v2 v3 σ2 → ds_X mt_X9_findFar Ym 43 [some (.ref 0), g1, some (.int v2), some (.int v3), g4, g5] [] σ2 Q) (h : w_X9_findFar_129 v2 v3 v4 v5 t0 t1 σ Q K43) : ds_X mt_X9_findFar Ym 129 [some (.ref 0), g1, some (.int v2), some (.int v3), some (.int v4), some (.int v5)] [.int t0, .int t1, .ref 9] σ Q := by
  unfold w_X9_findFar_129 at h
  obtain ⟨o1, o2, o3, o4, h⟩ := h
  refine ds_blk (ls2 := [some (.ref 0), g1, some (.int v2), some (.int v3), some (.int v4), some (.int v5)]) (st2 := [.int ((ds_wi σ 9 t1.toNatClampNeg t0).1 9 v5.toNatClampNeg), .int (((ds_wi σ 9 t1.toNatClampNeg t0).1 9 v4.toNatClampNeg) + (σ.1 4 v3.toNatClampNeg)), .int v5, .ref 9]) (σ2 := (ds_wi σ 9 t1.toNatClampNeg t0)) ok_X9_findFar 74 17 129 157 [ds_k Ym 9 10, vp_in t1 6, ds_k Ym 0 9, ds_k Ym 0 9, ds_k Ym 9 10, vp_in v4 6, ds_k Ym 0 9, ds_k Ym 4 10, vp_in v3 10, ds_k Ym 0 9, ds_k Ym 9 10, vp_in v5 6] rfl rfl rfl rfl ⟨⟨by decide, rfl⟩, o1, ⟨by decide, rfl⟩, ⟨by decide, rfl⟩, ⟨by decide, rfl⟩, o2, ⟨by decide, rfl⟩, ⟨by decide, rfl⟩, o3, ⟨by decide, rfl⟩, ⟨by decide, rfl⟩, o4, trivial⟩ ?_
  refine ds_ic_ge (show decode mt_X9_findFar.2.1 157 = .ok (.if_icmp .ge 20, 3) from ds_dec (i := (157, .if_icmp .ge 20, 3, 0, 0, 0, .int 0)) ok_X9_findFar 91 rfl) (t := 177) (by decide) (fun hc => ?_) (fun hc => ?_)
  · replace h := h.1 hc
    obtain ⟨o5, o6, h⟩ := h
    refine ds_blk (ls2 := [some (.ref 0), g1, some (.int v2), some (.int (v3 + (1 : Int32))), some (.int v4), some (.int v5)]) (st2 := []) (σ2 := (ds_wi (ds_wi σ 9 t1.toNatClampNeg t0) 9 v5.toNatClampNeg ((ds_wi σ 9 t1.toNatClampNeg t0).1 9 v5.toNatClampNeg))) ok_X9_findFar 102 6 177 188 [ds_k Ym 0 9, ds_k Ym 9 10, vp_in v5 6, ds_k Ym 9 10, vp_in v5 6] rfl rfl rfl rfl ⟨⟨by decide, rfl⟩, ⟨by decide, rfl⟩, o5, ⟨by decide, rfl⟩, o6, trivial⟩ ?_
    refine ds_goto (show decode mt_X9_findFar.2.1 188 = .ok (.goto (-145), 3) from ds_dec (i := (188, .goto (-145), 3, 0, 0, 0, .int 0)) ok_X9_findFar 108 rfl) (t := 43) (by decide) ?_
    exact hK43 v2 (v3 + (1 : Int32)) _ _ _ (ds_wi (ds_wi σ 9 t1.toNatClampNeg t0) 9 v5.toNatClampNeg ((ds_wi σ 9 t1.toNatClampNeg t0).1 9 v5.toNatClampNeg)) h
  · replace h := h.2 hc
    obtain ⟨o7, o8, h⟩ := h
    refine ds_blk (ls2 := [some (.ref 0), g1, some (.int v2), some (.int v3), some (.int v4), some (.int v5)]) (st2 := [.int (((ds_wi σ 9 t1.toNatClampNeg t0).1 9 v4.toNatClampNeg) + (σ.1 4 v3.toNatClampNeg)), .int v5, .ref 9]) (σ2 := (ds_wi σ 9 t1.toNatClampNeg t0)) ok_X9_findFar 92 9 160 174 [ds_k Ym 0 9, ds_k Ym 9 10, vp_in v4 6, ds_k Ym 0 9, ds_k Ym 4 10, vp_in v3 10] rfl rfl rfl rfl ⟨⟨by decide, rfl⟩, ⟨by decide, rfl⟩, o7, ⟨by decide, rfl⟩, ⟨by decide, rfl⟩, o8, trivial⟩ ?_
    refine ds_goto (show decode mt_X9_findFar.2.1 174 = .ok (.goto 10, 3) from ds_dec (i := (174, .goto 10, 3, 0, 0, 0, .int 0)) ok_X9_findFar 101 rfl) (t := 184) (by decide) ?_
    obtain ⟨o9, h⟩ := h
    refine ds_blk (ls2 := [some (.ref 0), g1, some (.int v2), some (.int (v3 + (1 : Int32))), some (.int v4), some (.int v5)]) (st2 := []) (σ2 := (ds_wi (ds_wi σ 9 t1.toNatClampNeg t0) 9 v5.toNatClampNeg (((ds_wi σ 9 t1.toNatClampNeg t0).1 9 v4.toNatClampNeg) + (σ.1 4 v3.toNatClampNeg)))) ok_X9_findFar 106 2 184 188 [ds_k Ym 9 10, vp_in v5 6] rfl rfl rfl rfl ⟨⟨by decide, rfl⟩, o9, trivial⟩ ?_
    refine ds_goto (show decode mt_X9_findFar.2.1 188 = .ok (.goto (-145), 3) from ds_dec (i := (188, .goto (-145), 3, 0, 0, 0, .int 0)) ok_X9_findFar 108 rfl) (t := 43) (by decide) ?_
    exact hK43 v2 (v3 + (1 : Int32)) _ _ _ (ds_wi (ds_wi σ 9 t1.toNatClampNeg t0) 9 v5.toNatClampNeg (((ds_wi σ 9 t1.toNatClampNeg t0).1 9 v4.toNatClampNeg) + (σ.1 4 v3.toNatClampNeg))) h
def w_X9_findFar_43 : Nat → (v2 : Int32) → (v3 : Int32) → (σ : ds_S) → (Q : Option Value → ds_S → Prop) → (K191 : Int32 → ds_S → Prop) → Prop
  | 0, _, _, _, _, _ => False
  | f + 1, v2, v3, σ, Q, K191 => (((σ.1 0 7) ≤ v3 → K191 v2 σ) ∧ (¬ (σ.1 0 7) ≤ v3 → vp_in v3 10 ∧ vp_in v3 10 ∧ ds_EI mt_X9_isThere Ym [.ref 0, .int v3] σ (fun r1 σ1 => ((r1 = 0 → w_X9_findFar_43 f v2 (v3 + (1 : Int32)) σ1 Q K191) ∧ (¬ r1 = 0 → vp_in (σ.1 2 v3.toNatClampNeg) 6 ∧ vp_in v3 10 ∧ vp_in (σ.1 1 v3.toNatClampNeg) 6 ∧ (((σ1.1 9 ((σ.1 1 v3.toNatClampNeg).toNatClampNeg)) ≤ ((σ1.1 9 ((σ.1 2 v3.toNatClampNeg).toNatClampNeg)) + (σ1.1 4 v3.toNatClampNeg)) → vp_in (σ.1 1 v3.toNatClampNeg) 6 ∧ w_X9_findFar_129 v2 v3 (σ.1 1 v3.toNatClampNeg) (σ.1 2 v3.toNatClampNeg) (σ1.1 9 ((σ.1 1 v3.toNatClampNeg).toNatClampNeg)) (σ.1 1 v3.toNatClampNeg) σ1 Q (fun v2_2 v3_2 σ2 => w_X9_findFar_43 f v2_2 v3_2 σ2 Q K191)) ∧ (¬ (σ1.1 9 ((σ.1 1 v3.toNatClampNeg).toNatClampNeg)) ≤ ((σ1.1 9 ((σ.1 2 v3.toNatClampNeg).toNatClampNeg)) + (σ1.1 4 v3.toNatClampNeg)) → vp_in (σ.1 2 v3.toNatClampNeg) 6 ∧ vp_in v3 10 ∧ w_X9_findFar_129 v2 v3 (σ.1 1 v3.toNatClampNeg) (σ.1 2 v3.toNatClampNeg) ((σ1.1 9 ((σ.1 2 v3.toNatClampNeg).toNatClampNeg)) + (σ1.1 4 v3.toNatClampNeg)) (σ.1 1 v3.toNatClampNeg) σ1 Q (fun v2_3 v3_3 σ3 => w_X9_findFar_43 f v2_3 v3_3 σ3 Q K191))))))))
theorem x_X9_findFar_43 : ∀ (f : Nat) (v2 : Int32) (v3 : Int32) (g1 : Option Value) (g4 : Option Value) (g5 : Option Value) (σ : ds_S) (Q : Option Value → ds_S → Prop) (K191 : Int32 → ds_S → Prop) (hK191 : ∀ (v2 : Int32) (g1 : Option Value) (g3 : Option Value) (g4 : Option Value) (g5 : Option Value) (σ2 : ds_S), K191 v2 σ2 → ds_X mt_X9_findFar Ym 191 [some (.ref 0), g1, some (.int v2), g3, g4, g5] [] σ2 Q), w_X9_findFar_43 f v2 v3 σ Q K191 → ds_X mt_X9_findFar Ym 43 [some (.ref 0), g1, some (.int v2), some (.int v3), g4, g5] [] σ Q := by
  intro f
  induction f with
  | zero => intro v2 v3 g1 g4 g5 σ Q K191 hK191 h; exact False.elim h
  | succ f ih =>
    intro v2 v3 g1 g4 g5 σ Q K191 hK191 h
    rw [w_X9_findFar_43] at h
    refine ds_blk (ls2 := [some (.ref 0), g1, some (.int v2), some (.int v3), g4, g5]) (st2 := [.int (σ.1 0 7), .int v3]) (σ2 := σ) ok_X9_findFar 25 3 43 48 [ds_k Ym 0 9] rfl rfl rfl rfl ⟨⟨by decide, rfl⟩, trivial⟩ ?_
    refine ds_ic_ge (show decode mt_X9_findFar.2.1 48 = .ok (.if_icmp .ge 143, 3) from ds_dec (i := (48, .if_icmp .ge 143, 3, 0, 0, 0, .int 0)) ok_X9_findFar 28 rfl) (t := 191) (by decide) (fun hc => ?_) (fun hc => ?_)
    · replace h := h.1 hc
      exact hK191 v2 _ _ _ _ σ h
    · replace h := h.2 hc
      obtain ⟨o1, o2, h⟩ := h
      refine ds_blk (ls2 := [some (.ref 0), g1, some (.int v2), some (.int v3), some (.int (σ.1 1 v3.toNatClampNeg)), some (.int (σ.1 2 v3.toNatClampNeg))]) (st2 := [.int v3, .ref 0]) (σ2 := σ) ok_X9_findFar 29 12 51 69 [ds_k Ym 0 9, ds_k Ym 1 10, vp_in v3 10, ds_k Ym 0 9, ds_k Ym 2 10, vp_in v3 10] rfl rfl rfl rfl ⟨⟨by decide, rfl⟩, ⟨by decide, rfl⟩, o1, ⟨by decide, rfl⟩, ⟨by decide, rfl⟩, o2, trivial⟩ ?_
      refine ds_callV (z := mt_X9_isThere) (b := 0) (as := [.int v3]) (rest := []) (show decode mt_X9_findFar.2.1 69 = .ok (.invokevirtual 109, 3) from ds_dec (i := (69, .invokevirtual 109, 3, 0, 0, 886, .int 0)) ok_X9_findFar 41 rfl) (ds_E.mono h (fun r σ1 hr => ?_)) ⟨zw_X9_isThere.1, zw_X9_isThere.2.1, zw_X9_isThere.2.2, by decide, by decide⟩ (ds_wb_T (p := 886) (by decide +kernel)) zi_X9_isThere zs_X9_isThere (by decide) rfl ⟨_, rfl, rfl⟩ (Nat.le_of_ble_eq_true rfl)
      obtain ⟨r1, rfl, h⟩ := hr
      show ds_X mt_X9_findFar Ym 72 [some (.ref 0), g1, some (.int v2), some (.int v3), some (.int (σ.1 1 v3.toNatClampNeg)), some (.int (σ.1 2 v3.toNatClampNeg))] [.int r1] σ1 Q
      refine ds_if_eq (show decode mt_X9_findFar.2.1 72 = .ok (.ifCond .eq 113, 3) from ds_dec (i := (72, .ifCond .eq 113, 3, 0, 0, 0, .int 0)) ok_X9_findFar 42 rfl) (t := 185) (by decide) (fun hc => ?_) (fun hc => ?_)
      · replace h := h.1 hc
        refine ds_blk (ls2 := [some (.ref 0), g1, some (.int v2), some (.int (v3 + (1 : Int32))), some (.int (σ.1 1 v3.toNatClampNeg)), some (.int (σ.1 2 v3.toNatClampNeg))]) (st2 := []) (σ2 := σ1) ok_X9_findFar 107 1 185 188 [] rfl rfl rfl rfl trivial ?_
        refine ds_goto (show decode mt_X9_findFar.2.1 188 = .ok (.goto (-145), 3) from ds_dec (i := (188, .goto (-145), 3, 0, 0, 0, .int 0)) ok_X9_findFar 108 rfl) (t := 43) (by decide) ?_
        exact ih v2 (v3 + (1 : Int32)) _ _ _ σ1 Q K191 hK191 h
      · replace h := h.2 hc
        obtain ⟨o3, o4, o5, h⟩ := h
        refine ds_blk (ls2 := [some (.ref 0), g1, some (.int v2), some (.int v3), some (.int (σ.1 1 v3.toNatClampNeg)), some (.int (σ.1 2 v3.toNatClampNeg))]) (st2 := [.int (σ1.1 9 ((σ.1 1 v3.toNatClampNeg).toNatClampNeg)), .int ((σ1.1 9 ((σ.1 2 v3.toNatClampNeg).toNatClampNeg)) + (σ1.1 4 v3.toNatClampNeg)), .int (σ.1 1 v3.toNatClampNeg), .ref 9]) (σ2 := σ1) ok_X9_findFar 43 16 75 102 [ds_k Ym 0 9, ds_k Ym 0 9, ds_k Ym 9 10, vp_in (σ.1 2 v3.toNatClampNeg) 6, ds_k Ym 0 9, ds_k Ym 4 10, vp_in v3 10, ds_k Ym 0 9, ds_k Ym 9 10, vp_in (σ.1 1 v3.toNatClampNeg) 6] rfl rfl rfl rfl ⟨⟨by decide, rfl⟩, ⟨by decide, rfl⟩, ⟨by decide, rfl⟩, o3, ⟨by decide, rfl⟩, ⟨by decide, rfl⟩, o4, ⟨by decide, rfl⟩, ⟨by decide, rfl⟩, o5, trivial⟩ ?_
        refine ds_ic_ge (show decode mt_X9_findFar.2.1 102 = .ok (.if_icmp .ge 20, 3) from ds_dec (i := (102, .if_icmp .ge 20, 3, 0, 0, 0, .int 0)) ok_X9_findFar 59 rfl) (t := 122) (by decide) (fun hc => ?_) (fun hc => ?_)
        · replace h := h.1 hc
          obtain ⟨o6, h⟩ := h
          refine ds_blk (ls2 := [some (.ref 0), g1, some (.int v2), some (.int v3), some (.int (σ.1 1 v3.toNatClampNeg)), some (.int (σ.1 2 v3.toNatClampNeg))]) (st2 := [.int (σ1.1 9 ((σ.1 1 v3.toNatClampNeg).toNatClampNeg)), .int (σ.1 1 v3.toNatClampNeg), .ref 9]) (σ2 := σ1) ok_X9_findFar 70 4 122 129 [ds_k Ym 0 9, ds_k Ym 9 10, vp_in (σ.1 1 v3.toNatClampNeg) 6] rfl rfl rfl rfl ⟨⟨by decide, rfl⟩, ⟨by decide, rfl⟩, o6, trivial⟩ ?_
          refine x_X9_findFar_129 v2 v3 (σ.1 1 v3.toNatClampNeg) (σ.1 2 v3.toNatClampNeg) (σ1.1 9 ((σ.1 1 v3.toNatClampNeg).toNatClampNeg)) (σ.1 1 v3.toNatClampNeg) _ σ1 Q _ ?_ h
          · intro v2_2 v3_2 g1_2 g4_2 g5_2 σ2 h
            exact ih v2_2 v3_2 _ _ _ σ2 Q K191 hK191 h
        · replace h := h.2 hc
          obtain ⟨o7, o8, h⟩ := h
          refine ds_blk (ls2 := [some (.ref 0), g1, some (.int v2), some (.int v3), some (.int (σ.1 1 v3.toNatClampNeg)), some (.int (σ.1 2 v3.toNatClampNeg))]) (st2 := [.int ((σ1.1 9 ((σ.1 2 v3.toNatClampNeg).toNatClampNeg)) + (σ1.1 4 v3.toNatClampNeg)), .int (σ.1 1 v3.toNatClampNeg), .ref 9]) (σ2 := σ1) ok_X9_findFar 60 9 105 119 [ds_k Ym 0 9, ds_k Ym 9 10, vp_in (σ.1 2 v3.toNatClampNeg) 6, ds_k Ym 0 9, ds_k Ym 4 10, vp_in v3 10] rfl rfl rfl rfl ⟨⟨by decide, rfl⟩, ⟨by decide, rfl⟩, o7, ⟨by decide, rfl⟩, ⟨by decide, rfl⟩, o8, trivial⟩ ?_
          refine ds_goto (show decode mt_X9_findFar.2.1 119 = .ok (.goto 10, 3) from ds_dec (i := (119, .goto 10, 3, 0, 0, 0, .int 0)) ok_X9_findFar 69 rfl) (t := 129) (by decide) ?_
          refine x_X9_findFar_129 v2 v3 (σ.1 1 v3.toNatClampNeg) (σ.1 2 v3.toNatClampNeg) ((σ1.1 9 ((σ.1 2 v3.toNatClampNeg).toNatClampNeg)) + (σ1.1 4 v3.toNatClampNeg)) (σ.1 1 v3.toNatClampNeg) _ σ1 Q _ ?_ h
          · intro v2_3 v3_3 g1_3 g4_3 g5_3 σ3 h
            exact ih v2_3 v3_3 _ _ _ σ3 Q K191 hK191 h
def w_X9_findFar_33 : Nat → (v2 : Int32) → (σ : ds_S) → (Q : Option Value → ds_S → Prop) → Prop
  | 0, _, _, _ => False
  | f + 1, v2, σ, Q => (((σ.1 0 0) ≤ v2 → Q none σ) ∧ (¬ (σ.1 0 0) ≤ v2 → ∃ n, w_X9_findFar_43 n v2 (0 : Int32) σ Q (fun v2_1 σ1 => w_X9_findFar_33 f (v2_1 + (1 : Int32)) σ1 Q)))
theorem x_X9_findFar_33 : ∀ (f : Nat) (v2 : Int32) (g1 : Option Value) (g3 : Option Value) (g4 : Option Value) (g5 : Option Value) (σ : ds_S) (Q : Option Value → ds_S → Prop), w_X9_findFar_33 f v2 σ Q → ds_X mt_X9_findFar Ym 33 [some (.ref 0), g1, some (.int v2), g3, g4, g5] [] σ Q := by
  intro f
  induction f with
  | zero => intro v2 g1 g3 g4 g5 σ Q h; exact False.elim h
  | succ f ih =>
    intro v2 g1 g3 g4 g5 σ Q h
    rw [w_X9_findFar_33] at h
    refine ds_blk (ls2 := [some (.ref 0), g1, some (.int v2), g3, g4, g5]) (st2 := [.int (σ.1 0 0), .int v2]) (σ2 := σ) ok_X9_findFar 19 3 33 38 [ds_k Ym 0 9] rfl rfl rfl rfl ⟨⟨by decide, rfl⟩, trivial⟩ ?_
    refine ds_ic_ge (show decode mt_X9_findFar.2.1 38 = .ok (.if_icmp .ge 159, 3) from ds_dec (i := (38, .if_icmp .ge 159, 3, 0, 0, 0, .int 0)) ok_X9_findFar 22 rfl) (t := 197) (by decide) (fun hc => ?_) (fun hc => ?_)
    · replace h := h.1 hc
      exact ds_vret (show decode mt_X9_findFar.2.1 197 = .ok (.return_, 1) from ds_dec (i := (197, .return_, 1, 0, 0, 0, .int 0)) ok_X9_findFar 111 rfl) rfl h
    · replace h := h.2 hc
      refine ds_blk (ls2 := [some (.ref 0), g1, some (.int v2), some (.int (0 : Int32)), g4, g5]) (st2 := []) (σ2 := σ) ok_X9_findFar 23 2 41 43 [] rfl rfl rfl rfl trivial ?_
      obtain ⟨n, h⟩ := h
      refine x_X9_findFar_43 n v2 (0 : Int32) _ _ _ σ Q _ ?_ h
      · intro v2_1 g1_1 g3_1 g4_1 g5_1 σ1 h
        refine ds_blk (ls2 := [some (.ref 0), (ds_nl g1_1), some (.int (v2_1 + (1 : Int32))), g3_1, g4_1, g5_1]) (st2 := []) (σ2 := σ1) ok_X9_findFar 109 1 191 194 [] rfl rfl rfl rfl trivial ?_
        refine ds_goto (show decode mt_X9_findFar.2.1 194 = .ok (.goto (-161), 3) from ds_dec (i := (194, .goto (-161), 3, 0, 0, 0, .int 0)) ok_X9_findFar 110 rfl) (t := 33) (by decide) ?_
        exact ih (v2_1 + (1 : Int32)) _ _ _ _ σ1 Q h
def w_X9_findFar (a1 : Int32) (σ : ds_S) (Q : Option Value → ds_S → Prop) : Prop := ∃ n, w_X9_findFar_2 n a1 (0 : Int32) σ Q (fun σ1 => ∃ n, w_X9_findFar_33 n (0 : Int32) σ1 Q)
theorem e_X9_findFar (a1 : Int32) (σ : ds_S) (Q : Option Value → ds_S → Prop) (h : w_X9_findFar a1 σ Q) : ds_E mt_X9_findFar Ym [.ref 0, .int a1] σ Q := by
  refine ds_enter (by decide) (Nat.le_of_ble_eq_true rfl) ?_
  show ds_X mt_X9_findFar Ym 0 [some (.ref 0), some (.int a1), none, none, none, none] [] σ Q
  unfold w_X9_findFar at h
  refine ds_blk (ls2 := [some (.ref 0), some (.int a1), some (.int (0 : Int32)), none, none, none]) (st2 := []) (σ2 := σ) ok_X9_findFar 0 2 0 2 [] rfl rfl rfl rfl trivial ?_
  obtain ⟨n, h⟩ := h
  refine x_X9_findFar_2 n a1 (0 : Int32) _ _ _ σ Q _ ?_ h
  · intro g1_1 g2_1 g3_1 g4_1 g5_1 σ1 h
    refine ds_blk (ls2 := [some (.ref 0), (ds_nl g1_1), some (.int (0 : Int32)), g3_1, g4_1, g5_1]) (st2 := []) (σ2 := σ1) ok_X9_findFar 17 2 31 33 [] rfl rfl rfl rfl trivial ?_
    obtain ⟨n, h⟩ := h
    refine x_X9_findFar_33 n (0 : Int32) _ _ _ _ σ1 Q h
def w_X9_parts_77 (v1 : Int32) (v2 : Int32) (v3 : Int32) (v4 : Int32) (v5 : Int32) (t0 : Int32) (σ : ds_S) (Q : Option Value → ds_S → Prop) (K14 : Int32 → Int32 → Int32 → Int32 → ds_S → Prop) : Prop := vp_in (((2 : Int32) * v4) + v5) 20 ∧ vp_in v1 6 ∧ ¬ v3.toInt64 = 0 ∧ vp_in (((2 : Int32) * v4) + v5) 20 ∧ vp_in t0 6 ∧ vp_in v1 6 ∧ ¬ v3.toInt64 = 0 ∧ vp_in t0 6 ∧ K14 v1 v2 v3 (v4 + (1 : Int32)) (ds_wl (ds_wl σ 11 ((((2 : Int32) * v4) + v5).toNatClampNeg) ((σ.2 11 ((((2 : Int32) * v4) + v5).toNatClampNeg)) + ((σ.2 10 v1.toNatClampNeg) / v3.toInt64))) 10 t0.toNatClampNeg ((σ.2 10 t0.toNatClampNeg) + ((σ.2 10 v1.toNatClampNeg) / v3.toInt64)))
theorem x_X9_parts_77 (v1 : Int32) (v2 : Int32) (v3 : Int32) (v4 : Int32) (v5 : Int32) (t0 : Int32) (g6 : Option Value) (σ : ds_S) (Q : Option Value → ds_S → Prop) (K14 : Int32 → Int32 → Int32 → Int32 → ds_S → Prop) (hK14 : ∀ (v1 : Int32) (v2 : Int32) (v3 : Int32) (v4 : Int32) (g5 : Option Value) (g6 : Option Value) (σ2 : ds_S), K14 v1 v2 v3 v4 σ2 → ds_X mt_X9_parts Ym 14 [some (.ref 0), some (.int v1), some (.int v2), some (.int v3), some (.int v4), g5, g6] [] σ2 Q) (h : w_X9_parts_77 v1 v2 v3 v4 v5 t0 σ Q K14) : ds_X mt_X9_parts Ym 77 [some (.ref 0), some (.int v1), some (.int v2), some (.int v3), some (.int v4), some (.int v5), g6] [.int t0] σ Q := by
  unfold w_X9_parts_77 at h
  obtain ⟨o1, o2, o3, o4, o5, o6, o7, o8, h⟩ := h
  refine ds_blk (ls2 := [some (.ref 0), some (.int v1), some (.int v2), some (.int v3), some (.int (v4 + (1 : Int32))), some (.int v5), some (.int t0)]) (st2 := []) (σ2 := (ds_wl (ds_wl σ 11 ((((2 : Int32) * v4) + v5).toNatClampNeg) ((σ.2 11 ((((2 : Int32) * v4) + v5).toNatClampNeg)) + ((σ.2 10 v1.toNatClampNeg) / v3.toInt64))) 10 t0.toNatClampNeg ((σ.2 10 t0.toNatClampNeg) + ((σ.2 10 v1.toNatClampNeg) / v3.toInt64)))) ok_X9_parts 43 34 77 125 [ds_k Ym 0 9, ds_k Ym 11 11, vp_in (((2 : Int32) * v4) + v5) 20, ds_k Ym 0 9, ds_k Ym 10 11, vp_in v1 6, ¬ v3.toInt64 = 0, ds_k Ym 11 11, vp_in (((2 : Int32) * v4) + v5) 20, ds_k Ym 0 9, ds_k Ym 10 11, vp_in t0 6, ds_k Ym 0 9, ds_k Ym 10 11, vp_in v1 6, ¬ v3.toInt64 = 0, ds_k Ym 10 11, vp_in t0 6] rfl rfl rfl rfl ⟨⟨by decide, rfl⟩, ⟨by decide, rfl⟩, o1, ⟨by decide, rfl⟩, ⟨by decide, rfl⟩, o2, o3, ⟨by decide, rfl⟩, o4, ⟨by decide, rfl⟩, ⟨by decide, rfl⟩, o5, ⟨by decide, rfl⟩, ⟨by decide, rfl⟩, o6, o7, ⟨by decide, rfl⟩, o8, trivial⟩ ?_
  refine ds_goto (show decode mt_X9_parts.2.1 125 = .ok (.goto (-111), 3) from ds_dec (i := (125, .goto (-111), 3, 0, 0, 0, .int 0)) ok_X9_parts 77 rfl) (t := 14) (by decide) ?_
  exact hK14 v1 v2 v3 (v4 + (1 : Int32)) _ _ (ds_wl (ds_wl σ 11 ((((2 : Int32) * v4) + v5).toNatClampNeg) ((σ.2 11 ((((2 : Int32) * v4) + v5).toNatClampNeg)) + ((σ.2 10 v1.toNatClampNeg) / v3.toInt64))) 10 t0.toNatClampNeg ((σ.2 10 t0.toNatClampNeg) + ((σ.2 10 v1.toNatClampNeg) / v3.toInt64))) h
def w_X9_parts_53 (v1 : Int32) (v2 : Int32) (v3 : Int32) (v4 : Int32) (t0 : Int32) (σ : ds_S) (Q : Option Value → ds_S → Prop) (K14 : Int32 → Int32 → Int32 → Int32 → ds_S → Prop) : Prop := ((¬ t0 = 0 → vp_in v4 10 ∧ w_X9_parts_77 v1 v2 v3 v4 t0 (σ.1 1 v4.toNatClampNeg) σ Q K14) ∧ (t0 = 0 → vp_in v4 10 ∧ w_X9_parts_77 v1 v2 v3 v4 t0 (σ.1 2 v4.toNatClampNeg) σ Q K14))
theorem x_X9_parts_53 (v1 : Int32) (v2 : Int32) (v3 : Int32) (v4 : Int32) (t0 : Int32) (g5 : Option Value) (g6 : Option Value) (σ : ds_S) (Q : Option Value → ds_S → Prop) (K14 : Int32 → Int32 → Int32 → Int32 → ds_S → Prop) (hK14 : ∀ (v1 : Int32) (v2 : Int32) (v3 : Int32) (v4 : Int32) (g5 : Option Value) (g6 : Option Value) (σ2 : ds_S), K14 v1 v2 v3 v4 σ2 → ds_X mt_X9_parts Ym 14 [some (.ref 0), some (.int v1), some (.int v2), some (.int v3), some (.int v4), g5, g6] [] σ2 Q) (h : w_X9_parts_53 v1 v2 v3 v4 t0 σ Q K14) : ds_X mt_X9_parts Ym 53 [some (.ref 0), some (.int v1), some (.int v2), some (.int v3), some (.int v4), g5, g6] [.int t0] σ Q := by
  unfold w_X9_parts_53 at h
  refine ds_blk (ls2 := [some (.ref 0), some (.int v1), some (.int v2), some (.int v3), some (.int v4), some (.int t0), g6]) (st2 := [.int t0]) (σ2 := σ) ok_X9_parts 31 2 53 57 [] rfl rfl rfl rfl trivial ?_
  refine ds_if_ne (show decode mt_X9_parts.2.1 57 = .ok (.ifCond .ne 13, 3) from ds_dec (i := (57, .ifCond .ne 13, 3, 0, 0, 0, .int 0)) ok_X9_parts 33 rfl) (t := 70) (by decide) (fun hc => ?_) (fun hc => ?_)
  · replace h := h.1 hc
    obtain ⟨o1, h⟩ := h
    refine ds_blk (ls2 := [some (.ref 0), some (.int v1), some (.int v2), some (.int v3), some (.int v4), some (.int t0), g6]) (st2 := [.int (σ.1 1 v4.toNatClampNeg)]) (σ2 := σ) ok_X9_parts 39 4 70 77 [ds_k Ym 0 9, ds_k Ym 1 10, vp_in v4 10] rfl rfl rfl rfl ⟨⟨by decide, rfl⟩, ⟨by decide, rfl⟩, o1, trivial⟩ ?_
    refine x_X9_parts_77 v1 v2 v3 v4 t0 (σ.1 1 v4.toNatClampNeg) _ σ Q K14 hK14 h
  · replace h := h.2 hc
    obtain ⟨o2, h⟩ := h
    refine ds_blk (ls2 := [some (.ref 0), some (.int v1), some (.int v2), some (.int v3), some (.int v4), some (.int t0), g6]) (st2 := [.int (σ.1 2 v4.toNatClampNeg)]) (σ2 := σ) ok_X9_parts 34 4 60 67 [ds_k Ym 0 9, ds_k Ym 2 10, vp_in v4 10] rfl rfl rfl rfl ⟨⟨by decide, rfl⟩, ⟨by decide, rfl⟩, o2, trivial⟩ ?_
    refine ds_goto (show decode mt_X9_parts.2.1 67 = .ok (.goto 10, 3) from ds_dec (i := (67, .goto 10, 3, 0, 0, 0, .int 0)) ok_X9_parts 38 rfl) (t := 77) (by decide) ?_
    refine x_X9_parts_77 v1 v2 v3 v4 t0 (σ.1 2 v4.toNatClampNeg) _ σ Q K14 hK14 h
def w_X9_parts_14 : Nat → (v1 : Int32) → (v2 : Int32) → (v3 : Int32) → (v4 : Int32) → (σ : ds_S) → (Q : Option Value → ds_S → Prop) → Prop
  | 0, _, _, _, _, _, _ => False
  | f + 1, v1, v2, v3, v4, σ, Q => (((σ.1 0 7) ≤ v4 → Q none σ) ∧ (¬ (σ.1 0 7) ≤ v4 → ((v3 ≤ 0 → Q none σ) ∧ (¬ v3 ≤ 0 → ((¬ ((v2 >>> (v4 &&& 31)) &&& (1 : Int32)) = (1 : Int32) → w_X9_parts_14 f v1 v2 v3 (v4 + (1 : Int32)) σ Q) ∧ (((v2 >>> (v4 &&& 31)) &&& (1 : Int32)) = (1 : Int32) → vp_in v4 10 ∧ ((¬ (σ.1 1 v4.toNatClampNeg) = v1 → w_X9_parts_53 v1 v2 v3 v4 (1 : Int32) σ Q (fun v1_1 v2_1 v3_1 v4_1 σ1 => w_X9_parts_14 f v1_1 v2_1 v3_1 v4_1 σ1 Q)) ∧ ((σ.1 1 v4.toNatClampNeg) = v1 → w_X9_parts_53 v1 v2 v3 v4 (0 : Int32) σ Q (fun v1_2 v2_2 v3_2 v4_2 σ2 => w_X9_parts_14 f v1_2 v2_2 v3_2 v4_2 σ2 Q)))))))))
theorem x_X9_parts_14 : ∀ (f : Nat) (v1 : Int32) (v2 : Int32) (v3 : Int32) (v4 : Int32) (g5 : Option Value) (g6 : Option Value) (σ : ds_S) (Q : Option Value → ds_S → Prop), w_X9_parts_14 f v1 v2 v3 v4 σ Q → ds_X mt_X9_parts Ym 14 [some (.ref 0), some (.int v1), some (.int v2), some (.int v3), some (.int v4), g5, g6] [] σ Q := by
  intro f
  induction f with
  | zero => intro v1 v2 v3 v4 g5 g6 σ Q h; exact False.elim h
  | succ f ih =>
    intro v1 v2 v3 v4 g5 g6 σ Q h
    rw [w_X9_parts_14] at h
    refine ds_blk (ls2 := [some (.ref 0), some (.int v1), some (.int v2), some (.int v3), some (.int v4), g5, g6]) (st2 := [.int (σ.1 0 7), .int v4]) (σ2 := σ) ok_X9_parts 9 3 14 20 [ds_k Ym 0 9] rfl rfl rfl rfl ⟨⟨by decide, rfl⟩, trivial⟩ ?_
    refine ds_ic_ge (show decode mt_X9_parts.2.1 20 = .ok (.if_icmp .ge 108, 3) from ds_dec (i := (20, .if_icmp .ge 108, 3, 0, 0, 0, .int 0)) ok_X9_parts 12 rfl) (t := 128) (by decide) (fun hc => ?_) (fun hc => ?_)
    · replace h := h.1 hc
      exact ds_vret (show decode mt_X9_parts.2.1 128 = .ok (.return_, 1) from ds_dec (i := (128, .return_, 1, 0, 0, 0, .int 0)) ok_X9_parts 78 rfl) rfl h
    · replace h := h.2 hc
      refine ds_blk (ls2 := [some (.ref 0), some (.int v1), some (.int v2), some (.int v3), some (.int v4), g5, g6]) (st2 := [.int v3]) (σ2 := σ) ok_X9_parts 13 1 23 24 [] rfl rfl rfl rfl trivial ?_
      refine ds_if_le (show decode mt_X9_parts.2.1 24 = .ok (.ifCond .le 104, 3) from ds_dec (i := (24, .ifCond .le 104, 3, 0, 0, 0, .int 0)) ok_X9_parts 14 rfl) (t := 128) (by decide) (fun hc => ?_) (fun hc => ?_)
      · replace h := h.1 hc
        exact ds_vret (show decode mt_X9_parts.2.1 128 = .ok (.return_, 1) from ds_dec (i := (128, .return_, 1, 0, 0, 0, .int 0)) ok_X9_parts 78 rfl) rfl h
      · replace h := h.2 hc
        refine ds_blk (ls2 := [some (.ref 0), some (.int v1), some (.int v2), some (.int v3), some (.int v4), g5, g6]) (st2 := [.int (1 : Int32), .int ((v2 >>> (v4 &&& 31)) &&& (1 : Int32))]) (σ2 := σ) ok_X9_parts 15 6 27 34 [] rfl rfl rfl rfl trivial ?_
        refine ds_ic_ne (show decode mt_X9_parts.2.1 34 = .ok (.if_icmp .ne 88, 3) from ds_dec (i := (34, .if_icmp .ne 88, 3, 0, 0, 0, .int 0)) ok_X9_parts 21 rfl) (t := 122) (by decide) (fun hc => ?_) (fun hc => ?_)
        · replace h := h.1 hc
          refine ds_blk (ls2 := [some (.ref 0), some (.int v1), some (.int v2), some (.int v3), some (.int (v4 + (1 : Int32))), g5, g6]) (st2 := []) (σ2 := σ) ok_X9_parts 76 1 122 125 [] rfl rfl rfl rfl trivial ?_
          refine ds_goto (show decode mt_X9_parts.2.1 125 = .ok (.goto (-111), 3) from ds_dec (i := (125, .goto (-111), 3, 0, 0, 0, .int 0)) ok_X9_parts 77 rfl) (t := 14) (by decide) ?_
          exact ih v1 v2 v3 (v4 + (1 : Int32)) _ _ σ Q h
        · replace h := h.2 hc
          obtain ⟨o1, h⟩ := h
          refine ds_blk (ls2 := [some (.ref 0), some (.int v1), some (.int v2), some (.int v3), some (.int v4), g5, g6]) (st2 := [.int v1, .int (σ.1 1 v4.toNatClampNeg)]) (σ2 := σ) ok_X9_parts 22 5 37 45 [ds_k Ym 0 9, ds_k Ym 1 10, vp_in v4 10] rfl rfl rfl rfl ⟨⟨by decide, rfl⟩, ⟨by decide, rfl⟩, o1, trivial⟩ ?_
          refine ds_ic_ne (show decode mt_X9_parts.2.1 45 = .ok (.if_icmp .ne 7, 3) from ds_dec (i := (45, .if_icmp .ne 7, 3, 0, 0, 0, .int 0)) ok_X9_parts 27 rfl) (t := 52) (by decide) (fun hc => ?_) (fun hc => ?_)
          · replace h := h.1 hc
            refine ds_blk (ls2 := [some (.ref 0), some (.int v1), some (.int v2), some (.int v3), some (.int v4), g5, g6]) (st2 := [.int (1 : Int32)]) (σ2 := σ) ok_X9_parts 30 1 52 53 [] rfl rfl rfl rfl trivial ?_
            refine x_X9_parts_53 v1 v2 v3 v4 (1 : Int32) _ _ σ Q _ ?_ h
            · intro v1_1 v2_1 v3_1 v4_1 g5_1 g6_1 σ1 h
              exact ih v1_1 v2_1 v3_1 v4_1 _ _ σ1 Q h
          · replace h := h.2 hc
            refine ds_blk (ls2 := [some (.ref 0), some (.int v1), some (.int v2), some (.int v3), some (.int v4), g5, g6]) (st2 := [.int (0 : Int32)]) (σ2 := σ) ok_X9_parts 28 1 48 49 [] rfl rfl rfl rfl trivial ?_
            refine ds_goto (show decode mt_X9_parts.2.1 49 = .ok (.goto 4, 3) from ds_dec (i := (49, .goto 4, 3, 0, 0, 0, .int 0)) ok_X9_parts 29 rfl) (t := 53) (by decide) ?_
            refine x_X9_parts_53 v1 v2 v3 v4 (0 : Int32) _ _ σ Q _ ?_ h
            · intro v1_2 v2_2 v3_2 v4_2 g5_2 g6_2 σ2 h
              exact ih v1_2 v2_2 v3_2 v4_2 _ _ σ2 Q h
def w_X9_parts (a1 : Int32) (σ : ds_S) (Q : Option Value → ds_S → Prop) : Prop := ds_EI mt_X9_nextOf Ym [.ref 0, .int a1] σ (fun r1 σ1 => ds_EI mt_X9_ones Ym [.int r1] σ1 (fun r2 σ2 => ∃ n, w_X9_parts_14 n a1 r1 r2 (0 : Int32) σ2 Q))
theorem e_X9_parts (a1 : Int32) (σ : ds_S) (Q : Option Value → ds_S → Prop) (h : w_X9_parts a1 σ Q) : ds_E mt_X9_parts Ym [.ref 0, .int a1] σ Q := by
  refine ds_enter (by decide) (Nat.le_of_ble_eq_true rfl) ?_
  show ds_X mt_X9_parts Ym 0 [some (.ref 0), some (.int a1), none, none, none, none, none] [] σ Q
  unfold w_X9_parts at h
  refine ds_blk (ls2 := [some (.ref 0), some (.int a1), none, none, none, none, none]) (st2 := [.int a1, .ref 0]) (σ2 := σ) ok_X9_parts 0 2 0 2 [] rfl rfl rfl rfl trivial ?_
  refine ds_callV (z := mt_X9_nextOf) (b := 0) (as := [.int a1]) (rest := []) (show decode mt_X9_parts.2.1 2 = .ok (.invokevirtual 120, 3) from ds_dec (i := (2, .invokevirtual 120, 3, 0, 0, 894, .int 0)) ok_X9_parts 2 rfl) (ds_E.mono h (fun r σ1 hr => ?_)) ⟨zw_X9_nextOf.1, zw_X9_nextOf.2.1, zw_X9_nextOf.2.2, by decide, by decide⟩ (ds_wb_T (p := 894) (by decide +kernel)) zi_X9_nextOf zs_X9_nextOf (by decide) rfl ⟨_, rfl, rfl⟩ (Nat.le_of_ble_eq_true rfl)
  obtain ⟨r1, rfl, h⟩ := hr
  show ds_X mt_X9_parts Ym 5 [some (.ref 0), some (.int a1), none, none, none, none, none] [.int r1] σ1 Q
  refine ds_blk (ls2 := [some (.ref 0), some (.int a1), some (.int r1), none, none, none, none]) (st2 := [.int r1]) (σ2 := σ1) ok_X9_parts 3 2 5 7 [] rfl rfl rfl rfl trivial ?_
  refine ds_callS (z := mt_X9_ones) (as := [.int r1]) (rest := []) (show decode mt_X9_parts.2.1 7 = .ok (.invokestatic 128, 3) from ds_dec (i := (7, .invokestatic 128, 3, 0, 0, 912, .int 0)) ok_X9_parts 5 rfl) (ds_E.mono h (fun r σ2 hr => ?_)) ⟨zw_X9_ones.1, zw_X9_ones.2.1, zw_X9_ones.2.2, by decide, by decide⟩ (ds_wb_T (p := 912) (by decide +kernel)) zt_X9_ones (Nat.le_of_ble_eq_true rfl)
  obtain ⟨r2, rfl, h⟩ := hr
  show ds_X mt_X9_parts Ym 10 [some (.ref 0), some (.int a1), some (.int r1), none, none, none, none] [.int r2] σ2 Q
  refine ds_blk (ls2 := [some (.ref 0), some (.int a1), some (.int r1), some (.int r2), some (.int (0 : Int32)), none, none]) (st2 := []) (σ2 := σ2) ok_X9_parts 6 3 10 14 [] rfl rfl rfl rfl trivial ?_
  obtain ⟨n, h⟩ := h
  refine x_X9_parts_14 n a1 r1 r2 (0 : Int32) _ _ σ2 Q h
def w_X9_about (a1 : Int32) (a2 : Int32) (σ : ds_S) (Q : Option Value → ds_S → Prop) : Prop := ds_EI mt_X9_isLine Ym [.ref 0, .int a1] σ (fun r1 σ1 => ((¬ r1 = 0 → ((a2.toInt < 0 ∨ 5 < a2.toInt → Q (some (.int (-2 : Int32))) σ1) ∧ (a2 = (0 : Int32) → vp_in a1 10 ∧ Q (some (.int (σ1.1 1 a1.toNatClampNeg))) σ1) ∧ (a2 = (1 : Int32) → vp_in a1 10 ∧ Q (some (.int (σ1.1 2 a1.toNatClampNeg))) σ1) ∧ (a2 = (2 : Int32) → vp_in a1 10 ∧ Q (some (.int (σ1.1 3 a1.toNatClampNeg))) σ1) ∧ (a2 = (3 : Int32) → vp_in a1 10 ∧ Q (some (.int (σ1.1 4 a1.toNatClampNeg))) σ1) ∧ (a2 = (4 : Int32) → vp_in a1 10 ∧ (((σ1.1 5 a1.toNatClampNeg) = 0 → Q (some (.int (0 : Int32))) σ1) ∧ (¬ (σ1.1 5 a1.toNatClampNeg) = 0 → Q (some (.int (1 : Int32))) σ1))) ∧ (a2 = (5 : Int32) → vp_in a1 10 ∧ (((σ1.1 6 a1.toNatClampNeg) = 0 → Q (some (.int (0 : Int32))) σ1) ∧ (¬ (σ1.1 6 a1.toNatClampNeg) = 0 → Q (some (.int (1 : Int32))) σ1))))) ∧ (r1 = 0 → Q (some (.int (-1 : Int32))) σ1)))
theorem e_X9_about (a1 : Int32) (a2 : Int32) (σ : ds_S) (Q : Option Value → ds_S → Prop) (h : w_X9_about a1 a2 σ Q) : ds_E mt_X9_about Ym [.ref 0, .int a1, .int a2] σ Q := by
  refine ds_enter (by decide) (Nat.le_of_ble_eq_true rfl) ?_
  show ds_X mt_X9_about Ym 0 [some (.ref 0), some (.int a1), some (.int a2)] [] σ Q
  unfold w_X9_about at h
  refine ds_blk (ls2 := [some (.ref 0), some (.int a1), some (.int a2)]) (st2 := [.int a1, .ref 0]) (σ2 := σ) ok_X9_about 0 2 0 2 [] rfl rfl rfl rfl trivial ?_
  refine ds_callV (z := mt_X9_isLine) (b := 0) (as := [.int a1]) (rest := []) (show decode mt_X9_about.2.1 2 = .ok (.invokevirtual 96, 3) from ds_dec (i := (2, .invokevirtual 96, 3, 0, 0, 853, .int 0)) ok_X9_about 2 rfl) (ds_E.mono h (fun r σ1 hr => ?_)) ⟨zw_X9_isLine.1, zw_X9_isLine.2.1, zw_X9_isLine.2.2, by decide, by decide⟩ (ds_wb_T (p := 853) (by decide +kernel)) zi_X9_isLine zs_X9_isLine (by decide) rfl ⟨_, rfl, rfl⟩ (Nat.le_of_ble_eq_true rfl)
  obtain ⟨r1, rfl, h⟩ := hr
  show ds_X mt_X9_about Ym 5 [some (.ref 0), some (.int a1), some (.int a2)] [.int r1] σ1 Q
  refine ds_if_ne (show decode mt_X9_about.2.1 5 = .ok (.ifCond .ne 5, 3) from ds_dec (i := (5, .ifCond .ne 5, 3, 0, 0, 0, .int 0)) ok_X9_about 3 rfl) (t := 10) (by decide) (fun hc => ?_) (fun hc => ?_)
  · replace h := h.1 hc
    refine ds_blk (ls2 := [some (.ref 0), some (.int a1), some (.int a2)]) (st2 := [.int a2]) (σ2 := σ1) ok_X9_about 6 1 10 11 [] rfl rfl rfl rfl trivial ?_
    refine ds_table (show decode mt_X9_about.2.1 11 = .ok (.tableswitch 95 0 5 #[37, 44, 51, 58, 65, 80], 37) from ds_dec (i := (11, .tableswitch 95 0 5 #[37, 44, 51, 58, 65, 80], 37, 0, 0, 0, .int 0)) ok_X9_about 7 rfl) 106 (by decide) (fun hc => ?_) (fun hc1 hc2 => ?_)
    · replace h := h.1 hc
      refine ds_blk (ls2 := [some (.ref 0), some (.int a1), some (.int a2)]) (st2 := [.int (-2 : Int32)]) (σ2 := σ1) ok_X9_about 46 1 106 108 [] rfl rfl rfl rfl trivial ?_
      exact ds_iret (show decode mt_X9_about.2.1 108 = .ok (.ireturn, 1) from ds_dec (i := (108, .ireturn, 1, 0, 0, 0, .int 0)) ok_X9_about 47 rfl) rfl h
    · have hcs : a2.toInt = 0 ∨ a2.toInt = 1 ∨ a2.toInt = 2 ∨ a2.toInt = 3 ∨ a2.toInt = 4 ∨ a2.toInt = 5 := by omega
      rcases hcs with e | e | e | e | e | e
      · refine ⟨37, 48, by rw [e]; rfl, by decide, ?_⟩
        replace h := h.2.1 (Int32.toInt_inj.mp (by rw [e]; rfl))
        obtain ⟨o1, h⟩ := h
        refine ds_blk (ls2 := [some (.ref 0), some (.int a1), some (.int a2)]) (st2 := [.int (σ1.1 1 a1.toNatClampNeg)]) (σ2 := σ1) ok_X9_about 8 4 48 54 [ds_k Ym 0 9, ds_k Ym 1 10, vp_in a1 10] rfl rfl rfl rfl ⟨⟨by decide, rfl⟩, ⟨by decide, rfl⟩, o1, trivial⟩ ?_
        exact ds_iret (show decode mt_X9_about.2.1 54 = .ok (.ireturn, 1) from ds_dec (i := (54, .ireturn, 1, 0, 0, 0, .int 0)) ok_X9_about 12 rfl) rfl h
      · refine ⟨44, 55, by rw [e]; rfl, by decide, ?_⟩
        replace h := h.2.2.1 (Int32.toInt_inj.mp (by rw [e]; rfl))
        obtain ⟨o2, h⟩ := h
        refine ds_blk (ls2 := [some (.ref 0), some (.int a1), some (.int a2)]) (st2 := [.int (σ1.1 2 a1.toNatClampNeg)]) (σ2 := σ1) ok_X9_about 13 4 55 61 [ds_k Ym 0 9, ds_k Ym 2 10, vp_in a1 10] rfl rfl rfl rfl ⟨⟨by decide, rfl⟩, ⟨by decide, rfl⟩, o2, trivial⟩ ?_
        exact ds_iret (show decode mt_X9_about.2.1 61 = .ok (.ireturn, 1) from ds_dec (i := (61, .ireturn, 1, 0, 0, 0, .int 0)) ok_X9_about 17 rfl) rfl h
      · refine ⟨51, 62, by rw [e]; rfl, by decide, ?_⟩
        replace h := h.2.2.2.1 (Int32.toInt_inj.mp (by rw [e]; rfl))
        obtain ⟨o3, h⟩ := h
        refine ds_blk (ls2 := [some (.ref 0), some (.int a1), some (.int a2)]) (st2 := [.int (σ1.1 3 a1.toNatClampNeg)]) (σ2 := σ1) ok_X9_about 18 4 62 68 [ds_k Ym 0 9, ds_k Ym 3 10, vp_in a1 10] rfl rfl rfl rfl ⟨⟨by decide, rfl⟩, ⟨by decide, rfl⟩, o3, trivial⟩ ?_
        exact ds_iret (show decode mt_X9_about.2.1 68 = .ok (.ireturn, 1) from ds_dec (i := (68, .ireturn, 1, 0, 0, 0, .int 0)) ok_X9_about 22 rfl) rfl h
      · refine ⟨58, 69, by rw [e]; rfl, by decide, ?_⟩
        replace h := h.2.2.2.2.1 (Int32.toInt_inj.mp (by rw [e]; rfl))
        obtain ⟨o4, h⟩ := h
        refine ds_blk (ls2 := [some (.ref 0), some (.int a1), some (.int a2)]) (st2 := [.int (σ1.1 4 a1.toNatClampNeg)]) (σ2 := σ1) ok_X9_about 23 4 69 75 [ds_k Ym 0 9, ds_k Ym 4 10, vp_in a1 10] rfl rfl rfl rfl ⟨⟨by decide, rfl⟩, ⟨by decide, rfl⟩, o4, trivial⟩ ?_
        exact ds_iret (show decode mt_X9_about.2.1 75 = .ok (.ireturn, 1) from ds_dec (i := (75, .ireturn, 1, 0, 0, 0, .int 0)) ok_X9_about 27 rfl) rfl h
      · refine ⟨65, 76, by rw [e]; rfl, by decide, ?_⟩
        replace h := h.2.2.2.2.2.1 (Int32.toInt_inj.mp (by rw [e]; rfl))
        obtain ⟨o5, h⟩ := h
        refine ds_blk (ls2 := [some (.ref 0), some (.int a1), some (.int a2)]) (st2 := [.int (σ1.1 5 a1.toNatClampNeg)]) (σ2 := σ1) ok_X9_about 28 4 76 82 [ds_k Ym 0 9, ds_k Ym 5 12, vp_in a1 10] rfl rfl rfl rfl ⟨⟨by decide, rfl⟩, ⟨by decide, rfl⟩, o5, trivial⟩ ?_
        refine ds_if_eq (show decode mt_X9_about.2.1 82 = .ok (.ifCond .eq 7, 3) from ds_dec (i := (82, .ifCond .eq 7, 3, 0, 0, 0, .int 0)) ok_X9_about 32 rfl) (t := 89) (by decide) (fun hc => ?_) (fun hc => ?_)
        · replace h := h.1 hc
          refine ds_blk (ls2 := [some (.ref 0), some (.int a1), some (.int a2)]) (st2 := [.int (0 : Int32)]) (σ2 := σ1) ok_X9_about 35 1 89 90 [] rfl rfl rfl rfl trivial ?_
          exact ds_iret (show decode mt_X9_about.2.1 90 = .ok (.ireturn, 1) from ds_dec (i := (90, .ireturn, 1, 0, 0, 0, .int 0)) ok_X9_about 36 rfl) rfl h
        · replace h := h.2 hc
          refine ds_blk (ls2 := [some (.ref 0), some (.int a1), some (.int a2)]) (st2 := [.int (1 : Int32)]) (σ2 := σ1) ok_X9_about 33 1 85 86 [] rfl rfl rfl rfl trivial ?_
          refine ds_goto (show decode mt_X9_about.2.1 86 = .ok (.goto 4, 3) from ds_dec (i := (86, .goto 4, 3, 0, 0, 0, .int 0)) ok_X9_about 34 rfl) (t := 90) (by decide) ?_
          exact ds_iret (show decode mt_X9_about.2.1 90 = .ok (.ireturn, 1) from ds_dec (i := (90, .ireturn, 1, 0, 0, 0, .int 0)) ok_X9_about 36 rfl) rfl h
      · refine ⟨80, 91, by rw [e]; rfl, by decide, ?_⟩
        replace h := h.2.2.2.2.2.2 (Int32.toInt_inj.mp (by rw [e]; rfl))
        obtain ⟨o6, h⟩ := h
        refine ds_blk (ls2 := [some (.ref 0), some (.int a1), some (.int a2)]) (st2 := [.int (σ1.1 6 a1.toNatClampNeg)]) (σ2 := σ1) ok_X9_about 37 4 91 97 [ds_k Ym 0 9, ds_k Ym 6 12, vp_in a1 10] rfl rfl rfl rfl ⟨⟨by decide, rfl⟩, ⟨by decide, rfl⟩, o6, trivial⟩ ?_
        refine ds_if_eq (show decode mt_X9_about.2.1 97 = .ok (.ifCond .eq 7, 3) from ds_dec (i := (97, .ifCond .eq 7, 3, 0, 0, 0, .int 0)) ok_X9_about 41 rfl) (t := 104) (by decide) (fun hc => ?_) (fun hc => ?_)
        · replace h := h.1 hc
          refine ds_blk (ls2 := [some (.ref 0), some (.int a1), some (.int a2)]) (st2 := [.int (0 : Int32)]) (σ2 := σ1) ok_X9_about 44 1 104 105 [] rfl rfl rfl rfl trivial ?_
          exact ds_iret (show decode mt_X9_about.2.1 105 = .ok (.ireturn, 1) from ds_dec (i := (105, .ireturn, 1, 0, 0, 0, .int 0)) ok_X9_about 45 rfl) rfl h
        · replace h := h.2 hc
          refine ds_blk (ls2 := [some (.ref 0), some (.int a1), some (.int a2)]) (st2 := [.int (1 : Int32)]) (σ2 := σ1) ok_X9_about 42 1 100 101 [] rfl rfl rfl rfl trivial ?_
          refine ds_goto (show decode mt_X9_about.2.1 101 = .ok (.goto 4, 3) from ds_dec (i := (101, .goto 4, 3, 0, 0, 0, .int 0)) ok_X9_about 43 rfl) (t := 105) (by decide) ?_
          exact ds_iret (show decode mt_X9_about.2.1 105 = .ok (.ireturn, 1) from ds_dec (i := (105, .ireturn, 1, 0, 0, 0, .int 0)) ok_X9_about 45 rfl) rfl h
  · replace h := h.2 hc
    refine ds_blk (ls2 := [some (.ref 0), some (.int a1), some (.int a2)]) (st2 := [.int (-1 : Int32)]) (σ2 := σ1) ok_X9_about 4 1 8 9 [] rfl rfl rfl rfl trivial ?_
    exact ds_iret (show decode mt_X9_about.2.1 9 = .ok (.ireturn, 1) from ds_dec (i := (9, .ireturn, 1, 0, 0, 0, .int 0)) ok_X9_about 5 rfl) rfl h
def w_X8_boxes_32 : Nat → (v2 : Int32) → (v3 : Int32) → (σ : ds_S) → (Q : Option Value → ds_S → Prop) → Prop
  | 0, _, _, _, _ => False
  | f + 1, v2, v3, σ, Q => (((3 : Int32) ≤ v3 → ds_EV mt_X5_forget Yc [.ref 14] σ (fun σ1 => Q (some (.int v2)) σ1)) ∧ (¬ (3 : Int32) ≤ v3 → vp_in v3 3 ∧ ds_EV mt_J7_fill_53178 Yc [.ref (Yc.2.2.2 2 v3.toNatClampNeg), .int (0 : Int32)] σ (fun σ2 => w_X8_boxes_32 f v2 (v3 + (1 : Int32)) σ2 Q)))
theorem x_X8_boxes_32 : ∀ (f : Nat) (v2 : Int32) (v3 : Int32) (g1 : Option Value) (σ : ds_S) (Q : Option Value → ds_S → Prop), w_X8_boxes_32 f v2 v3 σ Q → ds_X mt_X8_boxes Yc 32 [some (.ref 0), g1, some (.int v2), some (.int v3)] [] σ Q := by
  intro f
  induction f with
  | zero => intro v2 v3 g1 σ Q h; exact False.elim h
  | succ f ih =>
    intro v2 v3 g1 σ Q h
    rw [w_X8_boxes_32] at h
    refine ds_blk (ls2 := [some (.ref 0), g1, some (.int v2), some (.int v3)]) (st2 := [.int (3 : Int32), .int v3]) (σ2 := σ) ok_X8_boxes 18 2 32 34 [] rfl rfl rfl rfl trivial ?_
    refine ds_ic_ge (show decode mt_X8_boxes.2.1 34 = .ok (.if_icmp .ge 19, 3) from ds_dec (i := (34, .if_icmp .ge 19, 3, 0, 0, 0, .int 0)) ok_X8_boxes 20 rfl) (t := 53) (by decide) (fun hc => ?_) (fun hc => ?_)
    · replace h := h.1 hc
      refine ds_blk (ls2 := [some (.ref 0), g1, some (.int v2), some (.int v3)]) (st2 := [.ref 14]) (σ2 := σ) ok_X8_boxes 29 2 53 57 [ds_k Yc 0 8] rfl rfl rfl rfl ⟨⟨by decide, rfl⟩, trivial⟩ ?_
      refine ds_callV (z := mt_X5_forget) (b := 14) (as := []) (rest := []) (show decode mt_X8_boxes.2.1 57 = .ok (.invokevirtual 87, 3) from ds_dec (i := (57, .invokevirtual 87, 3, 0, 0, 364, .int 0)) ok_X8_boxes 31 rfl) (ds_E.mono h (fun r σ1 hr => ?_)) ⟨zw_X5_forget.1, zw_X5_forget.2.1, zw_X5_forget.2.2, by decide, by decide⟩ (ds_wb_T (p := 364) (by decide +kernel)) zi_X5_forget zs_X5_forget (by decide) rfl ⟨_, rfl, rfl⟩ (Nat.le_of_ble_eq_true rfl)
      obtain ⟨rfl, h⟩ := hr
      show ds_X mt_X8_boxes Yc 60 [some (.ref 0), g1, some (.int v2), some (.int v3)] [] σ1 Q
      refine ds_blk (ls2 := [some (.ref 0), g1, some (.int v2), some (.int v3)]) (st2 := [.int v2]) (σ2 := σ1) ok_X8_boxes 32 1 60 61 [] rfl rfl rfl rfl trivial ?_
      exact ds_iret (show decode mt_X8_boxes.2.1 61 = .ok (.ireturn, 1) from ds_dec (i := (61, .ireturn, 1, 0, 0, 0, .int 0)) ok_X8_boxes 33 rfl) rfl h
    · replace h := h.2 hc
      obtain ⟨o1, h⟩ := h
      refine ds_blk (ls2 := [some (.ref 0), g1, some (.int v2), some (.int v3)]) (st2 := [.int (0 : Int32), .ref (Yc.2.2.2 2 v3.toNatClampNeg)]) (σ2 := σ) ok_X8_boxes 21 5 37 44 [ds_k Yc 0 8, ds_k Yc 2 14, vp_in v3 3] rfl rfl rfl rfl ⟨⟨by decide, rfl⟩, ⟨by decide, rfl⟩, o1, trivial⟩ ?_
      refine ds_callS (z := mt_J7_fill_53178) (as := [.ref (Yc.2.2.2 2 v3.toNatClampNeg), .int (0 : Int32)]) (rest := []) (show decode mt_X8_boxes.2.1 44 = .ok (.invokestatic 81, 3) from ds_dec (i := (44, .invokestatic 81, 3, 0, 0, 361, .int 0)) ok_X8_boxes 26 rfl) (ds_E.mono h (fun r σ2 hr => ?_)) ⟨zw_J7_fill_53178.1, zw_J7_fill_53178.2.1, zw_J7_fill_53178.2.2, by decide, by decide⟩ (ds_wb_T (p := 361) (by decide +kernel)) zt_J7_fill_53178 (Nat.le_of_ble_eq_true rfl)
      obtain ⟨rfl, h⟩ := hr
      show ds_X mt_X8_boxes Yc 47 [some (.ref 0), g1, some (.int v2), some (.int v3)] [] σ2 Q
      refine ds_blk (ls2 := [some (.ref 0), g1, some (.int v2), some (.int (v3 + (1 : Int32)))]) (st2 := []) (σ2 := σ2) ok_X8_boxes 27 1 47 50 [] rfl rfl rfl rfl trivial ?_
      refine ds_goto (show decode mt_X8_boxes.2.1 50 = .ok (.goto (-18), 3) from ds_dec (i := (50, .goto (-18), 3, 0, 0, 0, .int 0)) ok_X8_boxes 28 rfl) (t := 32) (by decide) ?_
      exact ih v2 (v3 + (1 : Int32)) _ σ2 Q h
def w_X8_boxes (a1 : Int32) (σ : ds_S) (Q : Option Value → ds_S → Prop) : Prop := ((a1 < (2 : Int32) → Q (some (.int (-2 : Int32))) σ) ∧ (¬ a1 < (2 : Int32) → ((a1 ≤ (6 : Int32) → ds_EV mt_X1_renew Yc [.ref 1, .int a1] σ (fun σ1 => ∃ n, w_X8_boxes_32 n (σ.1 1 0) (0 : Int32) σ1 Q)) ∧ (¬ a1 ≤ (6 : Int32) → Q (some (.int (-2 : Int32))) σ))))
theorem e_X8_boxes (a1 : Int32) (σ : ds_S) (Q : Option Value → ds_S → Prop) (h : w_X8_boxes a1 σ Q) : ds_E mt_X8_boxes Yc [.ref 0, .int a1] σ Q := by
  refine ds_enter (by decide) (Nat.le_of_ble_eq_true rfl) ?_
  show ds_X mt_X8_boxes Yc 0 [some (.ref 0), some (.int a1), none, none] [] σ Q
  unfold w_X8_boxes at h
  refine ds_blk (ls2 := [some (.ref 0), some (.int a1), none, none]) (st2 := [.int (2 : Int32), .int a1]) (σ2 := σ) ok_X8_boxes 0 2 0 2 [] rfl rfl rfl rfl trivial ?_
  refine ds_ic_lt (show decode mt_X8_boxes.2.1 2 = .ok (.if_icmp .lt 9, 3) from ds_dec (i := (2, .if_icmp .lt 9, 3, 0, 0, 0, .int 0)) ok_X8_boxes 2 rfl) (t := 11) (by decide) (fun hc => ?_) (fun hc => ?_)
  · replace h := h.1 hc
    refine ds_blk (ls2 := [some (.ref 0), some (.int a1), none, none]) (st2 := [.int (-2 : Int32)]) (σ2 := σ) ok_X8_boxes 6 1 11 13 [] rfl rfl rfl rfl trivial ?_
    exact ds_iret (show decode mt_X8_boxes.2.1 13 = .ok (.ireturn, 1) from ds_dec (i := (13, .ireturn, 1, 0, 0, 0, .int 0)) ok_X8_boxes 7 rfl) rfl h
  · replace h := h.2 hc
    refine ds_blk (ls2 := [some (.ref 0), some (.int a1), none, none]) (st2 := [.int (6 : Int32), .int a1]) (σ2 := σ) ok_X8_boxes 3 2 5 8 [] rfl rfl rfl rfl trivial ?_
    refine ds_ic_le (show decode mt_X8_boxes.2.1 8 = .ok (.if_icmp .le 6, 3) from ds_dec (i := (8, .if_icmp .le 6, 3, 0, 0, 0, .int 0)) ok_X8_boxes 5 rfl) (t := 14) (by decide) (fun hc => ?_) (fun hc => ?_)
    · replace h := h.1 hc
      refine ds_blk (ls2 := [some (.ref 0), some (.int a1), some (.int (σ.1 1 0)), none]) (st2 := [.int a1, .ref 1]) (σ2 := σ) ok_X8_boxes 8 7 14 27 [ds_k Yc 0 8, ds_k Yc 1 1, ds_k Yc 0 8] rfl rfl rfl rfl ⟨⟨by decide, rfl⟩, ⟨by decide, rfl⟩, ⟨by decide, rfl⟩, trivial⟩ ?_
      refine ds_callV (z := mt_X1_renew) (b := 1) (as := [.int a1]) (rest := []) (show decode mt_X8_boxes.2.1 27 = .ok (.invokevirtual 77, 3) from ds_dec (i := (27, .invokevirtual 77, 3, 0, 0, 357, .int 0)) ok_X8_boxes 15 rfl) (ds_E.mono h (fun r σ1 hr => ?_)) ⟨zw_X1_renew.1, zw_X1_renew.2.1, zw_X1_renew.2.2, by decide, by decide⟩ (ds_wb_T (p := 357) (by decide +kernel)) zi_X1_renew zs_X1_renew (by decide) rfl ⟨_, rfl, rfl⟩ (Nat.le_of_ble_eq_true rfl)
      obtain ⟨rfl, h⟩ := hr
      show ds_X mt_X8_boxes Yc 30 [some (.ref 0), some (.int a1), some (.int (σ.1 1 0)), none] [] σ1 Q
      refine ds_blk (ls2 := [some (.ref 0), some (.int a1), some (.int (σ.1 1 0)), some (.int (0 : Int32))]) (st2 := []) (σ2 := σ1) ok_X8_boxes 16 2 30 32 [] rfl rfl rfl rfl trivial ?_
      obtain ⟨n, h⟩ := h
      refine x_X8_boxes_32 n (σ.1 1 0) (0 : Int32) _ σ1 Q h
    · replace h := h.2 hc
      refine ds_blk (ls2 := [some (.ref 0), some (.int a1), none, none]) (st2 := [.int (-2 : Int32)]) (σ2 := σ) ok_X8_boxes 6 1 11 13 [] rfl rfl rfl rfl trivial ?_
      exact ds_iret (show decode mt_X8_boxes.2.1 13 = .ok (.ireturn, 1) from ds_dec (i := (13, .ireturn, 1, 0, 0, 0, .int 0)) ok_X8_boxes 7 rfl) rfl h
def w_X0_collect_6 : Nat → (a2 : Nat) → (v3 : Int32) → (v4 : Int32) → (v5 : Int32) → (σ : ds_S) → (Q : Option Value → ds_S → Prop) → Prop
  | 0, _, _, _, _, _, _ => False
  | f + 1, a2, v3, v4, v5, σ, Q => (((σ.1 1 0) ≤ v5 → (v4 = 0 ∨ v4 = 1) ∧ Q (some (.int v4)) σ) ∧ (¬ (σ.1 1 0) ≤ v5 → ds_EI mt_X8_pair Yc [.int v5, .int v3] σ (fun r1 σ1 => ds_k Yc a2 10 ∧ vp_in r1 (Yc.2.2.1 a2) ∧ vp_in v5 6 ∧ (((σ1.1 a2 r1.toNatClampNeg) ≤ 0 → w_X0_collect_6 f a2 v3 (v4 ||| (0 : Int32)) (v5 + (1 : Int32)) (ds_wl σ1 9 v5.toNatClampNeg ((σ1.1 a2 r1.toNatClampNeg).toInt64 * (151200 : Int64))) Q) ∧ (¬ (σ1.1 a2 r1.toNatClampNeg) ≤ 0 → w_X0_collect_6 f a2 v3 (v4 ||| (1 : Int32)) (v5 + (1 : Int32)) (ds_wl σ1 9 v5.toNatClampNeg ((σ1.1 a2 r1.toNatClampNeg).toInt64 * (151200 : Int64))) Q)))))
theorem x_X0_collect_6 : ∀ (f : Nat) (a2 : Nat) (v3 : Int32) (v4 : Int32) (v5 : Int32) (g6 : Option Value) (σ : ds_S) (Q : Option Value → ds_S → Prop), w_X0_collect_6 f a2 v3 v4 v5 σ Q → ds_X mt_X0_collect Yc 6 [some (.ref 8), some (.ref 1), some (.ref a2), some (.int v3), some (.int v4), some (.int v5), g6] [] σ Q := by
  intro f
  induction f with
  | zero => intro a2 v3 v4 v5 g6 σ Q h; exact False.elim h
  | succ f ih =>
    intro a2 v3 v4 v5 g6 σ Q h
    rw [w_X0_collect_6] at h
    refine ds_blk (ls2 := [some (.ref 8), some (.ref 1), some (.ref a2), some (.int v3), some (.int v4), some (.int v5), g6]) (st2 := [.int (σ.1 1 0), .int v5]) (σ2 := σ) ok_X0_collect 4 3 6 12 [ds_k Yc 1 1] rfl rfl rfl rfl ⟨⟨by decide, rfl⟩, trivial⟩ ?_
    refine ds_ic_ge (show decode mt_X0_collect.2.1 12 = .ok (.if_icmp .ge 48, 3) from ds_dec (i := (12, .if_icmp .ge 48, 3, 0, 0, 0, .int 0)) ok_X0_collect 7 rfl) (t := 60) (by decide) (fun hc => ?_) (fun hc => ?_)
    · replace h := h.1 hc
      refine ds_blk (ls2 := [some (.ref 8), some (.ref 1), some (.ref a2), some (.int v3), some (.int v4), some (.int v5), g6]) (st2 := [.int v4]) (σ2 := σ) ok_X0_collect 32 1 60 62 [] rfl rfl rfl rfl trivial ?_
      obtain ⟨o1, h⟩ := h
      exact ds_zret (show decode mt_X0_collect.2.1 62 = .ok (.ireturn, 1) from ds_dec (i := (62, .ireturn, 1, 0, 0, 0, .int 0)) ok_X0_collect 33 rfl) rfl o1 h
    · replace h := h.2 hc
      refine ds_blk (ls2 := [some (.ref 8), some (.ref 1), some (.ref a2), some (.int v3), some (.int v4), some (.int v5), g6]) (st2 := [.int v3, .int v5, .ref a2]) (σ2 := σ) ok_X0_collect 8 3 15 19 [] rfl rfl rfl rfl trivial ?_
      refine ds_callN (z := mt_X8_pair) (as := [.int v5, .int v3]) (rest := [.ref a2]) (show decode mt_X0_collect.2.1 19 = .ok (.invokestatic 46, 3) from ds_dec (i := (19, .invokestatic 46, 3, 0, 0, 0, .int 0)) ok_X0_collect 11 rfl) (ds_E.mono h (fun r σ1 hr => ?_)) ⟨zw_X8_pair.1, zw_X8_pair.2.1, zw_X8_pair.2.2, by decide, by decide⟩ (by decide +kernel) zt_X8_pair (Nat.le_of_ble_eq_true rfl)
      obtain ⟨r1, rfl, h⟩ := hr
      show ds_X mt_X0_collect Yc 22 [some (.ref 8), some (.ref 1), some (.ref a2), some (.int v3), some (.int v4), some (.int v5), g6] [.int r1, .ref a2] σ1 Q
      obtain ⟨o2, o3, o4, h⟩ := h
      refine ds_blk (ls2 := [some (.ref 8), some (.ref 1), some (.ref a2), some (.int v3), some (.int v4), some (.int v5), some (.int (σ1.1 a2 r1.toNatClampNeg))]) (st2 := [.int (σ1.1 a2 r1.toNatClampNeg), .int v4]) (σ2 := (ds_wl σ1 9 v5.toNatClampNeg ((σ1.1 a2 r1.toNatClampNeg).toInt64 * (151200 : Int64)))) ok_X0_collect 12 12 22 43 [ds_k Yc a2 10, vp_in r1 (Yc.2.2.1 a2), ds_k Yc 8 0, ds_k Yc 9 11, vp_in v5 6] rfl rfl rfl rfl ⟨o2, o3, ⟨by decide, rfl⟩, ⟨by decide, rfl⟩, o4, trivial⟩ ?_
      refine ds_if_le (show decode mt_X0_collect.2.1 43 = .ok (.ifCond .le 7, 3) from ds_dec (i := (43, .ifCond .le 7, 3, 0, 0, 0, .int 0)) ok_X0_collect 24 rfl) (t := 50) (by decide) (fun hc => ?_) (fun hc => ?_)
      · replace h := h.1 hc
        refine ds_blk (ls2 := [some (.ref 8), some (.ref 1), some (.ref a2), some (.int v3), some (.int (v4 ||| (0 : Int32))), some (.int (v5 + (1 : Int32))), some (.int (σ1.1 a2 r1.toNatClampNeg))]) (st2 := []) (σ2 := (ds_wl σ1 9 v5.toNatClampNeg ((σ1.1 a2 r1.toNatClampNeg).toInt64 * (151200 : Int64)))) ok_X0_collect 27 4 50 57 [] rfl rfl rfl rfl trivial ?_
        refine ds_goto (show decode mt_X0_collect.2.1 57 = .ok (.goto (-51), 3) from ds_dec (i := (57, .goto (-51), 3, 0, 0, 0, .int 0)) ok_X0_collect 31 rfl) (t := 6) (by decide) ?_
        exact ih a2 v3 (v4 ||| (0 : Int32)) (v5 + (1 : Int32)) _ (ds_wl σ1 9 v5.toNatClampNeg ((σ1.1 a2 r1.toNatClampNeg).toInt64 * (151200 : Int64))) Q h
      · replace h := h.2 hc
        refine ds_blk (ls2 := [some (.ref 8), some (.ref 1), some (.ref a2), some (.int v3), some (.int v4), some (.int v5), some (.int (σ1.1 a2 r1.toNatClampNeg))]) (st2 := [.int (1 : Int32), .int v4]) (σ2 := (ds_wl σ1 9 v5.toNatClampNeg ((σ1.1 a2 r1.toNatClampNeg).toInt64 * (151200 : Int64)))) ok_X0_collect 25 1 46 47 [] rfl rfl rfl rfl trivial ?_
        refine ds_goto (show decode mt_X0_collect.2.1 47 = .ok (.goto 4, 3) from ds_dec (i := (47, .goto 4, 3, 0, 0, 0, .int 0)) ok_X0_collect 26 rfl) (t := 51) (by decide) ?_
        refine ds_blk (ls2 := [some (.ref 8), some (.ref 1), some (.ref a2), some (.int v3), some (.int (v4 ||| (1 : Int32))), some (.int (v5 + (1 : Int32))), some (.int (σ1.1 a2 r1.toNatClampNeg))]) (st2 := []) (σ2 := (ds_wl σ1 9 v5.toNatClampNeg ((σ1.1 a2 r1.toNatClampNeg).toInt64 * (151200 : Int64)))) ok_X0_collect 28 3 51 57 [] rfl rfl rfl rfl trivial ?_
        refine ds_goto (show decode mt_X0_collect.2.1 57 = .ok (.goto (-51), 3) from ds_dec (i := (57, .goto (-51), 3, 0, 0, 0, .int 0)) ok_X0_collect 31 rfl) (t := 6) (by decide) ?_
        exact ih a2 v3 (v4 ||| (1 : Int32)) (v5 + (1 : Int32)) _ (ds_wl σ1 9 v5.toNatClampNeg ((σ1.1 a2 r1.toNatClampNeg).toInt64 * (151200 : Int64))) Q h
def w_X0_collect (a2 : Nat) (a3 : Int32) (σ : ds_S) (Q : Option Value → ds_S → Prop) : Prop := ∃ n, w_X0_collect_6 n a2 a3 (0 : Int32) (0 : Int32) σ Q
theorem e_X0_collect (a2 : Nat) (a3 : Int32) (σ : ds_S) (Q : Option Value → ds_S → Prop) (h : w_X0_collect a2 a3 σ Q) : ds_E mt_X0_collect Yc [.ref 8, .ref 1, .ref a2, .int a3] σ Q := by
  refine ds_enter (by decide) (Nat.le_of_ble_eq_true rfl) ?_
  show ds_X mt_X0_collect Yc 0 [some (.ref 8), some (.ref 1), some (.ref a2), some (.int a3), none, none, none] [] σ Q
  unfold w_X0_collect at h
  refine ds_blk (ls2 := [some (.ref 8), some (.ref 1), some (.ref a2), some (.int a3), some (.int (0 : Int32)), some (.int (0 : Int32)), none]) (st2 := []) (σ2 := σ) ok_X0_collect 0 4 0 6 [] rfl rfl rfl rfl trivial ?_
  obtain ⟨n, h⟩ := h
  refine x_X0_collect_6 n a2 a3 (0 : Int32) (0 : Int32) _ σ Q h
def w_X7_find_36 : Nat → (a0 : Nat) → (a2 : Nat) → (v3 : Int32) → (v5 : Int32) → (v6 : Int32) → (σ : ds_S) → (Q : Option Value → ds_S → Prop) → (K60 : Int32 → ds_S → Prop) → (K110 : Int32 → ds_S → Prop) → Prop
  | 0, _, _, _, _, _, _, _, _, _ => False
  | f + 1, a0, a2, v3, v5, v6, σ, Q, K60, K110 => (((σ.1 1 0) ≤ v6 → K110 v3 σ) ∧ (¬ (σ.1 1 0) ≤ v6 → ds_k Yc a0 7 ∧ ds_EI mt_X7_nearest Yc [.ref a0, .ref 1, .int v5] σ (fun r1 σ1 => ((¬ r1 = (-1 : Int32) → ds_k Yc a0 7 ∧ ds_k Yc a0 7 ∧ ds_k Yc (Yc.2.2.2 a0 1) 10 ∧ vp_in (σ1.1 a0 2) (Yc.2.2.1 (Yc.2.2.2 a0 1)) ∧ ds_k Yc a0 7 ∧ ds_k Yc a0 7 ∧ ds_k Yc a0 7 ∧ ds_EV mt_X7_comeNearerBy Yc [.ref a0, .int r1, .ref 1, .ref a2, .int v3] (ds_wi (ds_wi σ1 (Yc.2.2.2 a0 1) ((σ1.1 a0 2).toNatClampNeg) r1) a0 2 (((ds_wi σ1 (Yc.2.2.2 a0 1) ((σ1.1 a0 2).toNatClampNeg) r1).1 a0 2) + (1 : Int32))) (fun σ2 => w_X7_find_36 f a0 a2 v3 (v5 &&& (((1 : Int32) <<< (r1 &&& 31)) ^^^ (-1 : Int32))) (v6 + (1 : Int32)) σ2 Q K60 K110)) ∧ (r1 = (-1 : Int32) → K60 v3 σ1)))))
theorem x_X7_find_36 : ∀ (f : Nat) (a0 : Nat) (a2 : Nat) (v3 : Int32) (v5 : Int32) (v6 : Int32) (g4 : Option Value) (g7 : Option Value) (σ : ds_S) (Q : Option Value → ds_S → Prop) (K60 : Int32 → ds_S → Prop) (K110 : Int32 → ds_S → Prop) (hK60 : ∀ (v3 : Int32) (g4 : Option Value) (g5 : Option Value) (g6 : Option Value) (g7 : Option Value) (σ2 : ds_S), K60 v3 σ2 → ds_X mt_X7_find Yc 60 [some (.ref a0), some (.ref 1), some (.ref a2), some (.int v3), g4, g5, g6, g7] [] σ2 Q) (hK110 : ∀ (v3 : Int32) (g4 : Option Value) (g5 : Option Value) (g6 : Option Value) (g7 : Option Value) (σ2 : ds_S), K110 v3 σ2 → ds_X mt_X7_find Yc 110 [some (.ref a0), some (.ref 1), some (.ref a2), some (.int v3), g4, g5, g6, g7] [] σ2 Q), w_X7_find_36 f a0 a2 v3 v5 v6 σ Q K60 K110 → ds_X mt_X7_find Yc 36 [some (.ref a0), some (.ref 1), some (.ref a2), some (.int v3), g4, some (.int v5), some (.int v6), g7] [] σ Q := by
  intro f
  induction f with
  | zero => intro a0 a2 v3 v5 v6 g4 g7 σ Q K60 K110 hK60 hK110 h; exact False.elim h
  | succ f ih =>
    intro a0 a2 v3 v5 v6 g4 g7 σ Q K60 K110 hK60 hK110 h
    rw [w_X7_find_36] at h
    refine ds_blk (ls2 := [some (.ref a0), some (.ref 1), some (.ref a2), some (.int v3), g4, some (.int v5), some (.int v6), g7]) (st2 := [.int (σ.1 1 0), .int v6]) (σ2 := σ) ok_X7_find 21 3 36 42 [ds_k Yc 1 1] rfl rfl rfl rfl ⟨⟨by decide, rfl⟩, trivial⟩ ?_
    refine ds_ic_ge (show decode mt_X7_find.2.1 42 = .ok (.if_icmp .ge 68, 3) from ds_dec (i := (42, .if_icmp .ge 68, 3, 0, 0, 0, .int 0)) ok_X7_find 24 rfl) (t := 110) (by decide) (fun hc => ?_) (fun hc => ?_)
    · replace h := h.1 hc
      exact hK110 v3 _ _ _ _ σ h
    · replace h := h.2 hc
      refine ds_blk (ls2 := [some (.ref a0), some (.ref 1), some (.ref a2), some (.int v3), g4, some (.int v5), some (.int v6), g7]) (st2 := [.int v5, .ref 1, .ref a0]) (σ2 := σ) ok_X7_find 25 3 45 49 [] rfl rfl rfl rfl trivial ?_
      obtain ⟨o1, h⟩ := h
      refine ds_callV (z := mt_X7_nearest) (b := a0) (as := [.ref 1, .int v5]) (rest := []) (show decode mt_X7_find.2.1 49 = .ok (.invokevirtual 42, 3) from ds_dec (i := (49, .invokevirtual 42, 3, 0, 0, 440, .int 0)) ok_X7_find 28 rfl) (ds_E.mono h (fun r σ1 hr => ?_)) ⟨zw_X7_nearest.1, zw_X7_nearest.2.1, zw_X7_nearest.2.2, by decide, by decide⟩ (ds_wb_T (p := 440) (by decide +kernel)) zi_X7_nearest zs_X7_nearest o1.1 o1.2 ⟨_, rfl, rfl⟩ (Nat.le_of_ble_eq_true rfl)
      obtain ⟨r1, rfl, h⟩ := hr
      show ds_X mt_X7_find Yc 52 [some (.ref a0), some (.ref 1), some (.ref a2), some (.int v3), g4, some (.int v5), some (.int v6), g7] [.int r1] σ1 Q
      refine ds_blk (ls2 := [some (.ref a0), some (.ref 1), some (.ref a2), some (.int v3), g4, some (.int v5), some (.int v6), some (.int r1)]) (st2 := [.int (-1 : Int32), .int r1]) (σ2 := σ1) ok_X7_find 29 3 52 57 [] rfl rfl rfl rfl trivial ?_
      refine ds_ic_ne (show decode mt_X7_find.2.1 57 = .ok (.if_icmp .ne 6, 3) from ds_dec (i := (57, .if_icmp .ne 6, 3, 0, 0, 0, .int 0)) ok_X7_find 32 rfl) (t := 63) (by decide) (fun hc => ?_) (fun hc => ?_)
      · replace h := h.1 hc
        obtain ⟨o2, o3, o4, o5, o6, o7, h⟩ := h
        refine ds_blk (ls2 := [some (.ref a0), some (.ref 1), some (.ref a2), some (.int v3), (ds_nl g4), some (.int (v5 &&& (((1 : Int32) <<< (r1 &&& 31)) ^^^ (-1 : Int32)))), some (.int v6), some (.int r1)]) (st2 := [.int v3, .ref a2, .ref 1, .int r1, .ref a0]) (σ2 := (ds_wi (ds_wi σ1 (Yc.2.2.2 a0 1) ((σ1.1 a0 2).toNatClampNeg) r1) a0 2 (((ds_wi σ1 (Yc.2.2.2 a0 1) ((σ1.1 a0 2).toNatClampNeg) r1).1 a0 2) + (1 : Int32)))) ok_X7_find 34 25 63 101 [ds_k Yc a0 7, ds_k Yc a0 7, ds_k Yc (Yc.2.2.2 a0 1) 10, vp_in (σ1.1 a0 2) (Yc.2.2.1 (Yc.2.2.2 a0 1)), ds_k Yc a0 7, ds_k Yc a0 7] rfl rfl rfl rfl ⟨o2, o3, o4, o5, o6, o7, trivial⟩ ?_
        obtain ⟨o8, h⟩ := h
        refine ds_callV (z := mt_X7_comeNearerBy) (b := a0) (as := [.int r1, .ref 1, .ref a2, .int v3]) (rest := []) (show decode mt_X7_find.2.1 101 = .ok (.invokevirtual 46, 3) from ds_dec (i := (101, .invokevirtual 46, 3, 0, 0, 444, .int 0)) ok_X7_find 59 rfl) (ds_E.mono h (fun r σ2 hr => ?_)) ⟨zw_X7_comeNearerBy.1, zw_X7_comeNearerBy.2.1, zw_X7_comeNearerBy.2.2, by decide, by decide⟩ (ds_wb_T (p := 444) (by decide +kernel)) zi_X7_comeNearerBy zs_X7_comeNearerBy o8.1 o8.2 ⟨_, rfl, rfl⟩ (Nat.le_of_ble_eq_true rfl)
        obtain ⟨rfl, h⟩ := hr
        show ds_X mt_X7_find Yc 104 [some (.ref a0), some (.ref 1), some (.ref a2), some (.int v3), (ds_nl g4), some (.int (v5 &&& (((1 : Int32) <<< (r1 &&& 31)) ^^^ (-1 : Int32)))), some (.int v6), some (.int r1)] [] σ2 Q
        refine ds_blk (ls2 := [some (.ref a0), some (.ref 1), some (.ref a2), some (.int v3), (ds_nl g4), some (.int (v5 &&& (((1 : Int32) <<< (r1 &&& 31)) ^^^ (-1 : Int32)))), some (.int (v6 + (1 : Int32))), some (.int r1)]) (st2 := []) (σ2 := σ2) ok_X7_find 60 1 104 107 [] rfl rfl rfl rfl trivial ?_
        refine ds_goto (show decode mt_X7_find.2.1 107 = .ok (.goto (-71), 3) from ds_dec (i := (107, .goto (-71), 3, 0, 0, 0, .int 0)) ok_X7_find 61 rfl) (t := 36) (by decide) ?_
        exact ih a0 a2 v3 (v5 &&& (((1 : Int32) <<< (r1 &&& 31)) ^^^ (-1 : Int32))) (v6 + (1 : Int32)) _ _ σ2 Q K60 K110 hK60 hK110 h
      · replace h := h.2 hc
        exact hK60 v3 _ _ _ _ σ1 h
def w_X7_find_110 (a0 : Nat) (a2 : Nat) (v3 : Int32) (σ : ds_S) (Q : Option Value → ds_S → Prop) : Prop := ds_k Yc a0 7 ∧ ds_EV mt_X7_findNext Yc [.ref a0, .ref 1, .ref a2, .int v3] σ (fun σ1 => Q none σ1)
theorem x_X7_find_110 (a0 : Nat) (a2 : Nat) (v3 : Int32) (g4 : Option Value) (g5 : Option Value) (g6 : Option Value) (g7 : Option Value) (σ : ds_S) (Q : Option Value → ds_S → Prop) (h : w_X7_find_110 a0 a2 v3 σ Q) : ds_X mt_X7_find Yc 110 [some (.ref a0), some (.ref 1), some (.ref a2), some (.int v3), g4, g5, g6, g7] [] σ Q := by
  unfold w_X7_find_110 at h
  refine ds_blk (ls2 := [some (.ref a0), some (.ref 1), some (.ref a2), some (.int v3), g4, g5, g6, g7]) (st2 := [.int v3, .ref a2, .ref 1, .ref a0]) (σ2 := σ) ok_X7_find 62 4 110 114 [] rfl rfl rfl rfl trivial ?_
  obtain ⟨o1, h⟩ := h
  refine ds_callV (z := mt_X7_findNext) (b := a0) (as := [.ref 1, .ref a2, .int v3]) (rest := []) (show decode mt_X7_find.2.1 114 = .ok (.invokevirtual 50, 3) from ds_dec (i := (114, .invokevirtual 50, 3, 0, 0, 448, .int 0)) ok_X7_find 66 rfl) (ds_E.mono h (fun r σ1 hr => ?_)) ⟨zw_X7_findNext.1, zw_X7_findNext.2.1, zw_X7_findNext.2.2, by decide, by decide⟩ (ds_wb_T (p := 448) (by decide +kernel)) zi_X7_findNext zs_X7_findNext o1.1 o1.2 ⟨_, rfl, rfl⟩ (Nat.le_of_ble_eq_true rfl)
  obtain ⟨rfl, h⟩ := hr
  show ds_X mt_X7_find Yc 117 [some (.ref a0), some (.ref 1), some (.ref a2), some (.int v3), g4, g5, g6, g7] [] σ1 Q
  exact ds_vret (show decode mt_X7_find.2.1 117 = .ok (.return_, 1) from ds_dec (i := (117, .return_, 1, 0, 0, 0, .int 0)) ok_X7_find 67 rfl) rfl h
def w_X7_find (a0 : Nat) (a2 : Nat) (a3 : Int32) (a4 : Int32) (σ : ds_S) (Q : Option Value → ds_S → Prop) : Prop := ds_k Yc a0 7 ∧ ds_EV mt_J7_fill_53178 Yc [.ref (Yc.2.2.2 a0 0), .int (1000 : Int32)] σ (fun σ1 => ds_k Yc a0 7 ∧ ds_k Yc (Yc.2.2.2 a0 0) 10 ∧ vp_in a4 (Yc.2.2.1 (Yc.2.2.2 a0 0)) ∧ ds_k Yc a0 7 ∧ (∃ n, w_X7_find_36 n a0 a2 a3 (((1 : Int32) <<< (((ds_wi (ds_wi σ1 (Yc.2.2.2 a0 0) a4.toNatClampNeg (0 : Int32)) a0 2 (0 : Int32)).1 1 0) &&& 31)) - (1 : Int32)) (0 : Int32) (ds_wi (ds_wi σ1 (Yc.2.2.2 a0 0) a4.toNatClampNeg (0 : Int32)) a0 2 (0 : Int32)) Q (fun v3_2 σ2 => w_X7_find_110 a0 a2 v3_2 σ2 Q) (fun v3_3 σ3 => w_X7_find_110 a0 a2 v3_3 σ3 Q)))
theorem e_X7_find (a0 : Nat) (a2 : Nat) (a3 : Int32) (a4 : Int32) (σ : ds_S) (Q : Option Value → ds_S → Prop) (h : w_X7_find a0 a2 a3 a4 σ Q) : ds_E mt_X7_find Yc [.ref a0, .ref 1, .ref a2, .int a3, .int a4] σ Q := by
  refine ds_enter (by decide) (Nat.le_of_ble_eq_true rfl) ?_
  show ds_X mt_X7_find Yc 0 [some (.ref a0), some (.ref 1), some (.ref a2), some (.int a3), some (.int a4), none, none, none] [] σ Q
  unfold w_X7_find at h
  obtain ⟨o1, h⟩ := h
  refine ds_blk (ls2 := [some (.ref a0), some (.ref 1), some (.ref a2), some (.int a3), some (.int a4), none, none, none]) (st2 := [.int (1000 : Int32), .ref (Yc.2.2.2 a0 0)]) (σ2 := σ) ok_X7_find 0 3 0 7 [ds_k Yc a0 7] rfl rfl rfl rfl ⟨o1, trivial⟩ ?_
  refine ds_callS (z := mt_J7_fill_53178) (as := [.ref (Yc.2.2.2 a0 0), .int (1000 : Int32)]) (rest := []) (show decode mt_X7_find.2.1 7 = .ok (.invokestatic 27, 3) from ds_dec (i := (7, .invokestatic 27, 3, 0, 0, 439, .int 0)) ok_X7_find 3 rfl) (ds_E.mono h (fun r σ1 hr => ?_)) ⟨zw_J7_fill_53178.1, zw_J7_fill_53178.2.1, zw_J7_fill_53178.2.2, by decide, by decide⟩ (ds_wb_T (p := 439) (by decide +kernel)) zt_J7_fill_53178 (Nat.le_of_ble_eq_true rfl)
  obtain ⟨rfl, h⟩ := hr
  show ds_X mt_X7_find Yc 10 [some (.ref a0), some (.ref 1), some (.ref a2), some (.int a3), some (.int a4), none, none, none] [] σ1 Q
  obtain ⟨o2, o3, o4, o5, h⟩ := h
  refine ds_blk (ls2 := [some (.ref a0), some (.ref 1), some (.ref a2), some (.int a3), some (.int a4), some (.int (((1 : Int32) <<< (((ds_wi (ds_wi σ1 (Yc.2.2.2 a0 0) a4.toNatClampNeg (0 : Int32)) a0 2 (0 : Int32)).1 1 0) &&& 31)) - (1 : Int32))), some (.int (0 : Int32)), none]) (st2 := []) (σ2 := (ds_wi (ds_wi σ1 (Yc.2.2.2 a0 0) a4.toNatClampNeg (0 : Int32)) a0 2 (0 : Int32))) ok_X7_find 4 17 10 36 [ds_k Yc a0 7, ds_k Yc (Yc.2.2.2 a0 0) 10, vp_in a4 (Yc.2.2.1 (Yc.2.2.2 a0 0)), ds_k Yc a0 7, ds_k Yc 1 1] rfl rfl rfl rfl ⟨o2, o3, o4, o5, ⟨by decide, rfl⟩, trivial⟩ ?_
  obtain ⟨n, h⟩ := h
  refine x_X7_find_36 n a0 a2 a3 (((1 : Int32) <<< (((ds_wi (ds_wi σ1 (Yc.2.2.2 a0 0) a4.toNatClampNeg (0 : Int32)) a0 2 (0 : Int32)).1 1 0) &&& 31)) - (1 : Int32)) (0 : Int32) _ _ (ds_wi (ds_wi σ1 (Yc.2.2.2 a0 0) a4.toNatClampNeg (0 : Int32)) a0 2 (0 : Int32)) Q _ _ ?_ ?_ h
  · intro v3_2 g4_2 g5_2 g6_2 g7_2 σ2 h
    refine ds_goto (show decode mt_X7_find.2.1 60 = .ok (.goto 50, 3) from ds_dec (i := (60, .goto 50, 3, 0, 0, 0, .int 0)) ok_X7_find 33 rfl) (t := 110) (by decide) ?_
    refine x_X7_find_110 a0 a2 v3_2 _ _ _ _ σ2 Q h
  · intro v3_3 g4_3 g5_3 g6_3 g7_3 σ3 h
    refine x_X7_find_110 a0 a2 v3_3 _ _ _ _ σ3 Q h
