def w_X9_ones_4 : Nat → (v0 : Int32) → (v1 : Int32) → (v2 : Int32) → (σ : ds_S) → (Q : Option Value → ds_S → Prop) → Prop
  | 0, _, _, _, _, _ => False
  | f + 1, v0, v1, v2, σ, Q => (((10 : Int32) ≤ v2 → Q (some (.int v1)) σ) ∧ (¬ (10 : Int32) ≤ v2 → w_X9_ones_4 f v0 (v1 + ((v0 >>> (v2 &&& 31)) &&& (1 : Int32))) (v2 + (1 : Int32)) σ Q))
theorem x_X9_ones_4 : ∀ (f : Nat) (v0 : Int32) (v1 : Int32) (v2 : Int32) (σ : ds_S) (Q : Option Value → ds_S → Prop), w_X9_ones_4 f v0 v1 v2 σ Q → ds_X mt_X9_ones Ym 4 [some (.int v0), some (.int v1), some (.int v2)] [] σ Q := by
  intro f
  induction f with
  | zero => intro v0 v1 v2 σ Q h; exact False.elim h
  | succ f ih =>
    intro v0 v1 v2 σ Q h
    rw [w_X9_ones_4] at h
    refine ds_blk (ls2 := [some (.int v0), some (.int v1), some (.int v2)]) (st2 := [.int (10 : Int32), .int v2]) (σ2 := σ) ok_X9_ones 4 2 4 7 [] rfl rfl rfl rfl ⟨trivial⟩ ?_
    refine ds_ic_ge (ds_dec ok_X9_ones 6 rfl) (t := 24) (by decide) (fun hc => ?_) (fun hc => ?_)
    · replace h := h.1 hc
      refine ds_blk (ls2 := [some (.int v0), some (.int v1), some (.int v2)]) (st2 := [.int v1]) (σ2 := σ) ok_X9_ones 17 1 24 25 [] rfl rfl rfl rfl ⟨trivial⟩ ?_
      exact ds_iret (ds_dec ok_X9_ones 18 rfl) rfl h
    · replace h := h.2 hc
      refine ds_blk (ls2 := [some (.int v0), some (.int (v1 + ((v0 >>> (v2 &&& 31)) &&& (1 : Int32)))), some (.int (v2 + (1 : Int32)))]) (st2 := []) (σ2 := σ) ok_X9_ones 7 9 10 21 [] rfl rfl rfl rfl ⟨trivial⟩ ?_
      refine ds_goto (ds_dec ok_X9_ones 16 rfl) (t := 4) (by decide) ?_
      exact ih v0 (v1 + ((v0 >>> (v2 &&& 31)) &&& (1 : Int32))) (v2 + (1 : Int32)) σ Q h
def w_X9_ones (a0 : Int32) (σ : ds_S) (Q : Option Value → ds_S → Prop) : Prop := ∃ n, w_X9_ones_4 n a0 (0 : Int32) (0 : Int32) σ Q
theorem e_X9_ones (a0 : Int32) (σ : ds_S) (Q : Option Value → ds_S → Prop) (h : w_X9_ones a0 σ Q) : ds_E mt_X9_ones Ym [.int a0] σ Q := by
  refine ds_enter (by decide) (Nat.le_of_ble_eq_true rfl) ?_
  show ds_X mt_X9_ones Ym 0 [some (.int a0), none, none] [] σ Q
  unfold w_X9_ones at h
  refine ds_blk (ls2 := [some (.int a0), some (.int (0 : Int32)), some (.int (0 : Int32))]) (st2 := []) (σ2 := σ) ok_X9_ones 0 4 0 4 [] rfl rfl rfl rfl ⟨trivial⟩ ?_
  obtain ⟨n, h⟩ := h
  refine x_X9_ones_4 n a0 (0 : Int32) (0 : Int32) σ Q h
def w_X9_nextOf_55 (v1 : Int32) (v2 : Int32) (v3 : Int32) (t0 : Int32) (σ : ds_S) (Q : Option Value → ds_S → Prop) (K4 : Int32 → Int32 → Int32 → ds_S → Prop) : Prop := ((t0 = 0 → K4 v1 (v2 ||| (0 : Int32)) (v3 + (1 : Int32)) σ) ∧ (¬ t0 = 0 → K4 v1 (v2 ||| ((1 : Int32) <<< (v3 &&& 31))) (v3 + (1 : Int32)) σ))
theorem x_X9_nextOf_55 (v1 : Int32) (v2 : Int32) (v3 : Int32) (t0 : Int32) (g4 : Option Value) (σ : ds_S) (Q : Option Value → ds_S → Prop) (K4 : Int32 → Int32 → Int32 → ds_S → Prop) (hK4 : ∀ (v1 : Int32) (v2 : Int32) (v3 : Int32) (g4 : Option Value) (σ2 : ds_S), K4 v1 v2 v3 σ2 → ds_X mt_X9_nextOf Ym 4 [some (.ref 0), some (.int v1), some (.int v2), some (.int v3), g4] [] σ2 Q) (h : w_X9_nextOf_55 v1 v2 v3 t0 σ Q K4) : ds_X mt_X9_nextOf Ym 55 [some (.ref 0), some (.int v1), some (.int v2), some (.int v3), g4] [.int t0] σ Q := by
  unfold w_X9_nextOf_55 at h
  refine ds_blk (ls2 := [some (.ref 0), some (.int v1), some (.int v2), some (.int v3), some (.int t0)]) (st2 := [.int t0, .int v2]) (σ2 := σ) ok_X9_nextOf 33 3 55 60 [] rfl rfl rfl rfl ⟨trivial⟩ ?_
  refine ds_if_eq (ds_dec ok_X9_nextOf 36 rfl) (t := 69) (by decide) (fun hc => ?_) (fun hc => ?_)
  · replace h := h.1 hc
    refine ds_blk (ls2 := [some (.ref 0), some (.int v1), some (.int (v2 ||| (0 : Int32))), some (.int (v3 + (1 : Int32))), some (.int t0)]) (st2 := []) (σ2 := σ) ok_X9_nextOf 41 4 69 75 [] rfl rfl rfl rfl ⟨trivial⟩ ?_
    refine ds_goto (ds_dec ok_X9_nextOf 45 rfl) (t := 4) (by decide) ?_
    exact hK4 v1 (v2 ||| (0 : Int32)) (v3 + (1 : Int32)) _ σ h
  · replace h := h.2 hc
    refine ds_blk (ls2 := [some (.ref 0), some (.int v1), some (.int v2), some (.int v3), some (.int t0)]) (st2 := [.int ((1 : Int32) <<< (v3 &&& 31)), .int v2]) (σ2 := σ) ok_X9_nextOf 37 3 63 66 [] rfl rfl rfl rfl ⟨trivial⟩ ?_
    refine ds_goto (ds_dec ok_X9_nextOf 40 rfl) (t := 70) (by decide) ?_
    refine ds_blk (ls2 := [some (.ref 0), some (.int v1), some (.int (v2 ||| ((1 : Int32) <<< (v3 &&& 31)))), some (.int (v3 + (1 : Int32))), some (.int t0)]) (st2 := []) (σ2 := σ) ok_X9_nextOf 42 3 70 75 [] rfl rfl rfl rfl ⟨trivial⟩ ?_
    refine ds_goto (ds_dec ok_X9_nextOf 45 rfl) (t := 4) (by decide) ?_
    exact hK4 v1 (v2 ||| ((1 : Int32) <<< (v3 &&& 31))) (v3 + (1 : Int32)) _ σ h
def w_X9_nextOf_31 (v1 : Int32) (v2 : Int32) (v3 : Int32) (σ : ds_S) (Q : Option Value → ds_S → Prop) (K4 : Int32 → Int32 → Int32 → ds_S → Prop) : Prop := vp_in v3 10 ∧ ((¬ (σ.1 2 v3.toNatClampNeg) = v1 → w_X9_nextOf_55 v1 v2 v3 (0 : Int32) σ Q K4) ∧ ((σ.1 2 v3.toNatClampNeg) = v1 → ds_EI mt_X9_isNext Ym [.ref 0, .int v3, .int (1 : Int32)] σ (fun r1 σ1 => ((r1 = 0 → w_X9_nextOf_55 v1 v2 v3 (0 : Int32) σ1 Q K4) ∧ (¬ r1 = 0 → w_X9_nextOf_55 v1 v2 v3 (1 : Int32) σ1 Q K4)))))
theorem x_X9_nextOf_31 (v1 : Int32) (v2 : Int32) (v3 : Int32) (g4 : Option Value) (σ : ds_S) (Q : Option Value → ds_S → Prop) (K4 : Int32 → Int32 → Int32 → ds_S → Prop) (hK4 : ∀ (v1 : Int32) (v2 : Int32) (v3 : Int32) (g4 : Option Value) (σ2 : ds_S), K4 v1 v2 v3 σ2 → ds_X mt_X9_nextOf Ym 4 [some (.ref 0), some (.int v1), some (.int v2), some (.int v3), g4] [] σ2 Q) (h : w_X9_nextOf_31 v1 v2 v3 σ Q K4) : ds_X mt_X9_nextOf Ym 31 [some (.ref 0), some (.int v1), some (.int v2), some (.int v3), g4] [] σ Q := by
  unfold w_X9_nextOf_31 at h
  obtain ⟨o1, h⟩ := h
  refine ds_blk (ls2 := [some (.ref 0), some (.int v1), some (.int v2), some (.int v3), g4]) (st2 := [.int v1, .int (σ.1 2 v3.toNatClampNeg)]) (σ2 := σ) ok_X9_nextOf 19 5 31 38 [ds_k Ym 0 9, ds_k Ym 2 10, vp_in v3 10] rfl rfl rfl rfl ⟨⟨by decide, rfl⟩, ⟨by decide, rfl⟩, o1, trivial⟩ ?_
  refine ds_ic_ne (ds_dec ok_X9_nextOf 24 rfl) (t := 54) (by decide) (fun hc => ?_) (fun hc => ?_)
  · replace h := h.1 hc
    refine ds_blk (ls2 := [some (.ref 0), some (.int v1), some (.int v2), some (.int v3), g4]) (st2 := [.int (0 : Int32)]) (σ2 := σ) ok_X9_nextOf 32 1 54 55 [] rfl rfl rfl rfl ⟨trivial⟩ ?_
    refine x_X9_nextOf_55 v1 v2 v3 (0 : Int32) _ σ Q K4 hK4 h
  · replace h := h.2 hc
    refine ds_blk (ls2 := [some (.ref 0), some (.int v1), some (.int v2), some (.int v3), g4]) (st2 := [.int (1 : Int32), .int v3, .ref 0]) (σ2 := σ) ok_X9_nextOf 25 3 41 44 [] rfl rfl rfl rfl ⟨trivial⟩ ?_
    refine ds_callV (z := mt_X9_isNext) (b := 0) (as := [.int v3, .int (1 : Int32)]) (rest := []) (ds_dec ok_X9_nextOf 28 rfl) (ds_E.mono h (fun r σ1 hr => ?_)) ⟨zw_X9_isNext.1, zw_X9_isNext.2.1, zw_X9_isNext.2.2, by decide, by decide⟩ (ds_wb_T (p := 898) (by decide +kernel)) zi_X9_isNext zs_X9_isNext (by decide) rfl ⟨_, rfl, rfl⟩ (Nat.le_of_ble_eq_true rfl)
    obtain ⟨r1, rfl, h⟩ := hr
    show ds_X mt_X9_nextOf Ym 47 [some (.ref 0), some (.int v1), some (.int v2), some (.int v3), g4] [.int r1] σ1 Q
    refine ds_if_eq (ds_dec ok_X9_nextOf 29 rfl) (t := 54) (by decide) (fun hc => ?_) (fun hc => ?_)
    · replace h := h.1 hc
      refine ds_blk (ls2 := [some (.ref 0), some (.int v1), some (.int v2), some (.int v3), g4]) (st2 := [.int (0 : Int32)]) (σ2 := σ1) ok_X9_nextOf 32 1 54 55 [] rfl rfl rfl rfl ⟨trivial⟩ ?_
      refine x_X9_nextOf_55 v1 v2 v3 (0 : Int32) _ σ1 Q K4 hK4 h
    · replace h := h.2 hc
      refine ds_blk (ls2 := [some (.ref 0), some (.int v1), some (.int v2), some (.int v3), g4]) (st2 := [.int (1 : Int32)]) (σ2 := σ1) ok_X9_nextOf 30 1 50 51 [] rfl rfl rfl rfl ⟨trivial⟩ ?_
      refine ds_goto (ds_dec ok_X9_nextOf 31 rfl) (t := 55) (by decide) ?_
      refine x_X9_nextOf_55 v1 v2 v3 (1 : Int32) _ σ1 Q K4 hK4 h
def w_X9_nextOf_4 : Nat → (v1 : Int32) → (v2 : Int32) → (v3 : Int32) → (σ : ds_S) → (Q : Option Value → ds_S → Prop) → Prop
  | 0, _, _, _, _, _ => False
  | f + 1, v1, v2, v3, σ, Q => (((σ.1 0 7) ≤ v3 → Q (some (.int v2)) σ) ∧ (¬ (σ.1 0 7) ≤ v3 → vp_in v3 10 ∧ ((¬ (σ.1 1 v3.toNatClampNeg) = v1 → w_X9_nextOf_31 v1 v2 v3 σ Q (fun v1_1 v2_1 v3_1 σ1 => w_X9_nextOf_4 f v1_1 v2_1 v3_1 σ1 Q)) ∧ ((σ.1 1 v3.toNatClampNeg) = v1 → ds_EI mt_X9_isNext Ym [.ref 0, .int v3, .int (0 : Int32)] σ (fun r2 σ2 => ((¬ r2 = 0 → w_X9_nextOf_55 v1 v2 v3 (1 : Int32) σ2 Q (fun v1_3 v2_3 v3_3 σ3 => w_X9_nextOf_4 f v1_3 v2_3 v3_3 σ3 Q)) ∧ (r2 = 0 → w_X9_nextOf_31 v1 v2 v3 σ2 Q (fun v1_4 v2_4 v3_4 σ4 => w_X9_nextOf_4 f v1_4 v2_4 v3_4 σ4 Q))))))))
theorem x_X9_nextOf_4 : ∀ (f : Nat) (v1 : Int32) (v2 : Int32) (v3 : Int32) (g4 : Option Value) (σ : ds_S) (Q : Option Value → ds_S → Prop), w_X9_nextOf_4 f v1 v2 v3 σ Q → ds_X mt_X9_nextOf Ym 4 [some (.ref 0), some (.int v1), some (.int v2), some (.int v3), g4] [] σ Q := by
  intro f
  induction f with
  | zero => intro v1 v2 v3 g4 σ Q h; exact False.elim h
  | succ f ih =>
    intro v1 v2 v3 g4 σ Q h
    rw [w_X9_nextOf_4] at h
    refine ds_blk (ls2 := [some (.ref 0), some (.int v1), some (.int v2), some (.int v3), g4]) (st2 := [.int (σ.1 0 7), .int v3]) (σ2 := σ) ok_X9_nextOf 4 3 4 9 [ds_k Ym 0 9] rfl rfl rfl rfl ⟨⟨by decide, rfl⟩, trivial⟩ ?_
    refine ds_ic_ge (ds_dec ok_X9_nextOf 7 rfl) (t := 78) (by decide) (fun hc => ?_) (fun hc => ?_)
    · replace h := h.1 hc
      refine ds_blk (ls2 := [some (.ref 0), some (.int v1), some (.int v2), some (.int v3), g4]) (st2 := [.int v2]) (σ2 := σ) ok_X9_nextOf 46 1 78 79 [] rfl rfl rfl rfl ⟨trivial⟩ ?_
      exact ds_iret (ds_dec ok_X9_nextOf 47 rfl) rfl h
    · replace h := h.2 hc
      obtain ⟨o1, h⟩ := h
      refine ds_blk (ls2 := [some (.ref 0), some (.int v1), some (.int v2), some (.int v3), g4]) (st2 := [.int v1, .int (σ.1 1 v3.toNatClampNeg)]) (σ2 := σ) ok_X9_nextOf 8 5 12 19 [ds_k Ym 0 9, ds_k Ym 1 10, vp_in v3 10] rfl rfl rfl rfl ⟨⟨by decide, rfl⟩, ⟨by decide, rfl⟩, o1, trivial⟩ ?_
      refine ds_ic_ne (ds_dec ok_X9_nextOf 13 rfl) (t := 31) (by decide) (fun hc => ?_) (fun hc => ?_)
      · replace h := h.1 hc
        refine x_X9_nextOf_31 v1 v2 v3 _ σ Q _ ?_ h
        · intro v1_1 v2_1 v3_1 g4_1 σ1 h
          exact ih v1_1 v2_1 v3_1 _ σ1 Q h
      · replace h := h.2 hc
        refine ds_blk (ls2 := [some (.ref 0), some (.int v1), some (.int v2), some (.int v3), g4]) (st2 := [.int (0 : Int32), .int v3, .ref 0]) (σ2 := σ) ok_X9_nextOf 14 3 22 25 [] rfl rfl rfl rfl ⟨trivial⟩ ?_
        refine ds_callV (z := mt_X9_isNext) (b := 0) (as := [.int v3, .int (0 : Int32)]) (rest := []) (ds_dec ok_X9_nextOf 17 rfl) (ds_E.mono h (fun r σ2 hr => ?_)) ⟨zw_X9_isNext.1, zw_X9_isNext.2.1, zw_X9_isNext.2.2, by decide, by decide⟩ (ds_wb_T (p := 898) (by decide +kernel)) zi_X9_isNext zs_X9_isNext (by decide) rfl ⟨_, rfl, rfl⟩ (Nat.le_of_ble_eq_true rfl)
        obtain ⟨r2, rfl, h⟩ := hr
        show ds_X mt_X9_nextOf Ym 28 [some (.ref 0), some (.int v1), some (.int v2), some (.int v3), g4] [.int r2] σ2 Q
        refine ds_if_ne (ds_dec ok_X9_nextOf 18 rfl) (t := 50) (by decide) (fun hc => ?_) (fun hc => ?_)
        · replace h := h.1 hc
          refine ds_blk (ls2 := [some (.ref 0), some (.int v1), some (.int v2), some (.int v3), g4]) (st2 := [.int (1 : Int32)]) (σ2 := σ2) ok_X9_nextOf 30 1 50 51 [] rfl rfl rfl rfl ⟨trivial⟩ ?_
          refine ds_goto (ds_dec ok_X9_nextOf 31 rfl) (t := 55) (by decide) ?_
          refine x_X9_nextOf_55 v1 v2 v3 (1 : Int32) _ σ2 Q _ ?_ h
          · intro v1_3 v2_3 v3_3 g4_3 σ3 h
            exact ih v1_3 v2_3 v3_3 _ σ3 Q h
        · replace h := h.2 hc
          refine x_X9_nextOf_31 v1 v2 v3 _ σ2 Q _ ?_ h
          · intro v1_4 v2_4 v3_4 g4_4 σ4 h
            exact ih v1_4 v2_4 v3_4 _ σ4 Q h
def w_X9_nextOf (a1 : Int32) (σ : ds_S) (Q : Option Value → ds_S → Prop) : Prop := ∃ n, w_X9_nextOf_4 n a1 (0 : Int32) (0 : Int32) σ Q
theorem e_X9_nextOf (a1 : Int32) (σ : ds_S) (Q : Option Value → ds_S → Prop) (h : w_X9_nextOf a1 σ Q) : ds_E mt_X9_nextOf Ym [.ref 0, .int a1] σ Q := by
  refine ds_enter (by decide) (Nat.le_of_ble_eq_true rfl) ?_
  show ds_X mt_X9_nextOf Ym 0 [some (.ref 0), some (.int a1), none, none, none] [] σ Q
  unfold w_X9_nextOf at h
  refine ds_blk (ls2 := [some (.ref 0), some (.int a1), some (.int (0 : Int32)), some (.int (0 : Int32)), none]) (st2 := []) (σ2 := σ) ok_X9_nextOf 0 4 0 4 [] rfl rfl rfl rfl ⟨trivial⟩ ?_
  obtain ⟨n, h⟩ := h
  refine x_X9_nextOf_4 n a1 (0 : Int32) (0 : Int32) _ σ Q h
def w_X9_findFar_2 : Nat → (v1 : Int32) → (v2 : Int32) → (σ : ds_S) → (Q : Option Value → ds_S → Prop) → (K31 : ds_S → Prop) → Prop
  | 0, _, _, _, _, _ => False
  | f + 1, v1, v2, σ, Q, K31 => (((6 : Int32) ≤ v2 → K31 σ) ∧ (¬ (6 : Int32) ≤ v2 → ((¬ v2 = v1 → vp_in v2 6 ∧ w_X9_findFar_2 f v1 (v2 + (1 : Int32)) (ds_wi σ 9 v2.toNatClampNeg (1000000 : Int32)) Q K31) ∧ (v2 = v1 → vp_in v2 6 ∧ w_X9_findFar_2 f v1 (v2 + (1 : Int32)) (ds_wi σ 9 v2.toNatClampNeg (0 : Int32)) Q K31))))
theorem x_X9_findFar_2 : ∀ (f : Nat) (v1 : Int32) (v2 : Int32) (g3 : Option Value) (g4 : Option Value) (g5 : Option Value) (σ : ds_S) (Q : Option Value → ds_S → Prop) (K31 : ds_S → Prop) (hK31 : ∀ (g1 : Option Value) (g2 : Option Value) (g3 : Option Value) (g4 : Option Value) (g5 : Option Value) (σ2 : ds_S), K31 σ2 → ds_X mt_X9_findFar Ym 31 [some (.ref 0), g1, g2, g3, g4, g5] [] σ2 Q), w_X9_findFar_2 f v1 v2 σ Q K31 → ds_X mt_X9_findFar Ym 2 [some (.ref 0), some (.int v1), some (.int v2), g3, g4, g5] [] σ Q := by
  intro f
  induction f with
  | zero => intro v1 v2 g3 g4 g5 σ Q K31 hK31 h; exact False.elim h
  | succ f ih =>
    intro v1 v2 g3 g4 g5 σ Q K31 hK31 h
    rw [w_X9_findFar_2] at h
    refine ds_blk (ls2 := [some (.ref 0), some (.int v1), some (.int v2), g3, g4, g5]) (st2 := [.int (6 : Int32), .int v2]) (σ2 := σ) ok_X9_findFar 2 2 2 5 [] rfl rfl rfl rfl ⟨trivial⟩ ?_
    refine ds_ic_ge (ds_dec ok_X9_findFar 4 rfl) (t := 31) (by decide) (fun hc => ?_) (fun hc => ?_)
    · replace h := h.1 hc
      exact hK31  _ _ _ _ _ σ h
    · replace h := h.2 hc
      refine ds_blk (ls2 := [some (.ref 0), some (.int v1), some (.int v2), g3, g4, g5]) (st2 := [.int v1, .int v2, .int v2, .ref 9]) (σ2 := σ) ok_X9_findFar 5 5 8 15 [ds_k Ym 0 9] rfl rfl rfl rfl ⟨⟨by decide, rfl⟩, trivial⟩ ?_
      refine ds_ic_ne (ds_dec ok_X9_findFar 10 rfl) (t := 22) (by decide) (fun hc => ?_) (fun hc => ?_)
      · replace h := h.1 hc
        obtain ⟨o1, h⟩ := h
        refine ds_blk (ls2 := [some (.ref 0), some (.int v1), some (.int (v2 + (1 : Int32))), g3, g4, g5]) (st2 := []) (σ2 := (ds_wi σ 9 v2.toNatClampNeg (1000000 : Int32))) ok_X9_findFar 13 3 22 28 [ds_k Ym 9 10, vp_in v2 6] rfl rfl rfl rfl ⟨⟨by decide, rfl⟩, o1, trivial⟩ ?_
        refine ds_goto (ds_dec ok_X9_findFar 16 rfl) (t := 2) (by decide) ?_
        exact ih v1 (v2 + (1 : Int32)) _ _ _ (ds_wi σ 9 v2.toNatClampNeg (1000000 : Int32)) Q K31 hK31 h
      · replace h := h.2 hc
        refine ds_blk (ls2 := [some (.ref 0), some (.int v1), some (.int v2), g3, g4, g5]) (st2 := [.int (0 : Int32), .int v2, .ref 9]) (σ2 := σ) ok_X9_findFar 11 1 18 19 [] rfl rfl rfl rfl ⟨trivial⟩ ?_
        refine ds_goto (ds_dec ok_X9_findFar 12 rfl) (t := 24) (by decide) ?_
        obtain ⟨o2, h⟩ := h
        refine ds_blk (ls2 := [some (.ref 0), some (.int v1), some (.int (v2 + (1 : Int32))), g3, g4, g5]) (st2 := []) (σ2 := (ds_wi σ 9 v2.toNatClampNeg (0 : Int32))) ok_X9_findFar 14 2 24 28 [ds_k Ym 9 10, vp_in v2 6] rfl rfl rfl rfl ⟨⟨by decide, rfl⟩, o2, trivial⟩ ?_
        refine ds_goto (ds_dec ok_X9_findFar 16 rfl) (t := 2) (by decide) ?_
        exact ih v1 (v2 + (1 : Int32)) _ _ _ (ds_wi σ 9 v2.toNatClampNeg (0 : Int32)) Q K31 hK31 h
def w_X9_findFar_129 (v2 : Int32) (v3 : Int32) (v4 : Int32) (v5 : Int32) (t0 : Int32) (t1 : Int32) (σ : ds_S) (Q : Option Value → ds_S → Prop) (K43 : Int32 → Int32 → ds_S → Prop) : Prop := vp_in t1 6 ∧ vp_in v4 6 ∧ vp_in v3 10 ∧ vp_in v5 6 ∧ ((((ds_wi σ 9 t1.toNatClampNeg t0).1 9 v5.toNatClampNeg) ≤ (((ds_wi σ 9 t1.toNatClampNeg t0).1 9 v4.toNatClampNeg) + (σ.1 4 v3.toNatClampNeg)) → vp_in v5 6 ∧ vp_in v5 6 ∧ K43 v2 (v3 + (1 : Int32)) (ds_wi (ds_wi σ 9 t1.toNatClampNeg t0) 9 v5.toNatClampNeg ((ds_wi σ 9 t1.toNatClampNeg t0).1 9 v5.toNatClampNeg))) ∧ (¬ ((ds_wi σ 9 t1.toNatClampNeg t0).1 9 v5.toNatClampNeg) ≤ (((ds_wi σ 9 t1.toNatClampNeg t0).1 9 v4.toNatClampNeg) + (σ.1 4 v3.toNatClampNeg)) → vp_in v4 6 ∧ vp_in v3 10 ∧ vp_in v5 6 ∧ K43 v2 (v3 + (1 : Int32)) (ds_wi (ds_wi σ 9 t1.toNatClampNeg t0) 9 v5.toNatClampNeg (((ds_wi σ 9 t1.toNatClampNeg t0).1 9 v4.toNatClampNeg) + (σ.1 4 v3.toNatClampNeg)))))
theorem x_X9_findFar_129 (v2 : Int32) (v3 : Int32) (v4 : Int32) (v5 : Int32) (t0 : Int32) (t1 : Int32) (g1 : Option Value) (σ : ds_S) (Q : Option Value → ds_S → Prop) (K43 : Int32 → Int32 → ds_S → Prop) (hK43 : ∀ (v2 : Int32) (v3 : Int32) (g1 : Option Value) (g4 : Option Value) (g5 : Option Value) (σ2 : ds_S), K43 v2 v3 σ2 → ds_X mt_X9_findFar Ym 43 [some (.ref 0), g1, some (.int v2), some (.int v3), g4, g5] [] σ2 Q) (h : w_X9_findFar_129 v2 v3 v4 v5 t0 t1 σ Q K43) : ds_X mt_X9_findFar Ym 129 [some (.ref 0), g1, some (.int v2), some (.int v3), some (.int v4), some (.int v5)] [.int t0, .int t1, .ref 9] σ Q := by
  unfold w_X9_findFar_129 at h
  obtain ⟨o1, o2, o3, o4, h⟩ := h
  refine ds_blk (ls2 := [some (.ref 0), g1, some (.int v2), some (.int v3), some (.int v4), some (.int v5)]) (st2 := [.int ((ds_wi σ 9 t1.toNatClampNeg t0).1 9 v5.toNatClampNeg), .int (((ds_wi σ 9 t1.toNatClampNeg t0).1 9 v4.toNatClampNeg) + (σ.1 4 v3.toNatClampNeg)), .int v5, .ref 9]) (σ2 := (ds_wi σ 9 t1.toNatClampNeg t0)) ok_X9_findFar 74 17 129 157 [ds_k Ym 9 10, vp_in t1 6, ds_k Ym 0 9, ds_k Ym 0 9, ds_k Ym 9 10, vp_in v4 6, ds_k Ym 0 9, ds_k Ym 4 10, vp_in v3 10, ds_k Ym 0 9, ds_k Ym 9 10, vp_in v5 6] rfl rfl rfl rfl ⟨⟨by decide, rfl⟩, o1, ⟨by decide, rfl⟩, ⟨by decide, rfl⟩, ⟨by decide, rfl⟩, o2, ⟨by decide, rfl⟩, ⟨by decide, rfl⟩, o3, ⟨by decide, rfl⟩, ⟨by decide, rfl⟩, o4, trivial⟩ ?_
  refine ds_ic_ge (ds_dec ok_X9_findFar 91 rfl) (t := 177) (by decide) (fun hc => ?_) (fun hc => ?_)
  · replace h := h.1 hc
    obtain ⟨o5, o6, h⟩ := h
    refine ds_blk (ls2 := [some (.ref 0), g1, some (.int v2), some (.int (v3 + (1 : Int32))), some (.int v4), some (.int v5)]) (st2 := []) (σ2 := (ds_wi (ds_wi σ 9 t1.toNatClampNeg t0) 9 v5.toNatClampNeg ((ds_wi σ 9 t1.toNatClampNeg t0).1 9 v5.toNatClampNeg))) ok_X9_findFar 102 6 177 188 [ds_k Ym 0 9, ds_k Ym 9 10, vp_in v5 6, ds_k Ym 9 10, vp_in v5 6] rfl rfl rfl rfl ⟨⟨by decide, rfl⟩, ⟨by decide, rfl⟩, o5, ⟨by decide, rfl⟩, o6, trivial⟩ ?_
    refine ds_goto (ds_dec ok_X9_findFar 108 rfl) (t := 43) (by decide) ?_
    exact hK43 v2 (v3 + (1 : Int32)) _ _ _ (ds_wi (ds_wi σ 9 t1.toNatClampNeg t0) 9 v5.toNatClampNeg ((ds_wi σ 9 t1.toNatClampNeg t0).1 9 v5.toNatClampNeg)) h
  · replace h := h.2 hc
    obtain ⟨o7, o8, h⟩ := h
    refine ds_blk (ls2 := [some (.ref 0), g1, some (.int v2), some (.int v3), some (.int v4), some (.int v5)]) (st2 := [.int (((ds_wi σ 9 t1.toNatClampNeg t0).1 9 v4.toNatClampNeg) + (σ.1 4 v3.toNatClampNeg)), .int v5, .ref 9]) (σ2 := (ds_wi σ 9 t1.toNatClampNeg t0)) ok_X9_findFar 92 9 160 174 [ds_k Ym 0 9, ds_k Ym 9 10, vp_in v4 6, ds_k Ym 0 9, ds_k Ym 4 10, vp_in v3 10] rfl rfl rfl rfl ⟨⟨by decide, rfl⟩, ⟨by decide, rfl⟩, o7, ⟨by decide, rfl⟩, ⟨by decide, rfl⟩, o8, trivial⟩ ?_
    refine ds_goto (ds_dec ok_X9_findFar 101 rfl) (t := 184) (by decide) ?_
    obtain ⟨o9, h⟩ := h
    refine ds_blk (ls2 := [some (.ref 0), g1, some (.int v2), some (.int (v3 + (1 : Int32))), some (.int v4), some (.int v5)]) (st2 := []) (σ2 := (ds_wi (ds_wi σ 9 t1.toNatClampNeg t0) 9 v5.toNatClampNeg (((ds_wi σ 9 t1.toNatClampNeg t0).1 9 v4.toNatClampNeg) + (σ.1 4 v3.toNatClampNeg)))) ok_X9_findFar 106 2 184 188 [ds_k Ym 9 10, vp_in v5 6] rfl rfl rfl rfl ⟨⟨by decide, rfl⟩, o9, trivial⟩ ?_
    refine ds_goto (ds_dec ok_X9_findFar 108 rfl) (t := 43) (by decide) ?_
    exact hK43 v2 (v3 + (1 : Int32)) _ _ _ (ds_wi (ds_wi σ 9 t1.toNatClampNeg t0) 9 v5.toNatClampNeg (((ds_wi σ 9 t1.toNatClampNeg t0).1 9 v4.toNatClampNeg) + (σ.1 4 v3.toNatClampNeg))) h
def w_X9_findFar_43 : Nat → (v2 : Int32) → (v3 : Int32) → (σ : ds_S) → (Q : Option Value → ds_S → Prop) → (K191 : Int32 → ds_S → Prop) → Prop
  | 0, _, _, _, _, _ => False
  | f + 1, v2, v3, σ, Q, K191 => (((σ.1 0 7) ≤ v3 → K191 v2 σ) ∧ (¬ (σ.1 0 7) ≤ v3 → vp_in v3 10 ∧ vp_in v3 10 ∧ ds_EI mt_X9_isThere Ym [.ref 0, .int v3] σ (fun r1 σ1 => ((r1 = 0 → w_X9_findFar_43 f v2 (v3 + (1 : Int32)) σ1 Q K191) ∧ (¬ r1 = 0 → vp_in (σ.1 2 v3.toNatClampNeg) 6 ∧ vp_in v3 10 ∧ vp_in (σ.1 1 v3.toNatClampNeg) 6 ∧ (((σ1.1 9 ((σ.1 1 v3.toNatClampNeg).toNatClampNeg)) ≤ ((σ1.1 9 ((σ.1 2 v3.toNatClampNeg).toNatClampNeg)) + (σ1.1 4 v3.toNatClampNeg)) → vp_in (σ.1 1 v3.toNatClampNeg) 6 ∧ w_X9_findFar_129 v2 v3 (σ.1 1 v3.toNatClampNeg) (σ.1 2 v3.toNatClampNeg) (σ1.1 9 ((σ.1 1 v3.toNatClampNeg).toNatClampNeg)) (σ.1 1 v3.toNatClampNeg) σ1 Q (fun v2_2 v3_2 σ2 => w_X9_findFar_43 f v2_2 v3_2 σ2 Q K191)) ∧ (¬ (σ1.1 9 ((σ.1 1 v3.toNatClampNeg).toNatClampNeg)) ≤ ((σ1.1 9 ((σ.1 2 v3.toNatClampNeg).toNatClampNeg)) + (σ1.1 4 v3.toNatClampNeg)) → vp_in (σ.1 2 v3.toNatClampNeg) 6 ∧ vp_in v3 10 ∧ w_X9_findFar_129 v2 v3 (σ.1 1 v3.toNatClampNeg) (σ.1 2 v3.toNatClampNeg) ((σ1.1 9 ((σ.1 2 v3.toNatClampNeg).toNatClampNeg)) + (σ1.1 4 v3.toNatClampNeg)) (σ.1 1 v3.toNatClampNeg) σ1 Q (fun v2_3 v3_3 σ3 => w_X9_findFar_43 f v2_3 v3_3 σ3 Q K191))))))))
theorem x_X9_findFar_43 : ∀ (f : Nat) (v2 : Int32) (v3 : Int32) (g1 : Option Value) (g4 : Option Value) (g5 : Option Value) (σ : ds_S) (Q : Option Value → ds_S → Prop) (K191 : Int32 → ds_S → Prop) (hK191 : ∀ (v2 : Int32) (g1 : Option Value) (g3 : Option Value) (g4 : Option Value) (g5 : Option Value) (σ2 : ds_S), K191 v2 σ2 → ds_X mt_X9_findFar Ym 191 [some (.ref 0), g1, some (.int v2), g3, g4, g5] [] σ2 Q), w_X9_findFar_43 f v2 v3 σ Q K191 → ds_X mt_X9_findFar Ym 43 [some (.ref 0), g1, some (.int v2), some (.int v3), g4, g5] [] σ Q := by
  intro f
  induction f with
  | zero => intro v2 v3 g1 g4 g5 σ Q K191 hK191 h; exact False.elim h
  | succ f ih =>
    intro v2 v3 g1 g4 g5 σ Q K191 hK191 h
    rw [w_X9_findFar_43] at h
    refine ds_blk (ls2 := [some (.ref 0), g1, some (.int v2), some (.int v3), g4, g5]) (st2 := [.int (σ.1 0 7), .int v3]) (σ2 := σ) ok_X9_findFar 25 3 43 48 [ds_k Ym 0 9] rfl rfl rfl rfl ⟨⟨by decide, rfl⟩, trivial⟩ ?_
    refine ds_ic_ge (ds_dec ok_X9_findFar 28 rfl) (t := 191) (by decide) (fun hc => ?_) (fun hc => ?_)
    · replace h := h.1 hc
      exact hK191 v2 _ _ _ _ σ h
    · replace h := h.2 hc
      obtain ⟨o1, o2, h⟩ := h
      refine ds_blk (ls2 := [some (.ref 0), g1, some (.int v2), some (.int v3), some (.int (σ.1 1 v3.toNatClampNeg)), some (.int (σ.1 2 v3.toNatClampNeg))]) (st2 := [.int v3, .ref 0]) (σ2 := σ) ok_X9_findFar 29 12 51 69 [ds_k Ym 0 9, ds_k Ym 1 10, vp_in v3 10, ds_k Ym 0 9, ds_k Ym 2 10, vp_in v3 10] rfl rfl rfl rfl ⟨⟨by decide, rfl⟩, ⟨by decide, rfl⟩, o1, ⟨by decide, rfl⟩, ⟨by decide, rfl⟩, o2, trivial⟩ ?_
      refine ds_callV (z := mt_X9_isThere) (b := 0) (as := [.int v3]) (rest := []) (ds_dec ok_X9_findFar 41 rfl) (ds_E.mono h (fun r σ1 hr => ?_)) ⟨zw_X9_isThere.1, zw_X9_isThere.2.1, zw_X9_isThere.2.2, by decide, by decide⟩ (ds_wb_T (p := 886) (by decide +kernel)) zi_X9_isThere zs_X9_isThere (by decide) rfl ⟨_, rfl, rfl⟩ (Nat.le_of_ble_eq_true rfl)
      obtain ⟨r1, rfl, h⟩ := hr
      show ds_X mt_X9_findFar Ym 72 [some (.ref 0), g1, some (.int v2), some (.int v3), some (.int (σ.1 1 v3.toNatClampNeg)), some (.int (σ.1 2 v3.toNatClampNeg))] [.int r1] σ1 Q
      refine ds_if_eq (ds_dec ok_X9_findFar 42 rfl) (t := 185) (by decide) (fun hc => ?_) (fun hc => ?_)
      · replace h := h.1 hc
        refine ds_blk (ls2 := [some (.ref 0), g1, some (.int v2), some (.int (v3 + (1 : Int32))), some (.int (σ.1 1 v3.toNatClampNeg)), some (.int (σ.1 2 v3.toNatClampNeg))]) (st2 := []) (σ2 := σ1) ok_X9_findFar 107 1 185 188 [] rfl rfl rfl rfl ⟨trivial⟩ ?_
        refine ds_goto (ds_dec ok_X9_findFar 108 rfl) (t := 43) (by decide) ?_
        exact ih v2 (v3 + (1 : Int32)) _ _ _ σ1 Q K191 hK191 h
      · replace h := h.2 hc
        obtain ⟨o3, o4, o5, h⟩ := h
        refine ds_blk (ls2 := [some (.ref 0), g1, some (.int v2), some (.int v3), some (.int (σ.1 1 v3.toNatClampNeg)), some (.int (σ.1 2 v3.toNatClampNeg))]) (st2 := [.int (σ1.1 9 ((σ.1 1 v3.toNatClampNeg).toNatClampNeg)), .int ((σ1.1 9 ((σ.1 2 v3.toNatClampNeg).toNatClampNeg)) + (σ1.1 4 v3.toNatClampNeg)), .int (σ.1 1 v3.toNatClampNeg), .ref 9]) (σ2 := σ1) ok_X9_findFar 43 16 75 102 [ds_k Ym 0 9, ds_k Ym 0 9, ds_k Ym 9 10, vp_in (σ.1 2 v3.toNatClampNeg) 6, ds_k Ym 0 9, ds_k Ym 4 10, vp_in v3 10, ds_k Ym 0 9, ds_k Ym 9 10, vp_in (σ.1 1 v3.toNatClampNeg) 6] rfl rfl rfl rfl ⟨⟨by decide, rfl⟩, ⟨by decide, rfl⟩, ⟨by decide, rfl⟩, o3, ⟨by decide, rfl⟩, ⟨by decide, rfl⟩, o4, ⟨by decide, rfl⟩, ⟨by decide, rfl⟩, o5, trivial⟩ ?_
        refine ds_ic_ge (ds_dec ok_X9_findFar 59 rfl) (t := 122) (by decide) (fun hc => ?_) (fun hc => ?_)
        · replace h := h.1 hc
          obtain ⟨o6, h⟩ := h
          refine ds_blk (ls2 := [some (.ref 0), g1, some (.int v2), some (.int v3), some (.int (σ.1 1 v3.toNatClampNeg)), some (.int (σ.1 2 v3.toNatClampNeg))]) (st2 := [.int (σ1.1 9 ((σ.1 1 v3.toNatClampNeg).toNatClampNeg)), .int (σ.1 1 v3.toNatClampNeg), .ref 9]) (σ2 := σ1) ok_X9_findFar 70 4 122 129 [ds_k Ym 0 9, ds_k Ym 9 10, vp_in (σ.1 1 v3.toNatClampNeg) 6] rfl rfl rfl rfl ⟨⟨by decide, rfl⟩, ⟨by decide, rfl⟩, o6, trivial⟩ ?_
          refine x_X9_findFar_129 v2 v3 (σ.1 1 v3.toNatClampNeg) (σ.1 2 v3.toNatClampNeg) (σ1.1 9 ((σ.1 1 v3.toNatClampNeg).toNatClampNeg)) (σ.1 1 v3.toNatClampNeg) _ σ1 Q _ ?_ h
          · intro v2_2 v3_2 g1_2 g4_2 g5_2 σ2 h
            exact ih v2_2 v3_2 _ _ _ σ2 Q K191 hK191 h
        · replace h := h.2 hc
          obtain ⟨o7, o8, h⟩ := h
          refine ds_blk (ls2 := [some (.ref 0), g1, some (.int v2), some (.int v3), some (.int (σ.1 1 v3.toNatClampNeg)), some (.int (σ.1 2 v3.toNatClampNeg))]) (st2 := [.int ((σ1.1 9 ((σ.1 2 v3.toNatClampNeg).toNatClampNeg)) + (σ1.1 4 v3.toNatClampNeg)), .int (σ.1 1 v3.toNatClampNeg), .ref 9]) (σ2 := σ1) ok_X9_findFar 60 9 105 119 [ds_k Ym 0 9, ds_k Ym 9 10, vp_in (σ.1 2 v3.toNatClampNeg) 6, ds_k Ym 0 9, ds_k Ym 4 10, vp_in v3 10] rfl rfl rfl rfl ⟨⟨by decide, rfl⟩, ⟨by decide, rfl⟩, o7, ⟨by decide, rfl⟩, ⟨by decide, rfl⟩, o8, trivial⟩ ?_
          refine ds_goto (ds_dec ok_X9_findFar 69 rfl) (t := 129) (by decide) ?_
          refine x_X9_findFar_129 v2 v3 (σ.1 1 v3.toNatClampNeg) (σ.1 2 v3.toNatClampNeg) ((σ1.1 9 ((σ.1 2 v3.toNatClampNeg).toNatClampNeg)) + (σ1.1 4 v3.toNatClampNeg)) (σ.1 1 v3.toNatClampNeg) _ σ1 Q _ ?_ h
          · intro v2_3 v3_3 g1_3 g4_3 g5_3 σ3 h
            exact ih v2_3 v3_3 _ _ _ σ3 Q K191 hK191 h
def w_X9_findFar_33 : Nat → (v2 : Int32) → (σ : ds_S) → (Q : Option Value → ds_S → Prop) → Prop
  | 0, _, _, _ => False
  | f + 1, v2, σ, Q => (((σ.1 0 0) ≤ v2 → Q none σ) ∧ (¬ (σ.1 0 0) ≤ v2 → ∃ n, w_X9_findFar_43 n v2 (0 : Int32) σ Q (fun v2_1 σ1 => w_X9_findFar_33 f (v2_1 + (1 : Int32)) σ1 Q)))
theorem x_X9_findFar_33 : ∀ (f : Nat) (v2 : Int32) (g1 : Option Value) (g3 : Option Value) (g4 : Option Value) (g5 : Option Value) (σ : ds_S) (Q : Option Value → ds_S → Prop), w_X9_findFar_33 f v2 σ Q → ds_X mt_X9_findFar Ym 33 [some (.ref 0), g1, some (.int v2), g3, g4, g5] [] σ Q := by
  intro f
  induction f with
  | zero => intro v2 g1 g3 g4 g5 σ Q h; exact False.elim h
  | succ f ih =>
    intro v2 g1 g3 g4 g5 σ Q h
    rw [w_X9_findFar_33] at h
    refine ds_blk (ls2 := [some (.ref 0), g1, some (.int v2), g3, g4, g5]) (st2 := [.int (σ.1 0 0), .int v2]) (σ2 := σ) ok_X9_findFar 19 3 33 38 [ds_k Ym 0 9] rfl rfl rfl rfl ⟨⟨by decide, rfl⟩, trivial⟩ ?_
    refine ds_ic_ge (ds_dec ok_X9_findFar 22 rfl) (t := 197) (by decide) (fun hc => ?_) (fun hc => ?_)
    · replace h := h.1 hc
      exact ds_vret (ds_dec ok_X9_findFar 111 rfl) rfl h
    · replace h := h.2 hc
      refine ds_blk (ls2 := [some (.ref 0), g1, some (.int v2), some (.int (0 : Int32)), g4, g5]) (st2 := []) (σ2 := σ) ok_X9_findFar 23 2 41 43 [] rfl rfl rfl rfl ⟨trivial⟩ ?_
      obtain ⟨n, h⟩ := h
      refine x_X9_findFar_43 n v2 (0 : Int32) _ _ _ σ Q _ ?_ h
      · intro v2_1 g1_1 g3_1 g4_1 g5_1 σ1 h
        refine ds_blk (ls2 := [some (.ref 0), (ds_nl g1_1), some (.int (v2_1 + (1 : Int32))), g3_1, g4_1, g5_1]) (st2 := []) (σ2 := σ1) ok_X9_findFar 109 1 191 194 [] rfl rfl rfl rfl ⟨trivial⟩ ?_
        refine ds_goto (ds_dec ok_X9_findFar 110 rfl) (t := 33) (by decide) ?_
        exact ih (v2_1 + (1 : Int32)) _ _ _ _ σ1 Q h
def w_X9_findFar (a1 : Int32) (σ : ds_S) (Q : Option Value → ds_S → Prop) : Prop := ∃ n, w_X9_findFar_2 n a1 (0 : Int32) σ Q (fun σ1 => ∃ n, w_X9_findFar_33 n (0 : Int32) σ1 Q)
theorem e_X9_findFar (a1 : Int32) (σ : ds_S) (Q : Option Value → ds_S → Prop) (h : w_X9_findFar a1 σ Q) : ds_E mt_X9_findFar Ym [.ref 0, .int a1] σ Q := by
  refine ds_enter (by decide) (Nat.le_of_ble_eq_true rfl) ?_
  show ds_X mt_X9_findFar Ym 0 [some (.ref 0), some (.int a1), none, none, none, none] [] σ Q
  unfold w_X9_findFar at h
  refine ds_blk (ls2 := [some (.ref 0), some (.int a1), some (.int (0 : Int32)), none, none, none]) (st2 := []) (σ2 := σ) ok_X9_findFar 0 2 0 2 [] rfl rfl rfl rfl ⟨trivial⟩ ?_
  obtain ⟨n, h⟩ := h
  refine x_X9_findFar_2 n a1 (0 : Int32) _ _ _ σ Q _ ?_ h
  · intro g1_1 g2_1 g3_1 g4_1 g5_1 σ1 h
    refine ds_blk (ls2 := [some (.ref 0), (ds_nl g1_1), some (.int (0 : Int32)), g3_1, g4_1, g5_1]) (st2 := []) (σ2 := σ1) ok_X9_findFar 17 2 31 33 [] rfl rfl rfl rfl ⟨trivial⟩ ?_
    obtain ⟨n, h⟩ := h
    refine x_X9_findFar_33 n (0 : Int32) _ _ _ _ σ1 Q h
def w_X9_parts_77 (v1 : Int32) (v2 : Int32) (v3 : Int32) (v4 : Int32) (v5 : Int32) (t0 : Int32) (σ : ds_S) (Q : Option Value → ds_S → Prop) (K14 : Int32 → Int32 → Int32 → Int32 → ds_S → Prop) : Prop := vp_in (((2 : Int32) * v4) + v5) 20 ∧ vp_in v1 6 ∧ ¬ v3.toInt64 = 0 ∧ vp_in (((2 : Int32) * v4) + v5) 20 ∧ vp_in t0 6 ∧ vp_in v1 6 ∧ ¬ v3.toInt64 = 0 ∧ vp_in t0 6 ∧ K14 v1 v2 v3 (v4 + (1 : Int32)) (ds_wl (ds_wl σ 11 ((((2 : Int32) * v4) + v5).toNatClampNeg) ((σ.2 11 ((((2 : Int32) * v4) + v5).toNatClampNeg)) + ((σ.2 10 v1.toNatClampNeg) / v3.toInt64))) 10 t0.toNatClampNeg ((σ.2 10 t0.toNatClampNeg) + ((σ.2 10 v1.toNatClampNeg) / v3.toInt64)))
theorem x_X9_parts_77 (v1 : Int32) (v2 : Int32) (v3 : Int32) (v4 : Int32) (v5 : Int32) (t0 : Int32) (g6 : Option Value) (σ : ds_S) (Q : Option Value → ds_S → Prop) (K14 : Int32 → Int32 → Int32 → Int32 → ds_S → Prop) (hK14 : ∀ (v1 : Int32) (v2 : Int32) (v3 : Int32) (v4 : Int32) (g5 : Option Value) (g6 : Option Value) (σ2 : ds_S), K14 v1 v2 v3 v4 σ2 → ds_X mt_X9_parts Ym 14 [some (.ref 0), some (.int v1), some (.int v2), some (.int v3), some (.int v4), g5, g6] [] σ2 Q) (h : w_X9_parts_77 v1 v2 v3 v4 v5 t0 σ Q K14) : ds_X mt_X9_parts Ym 77 [some (.ref 0), some (.int v1), some (.int v2), some (.int v3), some (.int v4), some (.int v5), g6] [.int t0] σ Q := by
  unfold w_X9_parts_77 at h
  obtain ⟨o1, o2, o3, o4, o5, o6, o7, o8, h⟩ := h
  refine ds_blk (ls2 := [some (.ref 0), some (.int v1), some (.int v2), some (.int v3), some (.int (v4 + (1 : Int32))), some (.int v5), some (.int t0)]) (st2 := []) (σ2 := (ds_wl (ds_wl σ 11 ((((2 : Int32) * v4) + v5).toNatClampNeg) ((σ.2 11 ((((2 : Int32) * v4) + v5).toNatClampNeg)) + ((σ.2 10 v1.toNatClampNeg) / v3.toInt64))) 10 t0.toNatClampNeg ((σ.2 10 t0.toNatClampNeg) + ((σ.2 10 v1.toNatClampNeg) / v3.toInt64)))) ok_X9_parts 43 34 77 125 [ds_k Ym 0 9, ds_k Ym 11 11, vp_in (((2 : Int32) * v4) + v5) 20, ds_k Ym 0 9, ds_k Ym 10 11, vp_in v1 6, ¬ v3.toInt64 = 0, ds_k Ym 11 11, vp_in (((2 : Int32) * v4) + v5) 20, ds_k Ym 0 9, ds_k Ym 10 11, vp_in t0 6, ds_k Ym 0 9, ds_k Ym 10 11, vp_in v1 6, ¬ v3.toInt64 = 0, ds_k Ym 10 11, vp_in t0 6] rfl rfl rfl rfl ⟨⟨by decide, rfl⟩, ⟨by decide, rfl⟩, o1, ⟨by decide, rfl⟩, ⟨by decide, rfl⟩, o2, o3, ⟨by decide, rfl⟩, o4, ⟨by decide, rfl⟩, ⟨by decide, rfl⟩, o5, ⟨by decide, rfl⟩, ⟨by decide, rfl⟩, o6, o7, ⟨by decide, rfl⟩, o8, trivial⟩ ?_
  refine ds_goto (ds_dec ok_X9_parts 77 rfl) (t := 14) (by decide) ?_
  exact hK14 v1 v2 v3 (v4 + (1 : Int32)) _ _ (ds_wl (ds_wl σ 11 ((((2 : Int32) * v4) + v5).toNatClampNeg) ((σ.2 11 ((((2 : Int32) * v4) + v5).toNatClampNeg)) + ((σ.2 10 v1.toNatClampNeg) / v3.toInt64))) 10 t0.toNatClampNeg ((σ.2 10 t0.toNatClampNeg) + ((σ.2 10 v1.toNatClampNeg) / v3.toInt64))) h
def w_X9_parts_53 (v1 : Int32) (v2 : Int32) (v3 : Int32) (v4 : Int32) (t0 : Int32) (σ : ds_S) (Q : Option Value → ds_S → Prop) (K14 : Int32 → Int32 → Int32 → Int32 → ds_S → Prop) : Prop := ((¬ t0 = 0 → vp_in v4 10 ∧ w_X9_parts_77 v1 v2 v3 v4 t0 (σ.1 1 v4.toNatClampNeg) σ Q K14) ∧ (t0 = 0 → vp_in v4 10 ∧ w_X9_parts_77 v1 v2 v3 v4 t0 (σ.1 2 v4.toNatClampNeg) σ Q K14))
theorem x_X9_parts_53 (v1 : Int32) (v2 : Int32) (v3 : Int32) (v4 : Int32) (t0 : Int32) (g5 : Option Value) (g6 : Option Value) (σ : ds_S) (Q : Option Value → ds_S → Prop) (K14 : Int32 → Int32 → Int32 → Int32 → ds_S → Prop) (hK14 : ∀ (v1 : Int32) (v2 : Int32) (v3 : Int32) (v4 : Int32) (g5 : Option Value) (g6 : Option Value) (σ2 : ds_S), K14 v1 v2 v3 v4 σ2 → ds_X mt_X9_parts Ym 14 [some (.ref 0), some (.int v1), some (.int v2), some (.int v3), some (.int v4), g5, g6] [] σ2 Q) (h : w_X9_parts_53 v1 v2 v3 v4 t0 σ Q K14) : ds_X mt_X9_parts Ym 53 [some (.ref 0), some (.int v1), some (.int v2), some (.int v3), some (.int v4), g5, g6] [.int t0] σ Q := by
  unfold w_X9_parts_53 at h
  refine ds_blk (ls2 := [some (.ref 0), some (.int v1), some (.int v2), some (.int v3), some (.int v4), some (.int t0), g6]) (st2 := [.int t0]) (σ2 := σ) ok_X9_parts 31 2 53 57 [] rfl rfl rfl rfl ⟨trivial⟩ ?_
  refine ds_if_ne (ds_dec ok_X9_parts 33 rfl) (t := 70) (by decide) (fun hc => ?_) (fun hc => ?_)
  · replace h := h.1 hc
    obtain ⟨o1, h⟩ := h
    refine ds_blk (ls2 := [some (.ref 0), some (.int v1), some (.int v2), some (.int v3), some (.int v4), some (.int t0), g6]) (st2 := [.int (σ.1 1 v4.toNatClampNeg)]) (σ2 := σ) ok_X9_parts 39 4 70 77 [ds_k Ym 0 9, ds_k Ym 1 10, vp_in v4 10] rfl rfl rfl rfl ⟨⟨by decide, rfl⟩, ⟨by decide, rfl⟩, o1, trivial⟩ ?_
    refine x_X9_parts_77 v1 v2 v3 v4 t0 (σ.1 1 v4.toNatClampNeg) _ σ Q K14 hK14 h
  · replace h := h.2 hc
    obtain ⟨o2, h⟩ := h
    refine ds_blk (ls2 := [some (.ref 0), some (.int v1), some (.int v2), some (.int v3), some (.int v4), some (.int t0), g6]) (st2 := [.int (σ.1 2 v4.toNatClampNeg)]) (σ2 := σ) ok_X9_parts 34 4 60 67 [ds_k Ym 0 9, ds_k Ym 2 10, vp_in v4 10] rfl rfl rfl rfl ⟨⟨by decide, rfl⟩, ⟨by decide, rfl⟩, o2, trivial⟩ ?_
    refine ds_goto (ds_dec ok_X9_parts 38 rfl) (t := 77) (by decide) ?_
    refine x_X9_parts_77 v1 v2 v3 v4 t0 (σ.1 2 v4.toNatClampNeg) _ σ Q K14 hK14 h
def w_X9_parts_14 : Nat → (v1 : Int32) → (v2 : Int32) → (v3 : Int32) → (v4 : Int32) → (σ : ds_S) → (Q : Option Value → ds_S → Prop) → Prop
  | 0, _, _, _, _, _, _ => False
  | f + 1, v1, v2, v3, v4, σ, Q => (((σ.1 0 7) ≤ v4 → Q none σ) ∧ (¬ (σ.1 0 7) ≤ v4 → ((v3 ≤ 0 → Q none σ) ∧ (¬ v3 ≤ 0 → ((¬ ((v2 >>> (v4 &&& 31)) &&& (1 : Int32)) = (1 : Int32) → w_X9_parts_14 f v1 v2 v3 (v4 + (1 : Int32)) σ Q) ∧ (((v2 >>> (v4 &&& 31)) &&& (1 : Int32)) = (1 : Int32) → vp_in v4 10 ∧ ((¬ (σ.1 1 v4.toNatClampNeg) = v1 → w_X9_parts_53 v1 v2 v3 v4 (1 : Int32) σ Q (fun v1_1 v2_1 v3_1 v4_1 σ1 => w_X9_parts_14 f v1_1 v2_1 v3_1 v4_1 σ1 Q)) ∧ ((σ.1 1 v4.toNatClampNeg) = v1 → w_X9_parts_53 v1 v2 v3 v4 (0 : Int32) σ Q (fun v1_2 v2_2 v3_2 v4_2 σ2 => w_X9_parts_14 f v1_2 v2_2 v3_2 v4_2 σ2 Q)))))))))
theorem x_X9_parts_14 : ∀ (f : Nat) (v1 : Int32) (v2 : Int32) (v3 : Int32) (v4 : Int32) (g5 : Option Value) (g6 : Option Value) (σ : ds_S) (Q : Option Value → ds_S → Prop), w_X9_parts_14 f v1 v2 v3 v4 σ Q → ds_X mt_X9_parts Ym 14 [some (.ref 0), some (.int v1), some (.int v2), some (.int v3), some (.int v4), g5, g6] [] σ Q := by
  intro f
  induction f with
  | zero => intro v1 v2 v3 v4 g5 g6 σ Q h; exact False.elim h
  | succ f ih =>
    intro v1 v2 v3 v4 g5 g6 σ Q h
    rw [w_X9_parts_14] at h
    refine ds_blk (ls2 := [some (.ref 0), some (.int v1), some (.int v2), some (.int v3), some (.int v4), g5, g6]) (st2 := [.int (σ.1 0 7), .int v4]) (σ2 := σ) ok_X9_parts 9 3 14 20 [ds_k Ym 0 9] rfl rfl rfl rfl ⟨⟨by decide, rfl⟩, trivial⟩ ?_
    refine ds_ic_ge (ds_dec ok_X9_parts 12 rfl) (t := 128) (by decide) (fun hc => ?_) (fun hc => ?_)
    · replace h := h.1 hc
      exact ds_vret (ds_dec ok_X9_parts 78 rfl) rfl h
    · replace h := h.2 hc
      refine ds_blk (ls2 := [some (.ref 0), some (.int v1), some (.int v2), some (.int v3), some (.int v4), g5, g6]) (st2 := [.int v3]) (σ2 := σ) ok_X9_parts 13 1 23 24 [] rfl rfl rfl rfl ⟨trivial⟩ ?_
      refine ds_if_le (ds_dec ok_X9_parts 14 rfl) (t := 128) (by decide) (fun hc => ?_) (fun hc => ?_)
      · replace h := h.1 hc
        exact ds_vret (ds_dec ok_X9_parts 78 rfl) rfl h
      · replace h := h.2 hc
        refine ds_blk (ls2 := [some (.ref 0), some (.int v1), some (.int v2), some (.int v3), some (.int v4), g5, g6]) (st2 := [.int (1 : Int32), .int ((v2 >>> (v4 &&& 31)) &&& (1 : Int32))]) (σ2 := σ) ok_X9_parts 15 6 27 34 [] rfl rfl rfl rfl ⟨trivial⟩ ?_
        refine ds_ic_ne (ds_dec ok_X9_parts 21 rfl) (t := 122) (by decide) (fun hc => ?_) (fun hc => ?_)
        · replace h := h.1 hc
          refine ds_blk (ls2 := [some (.ref 0), some (.int v1), some (.int v2), some (.int v3), some (.int (v4 + (1 : Int32))), g5, g6]) (st2 := []) (σ2 := σ) ok_X9_parts 76 1 122 125 [] rfl rfl rfl rfl ⟨trivial⟩ ?_
          refine ds_goto (ds_dec ok_X9_parts 77 rfl) (t := 14) (by decide) ?_
          exact ih v1 v2 v3 (v4 + (1 : Int32)) _ _ σ Q h
        · replace h := h.2 hc
          obtain ⟨o1, h⟩ := h
          refine ds_blk (ls2 := [some (.ref 0), some (.int v1), some (.int v2), some (.int v3), some (.int v4), g5, g6]) (st2 := [.int v1, .int (σ.1 1 v4.toNatClampNeg)]) (σ2 := σ) ok_X9_parts 22 5 37 45 [ds_k Ym 0 9, ds_k Ym 1 10, vp_in v4 10] rfl rfl rfl rfl ⟨⟨by decide, rfl⟩, ⟨by decide, rfl⟩, o1, trivial⟩ ?_
          refine ds_ic_ne (ds_dec ok_X9_parts 27 rfl) (t := 52) (by decide) (fun hc => ?_) (fun hc => ?_)
          · replace h := h.1 hc
            refine ds_blk (ls2 := [some (.ref 0), some (.int v1), some (.int v2), some (.int v3), some (.int v4), g5, g6]) (st2 := [.int (1 : Int32)]) (σ2 := σ) ok_X9_parts 30 1 52 53 [] rfl rfl rfl rfl ⟨trivial⟩ ?_
            refine x_X9_parts_53 v1 v2 v3 v4 (1 : Int32) _ _ σ Q _ ?_ h
            · intro v1_1 v2_1 v3_1 v4_1 g5_1 g6_1 σ1 h
              exact ih v1_1 v2_1 v3_1 v4_1 _ _ σ1 Q h
          · replace h := h.2 hc
            refine ds_blk (ls2 := [some (.ref 0), some (.int v1), some (.int v2), some (.int v3), some (.int v4), g5, g6]) (st2 := [.int (0 : Int32)]) (σ2 := σ) ok_X9_parts 28 1 48 49 [] rfl rfl rfl rfl ⟨trivial⟩ ?_
            refine ds_goto (ds_dec ok_X9_parts 29 rfl) (t := 53) (by decide) ?_
            refine x_X9_parts_53 v1 v2 v3 v4 (0 : Int32) _ _ σ Q _ ?_ h
            · intro v1_2 v2_2 v3_2 v4_2 g5_2 g6_2 σ2 h
              exact ih v1_2 v2_2 v3_2 v4_2 _ _ σ2 Q h
def w_X9_parts (a1 : Int32) (σ : ds_S) (Q : Option Value → ds_S → Prop) : Prop := ds_EI mt_X9_nextOf Ym [.ref 0, .int a1] σ (fun r1 σ1 => ds_EI mt_X9_ones Ym [.int r1] σ1 (fun r2 σ2 => ∃ n, w_X9_parts_14 n a1 r1 r2 (0 : Int32) σ2 Q))
theorem e_X9_parts (a1 : Int32) (σ : ds_S) (Q : Option Value → ds_S → Prop) (h : w_X9_parts a1 σ Q) : ds_E mt_X9_parts Ym [.ref 0, .int a1] σ Q := by
  refine ds_enter (by decide) (Nat.le_of_ble_eq_true rfl) ?_
  show ds_X mt_X9_parts Ym 0 [some (.ref 0), some (.int a1), none, none, none, none, none] [] σ Q
  unfold w_X9_parts at h
  refine ds_blk (ls2 := [some (.ref 0), some (.int a1), none, none, none, none, none]) (st2 := [.int a1, .ref 0]) (σ2 := σ) ok_X9_parts 0 2 0 2 [] rfl rfl rfl rfl ⟨trivial⟩ ?_
  refine ds_callV (z := mt_X9_nextOf) (b := 0) (as := [.int a1]) (rest := []) (ds_dec ok_X9_parts 2 rfl) (ds_E.mono h (fun r σ1 hr => ?_)) ⟨zw_X9_nextOf.1, zw_X9_nextOf.2.1, zw_X9_nextOf.2.2, by decide, by decide⟩ (ds_wb_T (p := 894) (by decide +kernel)) zi_X9_nextOf zs_X9_nextOf (by decide) rfl ⟨_, rfl, rfl⟩ (Nat.le_of_ble_eq_true rfl)
  obtain ⟨r1, rfl, h⟩ := hr
  show ds_X mt_X9_parts Ym 5 [some (.ref 0), some (.int a1), none, none, none, none, none] [.int r1] σ1 Q
  refine ds_blk (ls2 := [some (.ref 0), some (.int a1), some (.int r1), none, none, none, none]) (st2 := [.int r1]) (σ2 := σ1) ok_X9_parts 3 2 5 7 [] rfl rfl rfl rfl ⟨trivial⟩ ?_
  refine ds_callS (z := mt_X9_ones) (as := [.int r1]) (rest := []) (ds_dec ok_X9_parts 5 rfl) (ds_E.mono h (fun r σ2 hr => ?_)) ⟨zw_X9_ones.1, zw_X9_ones.2.1, zw_X9_ones.2.2, by decide, by decide⟩ (ds_wb_T (p := 912) (by decide +kernel)) zt_X9_ones (Nat.le_of_ble_eq_true rfl)
  obtain ⟨r2, rfl, h⟩ := hr
  show ds_X mt_X9_parts Ym 10 [some (.ref 0), some (.int a1), some (.int r1), none, none, none, none] [.int r2] σ2 Q
  refine ds_blk (ls2 := [some (.ref 0), some (.int a1), some (.int r1), some (.int r2), some (.int (0 : Int32)), none, none]) (st2 := []) (σ2 := σ2) ok_X9_parts 6 3 10 14 [] rfl rfl rfl rfl ⟨trivial⟩ ?_
  obtain ⟨n, h⟩ := h
  refine x_X9_parts_14 n a1 r1 r2 (0 : Int32) _ _ σ2 Q h
