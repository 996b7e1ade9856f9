def w_X2_firstRing (a1 : Int32) (a2 : Int32) (σ : ds_S) (Q : Option Value → ds_S → Prop) : Prop := vp_in a1 10 ∧ ds_EV mt_X2_learn Yc [.ref 56, .int a1, .int (σ.1 64 a1.toNatClampNeg)] σ (fun σ1 => ds_EV mt_X2_learn Yc [.ref 56, .int a1, .int a2] σ1 (fun σ2 => ds_EI mt_X2_leastRing Yc [.ref 56, .int (σ.1 64 a1.toNatClampNeg), .int a2] σ2 (fun r3 σ3 => Q (some (.int r3)) σ3)))
theorem e_X2_firstRing (a1 : Int32) (a2 : Int32) (σ : ds_S) (Q : Option Value → ds_S → Prop) (h : w_X2_firstRing a1 a2 σ Q) : ds_E mt_X2_firstRing Yc [.ref 56, .int a1, .int a2] σ Q := by
  refine ds_enter (by decide) (Nat.le_of_ble_eq_true rfl) ?_
  show ds_X mt_X2_firstRing Yc 0 [some (.ref 56), some (.int a1), some (.int a2), none] [] σ Q
  unfold w_X2_firstRing at h
  obtain ⟨o1, h⟩ := h
  refine ds_blk (ls2 := [some (.ref 56), some (.int a1), some (.int a2), some (.int (σ.1 64 a1.toNatClampNeg))]) (st2 := [.int (σ.1 64 a1.toNatClampNeg), .int a1, .ref 56]) (σ2 := σ) ok_X2_firstRing 0 9 0 13 [ds_k Yc 56 2, ds_k Yc 1 1, ds_k Yc 64 10, vp_in a1 10] rfl rfl rfl rfl ⟨⟨by decide, rfl⟩, ⟨by decide, rfl⟩, ⟨by decide, rfl⟩, o1, trivial⟩ ?_
  refine ds_callV (z := mt_X2_learn) (b := 56) (as := [.int a1, .int (σ.1 64 a1.toNatClampNeg)]) (rest := []) (show decode mt_X2_firstRing.2.1 13 = .ok (.invokevirtual 34, 3) from ds_dec (i := (13, .invokevirtual 34, 3, 0, 0, 641, .int 0)) ok_X2_firstRing 9 rfl) (ds_E.mono h (fun r σ1 hr => ?_)) ⟨zw_X2_learn.1, zw_X2_learn.2.1, zw_X2_learn.2.2, by decide, by decide⟩ (ds_wb_T (p := 641) (by decide +kernel)) zi_X2_learn zs_X2_learn (by decide) rfl ⟨_, rfl, rfl⟩ (Nat.le_of_ble_eq_true rfl)
  obtain ⟨rfl, h⟩ := hr
  show ds_X mt_X2_firstRing Yc 16 [some (.ref 56), some (.int a1), some (.int a2), some (.int (σ.1 64 a1.toNatClampNeg))] [] σ1 Q
  refine ds_blk (ls2 := [some (.ref 56), some (.int a1), some (.int a2), some (.int (σ.1 64 a1.toNatClampNeg))]) (st2 := [.int a2, .int a1, .ref 56]) (σ2 := σ1) ok_X2_firstRing 10 3 16 19 [] rfl rfl rfl rfl trivial ?_
  refine ds_callV (z := mt_X2_learn) (b := 56) (as := [.int a1, .int a2]) (rest := []) (show decode mt_X2_firstRing.2.1 19 = .ok (.invokevirtual 34, 3) from ds_dec (i := (19, .invokevirtual 34, 3, 0, 0, 641, .int 0)) ok_X2_firstRing 13 rfl) (ds_E.mono h (fun r σ2 hr => ?_)) ⟨zw_X2_learn.1, zw_X2_learn.2.1, zw_X2_learn.2.2, by decide, by decide⟩ (ds_wb_T (p := 641) (by decide +kernel)) zi_X2_learn zs_X2_learn (by decide) rfl ⟨_, rfl, rfl⟩ (Nat.le_of_ble_eq_true rfl)
  obtain ⟨rfl, h⟩ := hr
  show ds_X mt_X2_firstRing Yc 22 [some (.ref 56), some (.int a1), some (.int a2), some (.int (σ.1 64 a1.toNatClampNeg))] [] σ2 Q
  refine ds_blk (ls2 := [some (.ref 56), some (.int a1), some (.int a2), some (.int (σ.1 64 a1.toNatClampNeg))]) (st2 := [.int a2, .int (σ.1 64 a1.toNatClampNeg), .ref 56]) (σ2 := σ2) ok_X2_firstRing 14 3 22 25 [] rfl rfl rfl rfl trivial ?_
  refine ds_callV (z := mt_X2_leastRing) (b := 56) (as := [.int (σ.1 64 a1.toNatClampNeg), .int a2]) (rest := []) (show decode mt_X2_firstRing.2.1 25 = .ok (.invokevirtual 38, 3) from ds_dec (i := (25, .invokevirtual 38, 3, 0, 0, 654, .int 0)) ok_X2_firstRing 17 rfl) (ds_E.mono h (fun r σ3 hr => ?_)) ⟨zw_X2_leastRing.1, zw_X2_leastRing.2.1, zw_X2_leastRing.2.2, by decide, by decide⟩ (ds_wb_T (p := 654) (by decide +kernel)) zi_X2_leastRing zs_X2_leastRing (by decide) rfl ⟨_, rfl, rfl⟩ (Nat.le_of_ble_eq_true rfl)
  obtain ⟨r3, rfl, h⟩ := hr
  show ds_X mt_X2_firstRing Yc 28 [some (.ref 56), some (.int a1), some (.int a2), some (.int (σ.1 64 a1.toNatClampNeg))] [.int r3] σ3 Q
  exact ds_iret (show decode mt_X2_firstRing.2.1 28 = .ok (.ireturn, 1) from ds_dec (i := (28, .ireturn, 1, 0, 0, 0, .int 0)) ok_X2_firstRing 18 rfl) rfl h
def w_X2_countChanges (a1 : Int32) (a2 : Int32) (σ : ds_S) (Q : Option Value → ds_S → Prop) : Prop := ds_EV mt_X2_measure Yc [.ref 56, .int a1, .int a2] σ (fun σ1 => vp_in a1 10 ∧ vp_in (σ1.1 64 a1.toNatClampNeg) 21 ∧ Q (some (.int (σ1.1 59 ((σ1.1 64 a1.toNatClampNeg).toNatClampNeg)))) σ1)
theorem e_X2_countChanges (a1 : Int32) (a2 : Int32) (σ : ds_S) (Q : Option Value → ds_S → Prop) (h : w_X2_countChanges a1 a2 σ Q) : ds_E mt_X2_countChanges Yc [.ref 56, .int a1, .int a2] σ Q := by
  refine ds_enter (by decide) (Nat.le_of_ble_eq_true rfl) ?_
  show ds_X mt_X2_countChanges Yc 0 [some (.ref 56), some (.int a1), some (.int a2)] [] σ Q
  unfold w_X2_countChanges at h
  refine ds_blk (ls2 := [some (.ref 56), some (.int a1), some (.int a2)]) (st2 := [.int a2, .int a1, .ref 56]) (σ2 := σ) ok_X2_countChanges 0 3 0 3 [] rfl rfl rfl rfl trivial ?_
  refine ds_callV (z := mt_X2_measure) (b := 56) (as := [.int a1, .int a2]) (rest := []) (show decode mt_X2_countChanges.2.1 3 = .ok (.invokevirtual 42, 3) from ds_dec (i := (3, .invokevirtual 42, 3, 0, 0, 670, .int 0)) ok_X2_countChanges 3 rfl) (ds_E.mono h (fun r σ1 hr => ?_)) ⟨zw_X2_measure.1, zw_X2_measure.2.1, zw_X2_measure.2.2, by decide, by decide⟩ (ds_wb_T (p := 670) (by decide +kernel)) zi_X2_measure zs_X2_measure (by decide) rfl ⟨_, rfl, rfl⟩ (Nat.le_of_ble_eq_true rfl)
  obtain ⟨rfl, h⟩ := hr
  show ds_X mt_X2_countChanges Yc 6 [some (.ref 56), some (.int a1), some (.int a2)] [] σ1 Q
  obtain ⟨o1, o2, h⟩ := h
  refine ds_blk (ls2 := [some (.ref 56), some (.int a1), some (.int a2)]) (st2 := [.int (σ1.1 59 ((σ1.1 64 a1.toNatClampNeg).toNatClampNeg))]) (σ2 := σ1) ok_X2_countChanges 4 8 6 20 [ds_k Yc 56 2, ds_k Yc 56 2, ds_k Yc 1 1, ds_k Yc 64 10, vp_in a1 10, ds_k Yc 59 10, vp_in (σ1.1 64 a1.toNatClampNeg) 21] rfl rfl rfl rfl ⟨⟨by decide, rfl⟩, ⟨by decide, rfl⟩, ⟨by decide, rfl⟩, ⟨by decide, rfl⟩, o1, ⟨by decide, rfl⟩, o2, trivial⟩ ?_
  exact ds_iret (show decode mt_X2_countChanges.2.1 20 = .ok (.ireturn, 1) from ds_dec (i := (20, .ireturn, 1, 0, 0, 0, .int 0)) ok_X2_countChanges 12 rfl) rfl h
def w_X2_valueAt_38 : Nat → (v3 : Int32) → (v4 : Int32) → (v5 : Int32) → (σ : ds_S) → (Q : Option Value → ds_S → Prop) → Prop
  | 0, _, _, _, _, _ => False
  | f + 1, v3, v4, v5, σ, Q => ((v3 < v5 → Q (some (.int v4)) σ) ∧ (¬ v3 < v5 → ds_EI mt_X2_leastNearer Yc [.ref 56, .int v4] σ (fun r1 σ1 => w_X2_valueAt_38 f v3 r1 (v5 + (1 : Int32)) σ1 Q)))
theorem x_X2_valueAt_38 : ∀ (f : Nat) (v3 : Int32) (v4 : Int32) (v5 : Int32) (g1 : Option Value) (g2 : Option Value) (σ : ds_S) (Q : Option Value → ds_S → Prop), w_X2_valueAt_38 f v3 v4 v5 σ Q → ds_X mt_X2_valueAt Yc 38 [some (.ref 56), g1, g2, some (.int v3), some (.int v4), some (.int v5)] [] σ Q := by
  intro f
  induction f with
  | zero => intro v3 v4 v5 g1 g2 σ Q h; exact False.elim h
  | succ f ih =>
    intro v3 v4 v5 g1 g2 σ Q h
    rw [w_X2_valueAt_38] at h
    refine ds_blk (ls2 := [some (.ref 56), g1, g2, some (.int v3), some (.int v4), some (.int v5)]) (st2 := [.int v3, .int v5]) (σ2 := σ) ok_X2_valueAt 22 2 38 41 [] rfl rfl rfl rfl trivial ?_
    refine ds_ic_gt (show decode mt_X2_valueAt.2.1 41 = .ok (.if_icmp .gt 17, 3) from ds_dec (i := (41, .if_icmp .gt 17, 3, 0, 0, 0, .int 0)) ok_X2_valueAt 24 rfl) (t := 58) (by decide) (fun hc => ?_) (fun hc => ?_)
    · replace h := h.1 hc
      refine ds_blk (ls2 := [some (.ref 56), g1, g2, some (.int v3), some (.int v4), some (.int v5)]) (st2 := [.int v4]) (σ2 := σ) ok_X2_valueAt 31 1 58 60 [] rfl rfl rfl rfl trivial ?_
      exact ds_iret (show decode mt_X2_valueAt.2.1 60 = .ok (.ireturn, 1) from ds_dec (i := (60, .ireturn, 1, 0, 0, 0, .int 0)) ok_X2_valueAt 32 rfl) rfl h
    · replace h := h.2 hc
      refine ds_blk (ls2 := [some (.ref 56), g1, g2, some (.int v3), some (.int v4), some (.int v5)]) (st2 := [.int v4, .ref 56]) (σ2 := σ) ok_X2_valueAt 25 2 44 47 [] rfl rfl rfl rfl trivial ?_
      refine ds_callV (z := mt_X2_leastNearer) (b := 56) (as := [.int v4]) (rest := []) (show decode mt_X2_valueAt.2.1 47 = .ok (.invokevirtual 45, 3) from ds_dec (i := (47, .invokevirtual 45, 3, 0, 0, 687, .int 0)) ok_X2_valueAt 27 rfl) (ds_E.mono h (fun r σ1 hr => ?_)) ⟨zw_X2_leastNearer.1, zw_X2_leastNearer.2.1, zw_X2_leastNearer.2.2, by decide, by decide⟩ (ds_wb_T (p := 687) (by decide +kernel)) zi_X2_leastNearer zs_X2_leastNearer (by decide) rfl ⟨_, rfl, rfl⟩ (Nat.le_of_ble_eq_true rfl)
      obtain ⟨r1, rfl, h⟩ := hr
      show ds_X mt_X2_valueAt Yc 50 [some (.ref 56), g1, g2, some (.int v3), some (.int v4), some (.int v5)] [.int r1] σ1 Q
      refine ds_blk (ls2 := [some (.ref 56), g1, g2, some (.int v3), some (.int r1), some (.int (v5 + (1 : Int32)))]) (st2 := []) (σ2 := σ1) ok_X2_valueAt 28 2 50 55 [] rfl rfl rfl rfl trivial ?_
      refine ds_goto (show decode mt_X2_valueAt.2.1 55 = .ok (.goto (-17), 3) from ds_dec (i := (55, .goto (-17), 3, 0, 0, 0, .int 0)) ok_X2_valueAt 30 rfl) (t := 38) (by decide) ?_
      exact ih v3 r1 (v5 + (1 : Int32)) _ _ σ1 Q h
def w_X2_valueAt (a1 : Int32) (a2 : Int32) (a3 : Int32) (σ : ds_S) (Q : Option Value → ds_S → Prop) : Prop := ds_EV mt_X2_measure Yc [.ref 56, .int a1, .int a2] σ (fun σ1 => vp_in a1 10 ∧ ((a3 < 0 → Q (some (.int (-6 : Int32))) σ1) ∧ (¬ a3 < 0 → vp_in (σ1.1 64 a1.toNatClampNeg) 21 ∧ ((a3 < (σ1.1 59 ((σ1.1 64 a1.toNatClampNeg).toNatClampNeg)) → ∃ n, w_X2_valueAt_38 n a3 (σ1.1 64 a1.toNatClampNeg) (0 : Int32) σ1 Q) ∧ (¬ a3 < (σ1.1 59 ((σ1.1 64 a1.toNatClampNeg).toNatClampNeg)) → Q (some (.int (-6 : Int32))) σ1)))))
theorem e_X2_valueAt (a1 : Int32) (a2 : Int32) (a3 : Int32) (σ : ds_S) (Q : Option Value → ds_S → Prop) (h : w_X2_valueAt a1 a2 a3 σ Q) : ds_E mt_X2_valueAt Yc [.ref 56, .int a1, .int a2, .int a3] σ Q := by
  refine ds_enter (by decide) (Nat.le_of_ble_eq_true rfl) ?_
  show ds_X mt_X2_valueAt Yc 0 [some (.ref 56), some (.int a1), some (.int a2), some (.int a3), none, none] [] σ Q
  unfold w_X2_valueAt at h
  refine ds_blk (ls2 := [some (.ref 56), some (.int a1), some (.int a2), some (.int a3), none, none]) (st2 := [.int a2, .int a1, .ref 56]) (σ2 := σ) ok_X2_valueAt 0 3 0 3 [] rfl rfl rfl rfl trivial ?_
  refine ds_callV (z := mt_X2_measure) (b := 56) (as := [.int a1, .int a2]) (rest := []) (show decode mt_X2_valueAt.2.1 3 = .ok (.invokevirtual 42, 3) from ds_dec (i := (3, .invokevirtual 42, 3, 0, 0, 670, .int 0)) ok_X2_valueAt 3 rfl) (ds_E.mono h (fun r σ1 hr => ?_)) ⟨zw_X2_measure.1, zw_X2_measure.2.1, zw_X2_measure.2.2, by decide, by decide⟩ (ds_wb_T (p := 670) (by decide +kernel)) zi_X2_measure zs_X2_measure (by decide) rfl ⟨_, rfl, rfl⟩ (Nat.le_of_ble_eq_true rfl)
  obtain ⟨rfl, h⟩ := hr
  show ds_X mt_X2_valueAt Yc 6 [some (.ref 56), some (.int a1), some (.int a2), some (.int a3), none, none] [] σ1 Q
  obtain ⟨o1, h⟩ := h
  refine ds_blk (ls2 := [some (.ref 56), some (.int a1), some (.int a2), some (.int a3), some (.int (σ1.1 64 a1.toNatClampNeg)), none]) (st2 := [.int a3]) (σ2 := σ1) ok_X2_valueAt 4 7 6 18 [ds_k Yc 56 2, ds_k Yc 1 1, ds_k Yc 64 10, vp_in a1 10] rfl rfl rfl rfl ⟨⟨by decide, rfl⟩, ⟨by decide, rfl⟩, ⟨by decide, rfl⟩, o1, trivial⟩ ?_
  refine ds_if_lt (show decode mt_X2_valueAt.2.1 18 = .ok (.ifCond .lt 14, 3) from ds_dec (i := (18, .ifCond .lt 14, 3, 0, 0, 0, .int 0)) ok_X2_valueAt 11 rfl) (t := 32) (by decide) (fun hc => ?_) (fun hc => ?_)
  · replace h := h.1 hc
    refine ds_blk (ls2 := [some (.ref 56), some (.int a1), some (.int a2), some (.int a3), some (.int (σ1.1 64 a1.toNatClampNeg)), none]) (st2 := [.int (-6 : Int32)]) (σ2 := σ1) ok_X2_valueAt 18 1 32 34 [] rfl rfl rfl rfl trivial ?_
    exact ds_iret (show decode mt_X2_valueAt.2.1 34 = .ok (.ireturn, 1) from ds_dec (i := (34, .ireturn, 1, 0, 0, 0, .int 0)) ok_X2_valueAt 19 rfl) rfl h
  · replace h := h.2 hc
    obtain ⟨o2, h⟩ := h
    refine ds_blk (ls2 := [some (.ref 56), some (.int a1), some (.int a2), some (.int a3), some (.int (σ1.1 64 a1.toNatClampNeg)), none]) (st2 := [.int (σ1.1 59 ((σ1.1 64 a1.toNatClampNeg).toNatClampNeg)), .int a3]) (σ2 := σ1) ok_X2_valueAt 12 5 21 29 [ds_k Yc 56 2, ds_k Yc 59 10, vp_in (σ1.1 64 a1.toNatClampNeg) 21] rfl rfl rfl rfl ⟨⟨by decide, rfl⟩, ⟨by decide, rfl⟩, o2, trivial⟩ ?_
    refine ds_ic_lt (show decode mt_X2_valueAt.2.1 29 = .ok (.if_icmp .lt 6, 3) from ds_dec (i := (29, .if_icmp .lt 6, 3, 0, 0, 0, .int 0)) ok_X2_valueAt 17 rfl) (t := 35) (by decide) (fun hc => ?_) (fun hc => ?_)
    · replace h := h.1 hc
      refine ds_blk (ls2 := [some (.ref 56), some (.int a1), some (.int a2), some (.int a3), some (.int (σ1.1 64 a1.toNatClampNeg)), some (.int (0 : Int32))]) (st2 := []) (σ2 := σ1) ok_X2_valueAt 20 2 35 38 [] rfl rfl rfl rfl trivial ?_
      obtain ⟨n, h⟩ := h
      refine x_X2_valueAt_38 n a3 (σ1.1 64 a1.toNatClampNeg) (0 : Int32) _ _ σ1 Q h
    · replace h := h.2 hc
      refine ds_blk (ls2 := [some (.ref 56), some (.int a1), some (.int a2), some (.int a3), some (.int (σ1.1 64 a1.toNatClampNeg)), none]) (st2 := [.int (-6 : Int32)]) (σ2 := σ1) ok_X2_valueAt 18 1 32 34 [] rfl rfl rfl rfl trivial ?_
      exact ds_iret (show decode mt_X2_valueAt.2.1 34 = .ok (.ireturn, 1) from ds_dec (i := (34, .ireturn, 1, 0, 0, 0, .int 0)) ok_X2_valueAt 19 rfl) rfl h
def w_X2_leastNearer_2 : Nat → (v1 : Int32) → (v2 : Int32) → (σ : ds_S) → (Q : Option Value → ds_S → Prop) → Prop
  | 0, _, _, _, _ => False
  | f + 1, v1, v2, σ, Q => (((20 : Int32) < v2 → Q (some (.int v1)) σ) ∧ (¬ (20 : Int32) < v2 → vp_in v2 21 ∧ vp_in v1 21 ∧ ((¬ (σ.1 59 v2.toNatClampNeg) = ((σ.1 59 v1.toNatClampNeg) - (1 : Int32)) → w_X2_leastNearer_2 f v1 (v2 + (1 : Int32)) σ Q) ∧ ((σ.1 59 v2.toNatClampNeg) = ((σ.1 59 v1.toNatClampNeg) - (1 : Int32)) → ds_EI mt_X2_leastRing Yc [.ref 56, .int v1, .int v2] σ (fun r1 σ1 => ((¬ r1 = (-6 : Int32) → w_X2_leastNearer_2 f v1 (v2 + (1 : Int32)) σ1 Q) ∧ (r1 = (-6 : Int32) → Q (some (.int v2)) σ1)))))))
theorem x_X2_leastNearer_2 : ∀ (f : Nat) (v1 : Int32) (v2 : Int32) (σ : ds_S) (Q : Option Value → ds_S → Prop), w_X2_leastNearer_2 f v1 v2 σ Q → ds_X mt_X2_leastNearer Yc 2 [some (.ref 56), some (.int v1), some (.int v2)] [] σ Q := by
  intro f
  induction f with
  | zero => intro v1 v2 σ Q h; exact False.elim h
  | succ f ih =>
    intro v1 v2 σ Q h
    rw [w_X2_leastNearer_2] at h
    refine ds_blk (ls2 := [some (.ref 56), some (.int v1), some (.int v2)]) (st2 := [.int (20 : Int32), .int v2]) (σ2 := σ) ok_X2_leastNearer 2 2 2 5 [] rfl rfl rfl rfl trivial ?_
    refine ds_ic_gt (show decode mt_X2_leastNearer.2.1 5 = .ok (.if_icmp .gt 39, 3) from ds_dec (i := (5, .if_icmp .gt 39, 3, 0, 0, 0, .int 0)) ok_X2_leastNearer 4 rfl) (t := 44) (by decide) (fun hc => ?_) (fun hc => ?_)
    · replace h := h.1 hc
      refine ds_blk (ls2 := [some (.ref 56), some (.int v1), some (.int v2)]) (st2 := [.int v1]) (σ2 := σ) ok_X2_leastNearer 26 1 44 45 [] rfl rfl rfl rfl trivial ?_
      exact ds_iret (show decode mt_X2_leastNearer.2.1 45 = .ok (.ireturn, 1) from ds_dec (i := (45, .ireturn, 1, 0, 0, 0, .int 0)) ok_X2_leastNearer 27 rfl) rfl h
    · replace h := h.2 hc
      obtain ⟨o1, o2, h⟩ := h
      refine ds_blk (ls2 := [some (.ref 56), some (.int v1), some (.int v2)]) (st2 := [.int ((σ.1 59 v1.toNatClampNeg) - (1 : Int32)), .int (σ.1 59 v2.toNatClampNeg)]) (σ2 := σ) ok_X2_leastNearer 5 10 8 22 [ds_k Yc 56 2, ds_k Yc 59 10, vp_in v2 21, ds_k Yc 56 2, ds_k Yc 59 10, vp_in v1 21] rfl rfl rfl rfl ⟨⟨by decide, rfl⟩, ⟨by decide, rfl⟩, o1, ⟨by decide, rfl⟩, ⟨by decide, rfl⟩, o2, trivial⟩ ?_
      refine ds_ic_ne (show decode mt_X2_leastNearer.2.1 22 = .ok (.if_icmp .ne 16, 3) from ds_dec (i := (22, .if_icmp .ne 16, 3, 0, 0, 0, .int 0)) ok_X2_leastNearer 15 rfl) (t := 38) (by decide) (fun hc => ?_) (fun hc => ?_)
      · replace h := h.1 hc
        refine ds_blk (ls2 := [some (.ref 56), some (.int v1), some (.int (v2 + (1 : Int32)))]) (st2 := []) (σ2 := σ) ok_X2_leastNearer 24 1 38 41 [] rfl rfl rfl rfl trivial ?_
        refine ds_goto (show decode mt_X2_leastNearer.2.1 41 = .ok (.goto (-39), 3) from ds_dec (i := (41, .goto (-39), 3, 0, 0, 0, .int 0)) ok_X2_leastNearer 25 rfl) (t := 2) (by decide) ?_
        exact ih v1 (v2 + (1 : Int32)) σ Q h
      · replace h := h.2 hc
        refine ds_blk (ls2 := [some (.ref 56), some (.int v1), some (.int v2)]) (st2 := [.int v2, .int v1, .ref 56]) (σ2 := σ) ok_X2_leastNearer 16 3 25 28 [] rfl rfl rfl rfl trivial ?_
        refine ds_callV (z := mt_X2_leastRing) (b := 56) (as := [.int v1, .int v2]) (rest := []) (show decode mt_X2_leastNearer.2.1 28 = .ok (.invokevirtual 38, 3) from ds_dec (i := (28, .invokevirtual 38, 3, 0, 0, 654, .int 0)) ok_X2_leastNearer 19 rfl) (ds_E.mono h (fun r σ1 hr => ?_)) ⟨zw_X2_leastRing.1, zw_X2_leastRing.2.1, zw_X2_leastRing.2.2, by decide, by decide⟩ (ds_wb_T (p := 654) (by decide +kernel)) zi_X2_leastRing zs_X2_leastRing (by decide) rfl ⟨_, rfl, rfl⟩ (Nat.le_of_ble_eq_true rfl)
        obtain ⟨r1, rfl, h⟩ := hr
        show ds_X mt_X2_leastNearer Yc 31 [some (.ref 56), some (.int v1), some (.int v2)] [.int r1] σ1 Q
        refine ds_blk (ls2 := [some (.ref 56), some (.int v1), some (.int v2)]) (st2 := [.int (-6 : Int32), .int r1]) (σ2 := σ1) ok_X2_leastNearer 20 1 31 33 [] rfl rfl rfl rfl trivial ?_
        refine ds_ic_ne (show decode mt_X2_leastNearer.2.1 33 = .ok (.if_icmp .ne 5, 3) from ds_dec (i := (33, .if_icmp .ne 5, 3, 0, 0, 0, .int 0)) ok_X2_leastNearer 21 rfl) (t := 38) (by decide) (fun hc => ?_) (fun hc => ?_)
        · replace h := h.1 hc
          refine ds_blk (ls2 := [some (.ref 56), some (.int v1), some (.int (v2 + (1 : Int32)))]) (st2 := []) (σ2 := σ1) ok_X2_leastNearer 24 1 38 41 [] rfl rfl rfl rfl trivial ?_
          refine ds_goto (show decode mt_X2_leastNearer.2.1 41 = .ok (.goto (-39), 3) from ds_dec (i := (41, .goto (-39), 3, 0, 0, 0, .int 0)) ok_X2_leastNearer 25 rfl) (t := 2) (by decide) ?_
          exact ih v1 (v2 + (1 : Int32)) σ1 Q h
        · replace h := h.2 hc
          refine ds_blk (ls2 := [some (.ref 56), some (.int v1), some (.int v2)]) (st2 := [.int v2]) (σ2 := σ1) ok_X2_leastNearer 22 1 36 37 [] rfl rfl rfl rfl trivial ?_
          exact ds_iret (show decode mt_X2_leastNearer.2.1 37 = .ok (.ireturn, 1) from ds_dec (i := (37, .ireturn, 1, 0, 0, 0, .int 0)) ok_X2_leastNearer 23 rfl) rfl h
def w_X2_leastNearer (a1 : Int32) (σ : ds_S) (Q : Option Value → ds_S → Prop) : Prop := ∃ n, w_X2_leastNearer_2 n a1 (1 : Int32) σ Q
theorem e_X2_leastNearer (a1 : Int32) (σ : ds_S) (Q : Option Value → ds_S → Prop) (h : w_X2_leastNearer a1 σ Q) : ds_E mt_X2_leastNearer Yc [.ref 56, .int a1] σ Q := by
  refine ds_enter (by decide) (Nat.le_of_ble_eq_true rfl) ?_
  show ds_X mt_X2_leastNearer Yc 0 [some (.ref 56), some (.int a1), none] [] σ Q
  unfold w_X2_leastNearer at h
  refine ds_blk (ls2 := [some (.ref 56), some (.int a1), some (.int (1 : Int32))]) (st2 := []) (σ2 := σ) ok_X2_leastNearer 0 2 0 2 [] rfl rfl rfl rfl trivial ?_
  obtain ⟨n, h⟩ := h
  refine x_X2_leastNearer_2 n a1 (1 : Int32) σ Q h
def w_X2_measure_2 : Nat → (v1 : Int32) → (v2 : Int32) → (v3 : Int32) → (σ : ds_S) → (Q : Option Value → ds_S → Prop) → (K20 : Int32 → Int32 → ds_S → Prop) → Prop
  | 0, _, _, _, _, _, _ => False
  | f + 1, v1, v2, v3, σ, Q, K20 => (((20 : Int32) < v3 → K20 v1 v2 σ) ∧ (¬ (20 : Int32) < v3 → ds_EV mt_X2_learn Yc [.ref 56, .int v1, .int v3] σ (fun σ1 => w_X2_measure_2 f v1 v2 (v3 + (1 : Int32)) σ1 Q K20)))
theorem x_X2_measure_2 : ∀ (f : Nat) (v1 : Int32) (v2 : Int32) (v3 : Int32) (g4 : Option Value) (σ : ds_S) (Q : Option Value → ds_S → Prop) (K20 : Int32 → Int32 → ds_S → Prop) (hK20 : ∀ (v1 : Int32) (v2 : Int32) (g3 : Option Value) (g4 : Option Value) (σ2 : ds_S), K20 v1 v2 σ2 → ds_X mt_X2_measure Yc 20 [some (.ref 56), some (.int v1), some (.int v2), g3, g4] [] σ2 Q), w_X2_measure_2 f v1 v2 v3 σ Q K20 → ds_X mt_X2_measure Yc 2 [some (.ref 56), some (.int v1), some (.int v2), some (.int v3), g4] [] σ Q := by
  intro f
  induction f with
  | zero => intro v1 v2 v3 g4 σ Q K20 hK20 h; exact False.elim h
  | succ f ih =>
    intro v1 v2 v3 g4 σ Q K20 hK20 h
    rw [w_X2_measure_2] at h
    refine ds_blk (ls2 := [some (.ref 56), some (.int v1), some (.int v2), some (.int v3), g4]) (st2 := [.int (20 : Int32), .int v3]) (σ2 := σ) ok_X2_measure 2 2 2 5 [] rfl rfl rfl rfl trivial ?_
    refine ds_ic_gt (show decode mt_X2_measure.2.1 5 = .ok (.if_icmp .gt 15, 3) from ds_dec (i := (5, .if_icmp .gt 15, 3, 0, 0, 0, .int 0)) ok_X2_measure 4 rfl) (t := 20) (by decide) (fun hc => ?_) (fun hc => ?_)
    · replace h := h.1 hc
      exact hK20 v1 v2 _ _ σ h
    · replace h := h.2 hc
      refine ds_blk (ls2 := [some (.ref 56), some (.int v1), some (.int v2), some (.int v3), g4]) (st2 := [.int v3, .int v1, .ref 56]) (σ2 := σ) ok_X2_measure 5 3 8 11 [] rfl rfl rfl rfl trivial ?_
      refine ds_callV (z := mt_X2_learn) (b := 56) (as := [.int v1, .int v3]) (rest := []) (show decode mt_X2_measure.2.1 11 = .ok (.invokevirtual 34, 3) from ds_dec (i := (11, .invokevirtual 34, 3, 0, 0, 641, .int 0)) ok_X2_measure 8 rfl) (ds_E.mono h (fun r σ1 hr => ?_)) ⟨zw_X2_learn.1, zw_X2_learn.2.1, zw_X2_learn.2.2, by decide, by decide⟩ (ds_wb_T (p := 641) (by decide +kernel)) zi_X2_learn zs_X2_learn (by decide) rfl ⟨_, rfl, rfl⟩ (Nat.le_of_ble_eq_true rfl)
      obtain ⟨rfl, h⟩ := hr
      show ds_X mt_X2_measure Yc 14 [some (.ref 56), some (.int v1), some (.int v2), some (.int v3), g4] [] σ1 Q
      refine ds_blk (ls2 := [some (.ref 56), some (.int v1), some (.int v2), some (.int (v3 + (1 : Int32))), g4]) (st2 := []) (σ2 := σ1) ok_X2_measure 9 1 14 17 [] rfl rfl rfl rfl trivial ?_
      refine ds_goto (show decode mt_X2_measure.2.1 17 = .ok (.goto (-15), 3) from ds_dec (i := (17, .goto (-15), 3, 0, 0, 0, .int 0)) ok_X2_measure 10 rfl) (t := 2) (by decide) ?_
      exact ih v1 v2 (v3 + (1 : Int32)) _ σ1 Q K20 hK20 h
def w_X2_measure_66 : Nat → (v1 : Int32) → (v3 : Int32) → (v4 : Int32) → (σ : ds_S) → (Q : Option Value → ds_S → Prop) → (K96 : Int32 → Int32 → ds_S → Prop) → Prop
  | 0, _, _, _, _, _, _ => False
  | f + 1, v1, v3, v4, σ, Q, K96 => (((20 : Int32) < v4 → K96 v1 v3 σ) ∧ (¬ (20 : Int32) < v4 → vp_in v4 21 ∧ ((¬ (σ.1 59 v4.toNatClampNeg) = v3 → w_X2_measure_66 f v1 v3 (v4 + (1 : Int32)) σ Q K96) ∧ ((σ.1 59 v4.toNatClampNeg) = v3 → ds_EV mt_X2_meetFrom Yc [.ref 56, .int v4] σ (fun σ1 => w_X2_measure_66 f v1 v3 (v4 + (1 : Int32)) σ1 Q K96)))))
theorem x_X2_measure_66 : ∀ (f : Nat) (v1 : Int32) (v3 : Int32) (v4 : Int32) (g2 : Option Value) (σ : ds_S) (Q : Option Value → ds_S → Prop) (K96 : Int32 → Int32 → ds_S → Prop) (hK96 : ∀ (v1 : Int32) (v3 : Int32) (g2 : Option Value) (g4 : Option Value) (σ2 : ds_S), K96 v1 v3 σ2 → ds_X mt_X2_measure Yc 96 [some (.ref 56), some (.int v1), g2, some (.int v3), g4] [] σ2 Q), w_X2_measure_66 f v1 v3 v4 σ Q K96 → ds_X mt_X2_measure Yc 66 [some (.ref 56), some (.int v1), g2, some (.int v3), some (.int v4)] [] σ Q := by
  intro f
  induction f with
  | zero => intro v1 v3 v4 g2 σ Q K96 hK96 h; exact False.elim h
  | succ f ih =>
    intro v1 v3 v4 g2 σ Q K96 hK96 h
    rw [w_X2_measure_66] at h
    refine ds_blk (ls2 := [some (.ref 56), some (.int v1), g2, some (.int v3), some (.int v4)]) (st2 := [.int (20 : Int32), .int v4]) (σ2 := σ) ok_X2_measure 37 2 66 70 [] rfl rfl rfl rfl trivial ?_
    refine ds_ic_gt (show decode mt_X2_measure.2.1 70 = .ok (.if_icmp .gt 26, 3) from ds_dec (i := (70, .if_icmp .gt 26, 3, 0, 0, 0, .int 0)) ok_X2_measure 39 rfl) (t := 96) (by decide) (fun hc => ?_) (fun hc => ?_)
    · replace h := h.1 hc
      exact hK96 v1 v3 _ _ σ h
    · replace h := h.2 hc
      obtain ⟨o1, h⟩ := h
      refine ds_blk (ls2 := [some (.ref 56), some (.int v1), g2, some (.int v3), some (.int v4)]) (st2 := [.int v3, .int (σ.1 59 v4.toNatClampNeg)]) (σ2 := σ) ok_X2_measure 40 5 73 81 [ds_k Yc 56 2, ds_k Yc 59 10, vp_in v4 21] rfl rfl rfl rfl ⟨⟨by decide, rfl⟩, ⟨by decide, rfl⟩, o1, trivial⟩ ?_
      refine ds_ic_ne (show decode mt_X2_measure.2.1 81 = .ok (.if_icmp .ne 9, 3) from ds_dec (i := (81, .if_icmp .ne 9, 3, 0, 0, 0, .int 0)) ok_X2_measure 45 rfl) (t := 90) (by decide) (fun hc => ?_) (fun hc => ?_)
      · replace h := h.1 hc
        refine ds_blk (ls2 := [some (.ref 56), some (.int v1), g2, some (.int v3), some (.int (v4 + (1 : Int32)))]) (st2 := []) (σ2 := σ) ok_X2_measure 49 1 90 93 [] rfl rfl rfl rfl trivial ?_
        refine ds_goto (show decode mt_X2_measure.2.1 93 = .ok (.goto (-27), 3) from ds_dec (i := (93, .goto (-27), 3, 0, 0, 0, .int 0)) ok_X2_measure 50 rfl) (t := 66) (by decide) ?_
        exact ih v1 v3 (v4 + (1 : Int32)) _ σ Q K96 hK96 h
      · replace h := h.2 hc
        refine ds_blk (ls2 := [some (.ref 56), some (.int v1), g2, some (.int v3), some (.int v4)]) (st2 := [.int v4, .ref 56]) (σ2 := σ) ok_X2_measure 46 2 84 87 [] rfl rfl rfl rfl trivial ?_
        refine ds_callV (z := mt_X2_meetFrom) (b := 56) (as := [.int v4]) (rest := []) (show decode mt_X2_measure.2.1 87 = .ok (.invokevirtual 55, 3) from ds_dec (i := (87, .invokevirtual 55, 3, 0, 0, 675, .int 0)) ok_X2_measure 48 rfl) (ds_E.mono h (fun r σ1 hr => ?_)) ⟨zw_X2_meetFrom.1, zw_X2_meetFrom.2.1, zw_X2_meetFrom.2.2, by decide, by decide⟩ (ds_wb_T (p := 675) (by decide +kernel)) zi_X2_meetFrom zs_X2_meetFrom (by decide) rfl ⟨_, rfl, rfl⟩ (Nat.le_of_ble_eq_true rfl)
        obtain ⟨rfl, h⟩ := hr
        show ds_X mt_X2_measure Yc 90 [some (.ref 56), some (.int v1), g2, some (.int v3), some (.int v4)] [] σ1 Q
        refine ds_blk (ls2 := [some (.ref 56), some (.int v1), g2, some (.int v3), some (.int (v4 + (1 : Int32)))]) (st2 := []) (σ2 := σ1) ok_X2_measure 49 1 90 93 [] rfl rfl rfl rfl trivial ?_
        refine ds_goto (show decode mt_X2_measure.2.1 93 = .ok (.goto (-27), 3) from ds_dec (i := (93, .goto (-27), 3, 0, 0, 0, .int 0)) ok_X2_measure 50 rfl) (t := 66) (by decide) ?_
        exact ih v1 v3 (v4 + (1 : Int32)) _ σ1 Q K96 hK96 h
def w_X2_measure_38 : Nat → (v1 : Int32) → (v3 : Int32) → (σ : ds_S) → (Q : Option Value → ds_S → Prop) → Prop
  | 0, _, _, _, _ => False
  | f + 1, v1, v3, σ, Q => (((20 : Int32) ≤ v3 → Q none σ) ∧ (¬ (20 : Int32) ≤ v3 → vp_in v1 10 ∧ vp_in (σ.1 64 v1.toNatClampNeg) 21 ∧ ((¬ (σ.1 59 ((σ.1 64 v1.toNatClampNeg).toNatClampNeg)) = (-6 : Int32) → Q none σ) ∧ ((σ.1 59 ((σ.1 64 v1.toNatClampNeg).toNatClampNeg)) = (-6 : Int32) → ∃ n, w_X2_measure_66 n v1 v3 (1 : Int32) σ Q (fun v1_1 v3_1 σ1 => w_X2_measure_38 f v1_1 (v3_1 + (1 : Int32)) σ1 Q)))))
theorem x_X2_measure_38 : ∀ (f : Nat) (v1 : Int32) (v3 : Int32) (g2 : Option Value) (g4 : Option Value) (σ : ds_S) (Q : Option Value → ds_S → Prop), w_X2_measure_38 f v1 v3 σ Q → ds_X mt_X2_measure Yc 38 [some (.ref 56), some (.int v1), g2, some (.int v3), g4] [] σ Q := by
  intro f
  induction f with
  | zero => intro v1 v3 g2 g4 σ Q h; exact False.elim h
  | succ f ih =>
    intro v1 v3 g2 g4 σ Q h
    rw [w_X2_measure_38] at h
    refine ds_blk (ls2 := [some (.ref 56), some (.int v1), g2, some (.int v3), g4]) (st2 := [.int (20 : Int32), .int v3]) (σ2 := σ) ok_X2_measure 22 2 38 41 [] rfl rfl rfl rfl trivial ?_
    refine ds_ic_ge (show decode mt_X2_measure.2.1 41 = .ok (.if_icmp .ge 61, 3) from ds_dec (i := (41, .if_icmp .ge 61, 3, 0, 0, 0, .int 0)) ok_X2_measure 24 rfl) (t := 102) (by decide) (fun hc => ?_) (fun hc => ?_)
    · replace h := h.1 hc
      exact ds_vret (show decode mt_X2_measure.2.1 102 = .ok (.return_, 1) from ds_dec (i := (102, .return_, 1, 0, 0, 0, .int 0)) ok_X2_measure 53 rfl) rfl h
    · replace h := h.2 hc
      obtain ⟨o1, o2, h⟩ := h
      refine ds_blk (ls2 := [some (.ref 56), some (.int v1), g2, some (.int v3), g4]) (st2 := [.int (-6 : Int32), .int (σ.1 59 ((σ.1 64 v1.toNatClampNeg).toNatClampNeg))]) (σ2 := σ) ok_X2_measure 25 9 44 60 [ds_k Yc 56 2, ds_k Yc 56 2, ds_k Yc 1 1, ds_k Yc 64 10, vp_in v1 10, ds_k Yc 59 10, vp_in (σ.1 64 v1.toNatClampNeg) 21] rfl rfl rfl rfl ⟨⟨by decide, rfl⟩, ⟨by decide, rfl⟩, ⟨by decide, rfl⟩, ⟨by decide, rfl⟩, o1, ⟨by decide, rfl⟩, o2, trivial⟩ ?_
      refine ds_ic_ne (show decode mt_X2_measure.2.1 60 = .ok (.if_icmp .ne 42, 3) from ds_dec (i := (60, .if_icmp .ne 42, 3, 0, 0, 0, .int 0)) ok_X2_measure 34 rfl) (t := 102) (by decide) (fun hc => ?_) (fun hc => ?_)
      · replace h := h.1 hc
        exact ds_vret (show decode mt_X2_measure.2.1 102 = .ok (.return_, 1) from ds_dec (i := (102, .return_, 1, 0, 0, 0, .int 0)) ok_X2_measure 53 rfl) rfl h
      · replace h := h.2 hc
        refine ds_blk (ls2 := [some (.ref 56), some (.int v1), g2, some (.int v3), some (.int (1 : Int32))]) (st2 := []) (σ2 := σ) ok_X2_measure 35 2 63 66 [] rfl rfl rfl rfl trivial ?_
        obtain ⟨n, h⟩ := h
        refine x_X2_measure_66 n v1 v3 (1 : Int32) _ σ Q _ ?_ h
        · intro v1_1 v3_1 g2_1 g4_1 σ1 h
          refine ds_blk (ls2 := [some (.ref 56), some (.int v1_1), (ds_nl g2_1), some (.int (v3_1 + (1 : Int32))), g4_1]) (st2 := []) (σ2 := σ1) ok_X2_measure 51 1 96 99 [] rfl rfl rfl rfl trivial ?_
          refine ds_goto (show decode mt_X2_measure.2.1 99 = .ok (.goto (-61), 3) from ds_dec (i := (99, .goto (-61), 3, 0, 0, 0, .int 0)) ok_X2_measure 52 rfl) (t := 38) (by decide) ?_
          exact ih v1_1 (v3_1 + (1 : Int32)) _ _ σ1 Q h
def w_X2_measure (a1 : Int32) (a2 : Int32) (σ : ds_S) (Q : Option Value → ds_S → Prop) : Prop := ∃ n, w_X2_measure_2 n a1 a2 (1 : Int32) σ Q (fun v1_1 v2_1 σ1 => ds_EV mt_J7_fill_53178 Yc [.ref 59, .int (-6 : Int32)] σ1 (fun σ2 => vp_in v2_1 21 ∧ (∃ n, w_X2_measure_38 n v1_1 (0 : Int32) (ds_wi σ2 59 v2_1.toNatClampNeg (0 : Int32)) Q)))
theorem e_X2_measure (a1 : Int32) (a2 : Int32) (σ : ds_S) (Q : Option Value → ds_S → Prop) (h : w_X2_measure a1 a2 σ Q) : ds_E mt_X2_measure Yc [.ref 56, .int a1, .int a2] σ Q := by
  refine ds_enter (by decide) (Nat.le_of_ble_eq_true rfl) ?_
  show ds_X mt_X2_measure Yc 0 [some (.ref 56), some (.int a1), some (.int a2), none, none] [] σ Q
  unfold w_X2_measure at h
  refine ds_blk (ls2 := [some (.ref 56), some (.int a1), some (.int a2), some (.int (1 : Int32)), none]) (st2 := []) (σ2 := σ) ok_X2_measure 0 2 0 2 [] rfl rfl rfl rfl trivial ?_
  obtain ⟨n, h⟩ := h
  refine x_X2_measure_2 n a1 a2 (1 : Int32) _ σ Q _ ?_ h
  · intro v1_1 v2_1 g3_1 g4_1 σ1 h
    refine ds_blk (ls2 := [some (.ref 56), some (.int v1_1), some (.int v2_1), g3_1, g4_1]) (st2 := [.int (-6 : Int32), .ref 59]) (σ2 := σ1) ok_X2_measure 11 3 20 26 [ds_k Yc 56 2] rfl rfl rfl rfl ⟨⟨by decide, rfl⟩, trivial⟩ ?_
    refine ds_callS (z := mt_J7_fill_53178) (as := [.ref 59, .int (-6 : Int32)]) (rest := []) (show decode mt_X2_measure.2.1 26 = .ok (.invokestatic 49, 3) from ds_dec (i := (26, .invokestatic 49, 3, 0, 0, 674, .int 0)) ok_X2_measure 14 rfl) (ds_E.mono h (fun r σ2 hr => ?_)) ⟨zw_J7_fill_53178.1, zw_J7_fill_53178.2.1, zw_J7_fill_53178.2.2, by decide, by decide⟩ (ds_wb_T (p := 674) (by decide +kernel)) zt_J7_fill_53178 (Nat.le_of_ble_eq_true rfl)
    obtain ⟨rfl, h⟩ := hr
    show ds_X mt_X2_measure Yc 29 [some (.ref 56), some (.int v1_1), some (.int v2_1), g3_1, g4_1] [] σ2 Q
    obtain ⟨o1, h⟩ := h
    refine ds_blk (ls2 := [some (.ref 56), some (.int v1_1), some (.int v2_1), some (.int (0 : Int32)), g4_1]) (st2 := []) (σ2 := (ds_wi σ2 59 v2_1.toNatClampNeg (0 : Int32))) ok_X2_measure 15 7 29 38 [ds_k Yc 56 2, ds_k Yc 59 10, vp_in v2_1 21] rfl rfl rfl rfl ⟨⟨by decide, rfl⟩, ⟨by decide, rfl⟩, o1, trivial⟩ ?_
    obtain ⟨n, h⟩ := h
    refine x_X2_measure_38 n v1_1 (0 : Int32) _ _ (ds_wi σ2 59 v2_1.toNatClampNeg (0 : Int32)) Q h
def w_X2_meetFrom_2 : Nat → (v1 : Int32) → (v2 : Int32) → (σ : ds_S) → (Q : Option Value → ds_S → Prop) → Prop
  | 0, _, _, _, _ => False
  | f + 1, v1, v2, σ, Q => (((20 : Int32) < v2 → Q none σ) ∧ (¬ (20 : Int32) < v2 → vp_in v2 21 ∧ ((¬ (σ.1 59 v2.toNatClampNeg) = (-6 : Int32) → w_X2_meetFrom_2 f v1 (v2 + (1 : Int32)) σ Q) ∧ ((σ.1 59 v2.toNatClampNeg) = (-6 : Int32) → ds_EI mt_X2_leastRing Yc [.ref 56, .int v1, .int v2] σ (fun r1 σ1 => ((¬ r1 = (-6 : Int32) → w_X2_meetFrom_2 f v1 (v2 + (1 : Int32)) σ1 Q) ∧ (r1 = (-6 : Int32) → vp_in v1 21 ∧ vp_in v2 21 ∧ w_X2_meetFrom_2 f v1 (v2 + (1 : Int32)) (ds_wi σ1 59 v2.toNatClampNeg ((σ1.1 59 v1.toNatClampNeg) + (1 : Int32))) Q)))))))
theorem x_X2_meetFrom_2 : ∀ (f : Nat) (v1 : Int32) (v2 : Int32) (σ : ds_S) (Q : Option Value → ds_S → Prop), w_X2_meetFrom_2 f v1 v2 σ Q → ds_X mt_X2_meetFrom Yc 2 [some (.ref 56), some (.int v1), some (.int v2)] [] σ Q := by
  intro f
  induction f with
  | zero => intro v1 v2 σ Q h; exact False.elim h
  | succ f ih =>
    intro v1 v2 σ Q h
    rw [w_X2_meetFrom_2] at h
    refine ds_blk (ls2 := [some (.ref 56), some (.int v1), some (.int v2)]) (st2 := [.int (20 : Int32), .int v2]) (σ2 := σ) ok_X2_meetFrom 2 2 2 5 [] rfl rfl rfl rfl trivial ?_
    refine ds_ic_gt (show decode mt_X2_meetFrom.2.1 5 = .ok (.if_icmp .gt 45, 3) from ds_dec (i := (5, .if_icmp .gt 45, 3, 0, 0, 0, .int 0)) ok_X2_meetFrom 4 rfl) (t := 50) (by decide) (fun hc => ?_) (fun hc => ?_)
    · replace h := h.1 hc
      exact ds_vret (show decode mt_X2_meetFrom.2.1 50 = .ok (.return_, 1) from ds_dec (i := (50, .return_, 1, 0, 0, 0, .int 0)) ok_X2_meetFrom 29 rfl) rfl h
    · replace h := h.2 hc
      obtain ⟨o1, h⟩ := h
      refine ds_blk (ls2 := [some (.ref 56), some (.int v1), some (.int v2)]) (st2 := [.int (-6 : Int32), .int (σ.1 59 v2.toNatClampNeg)]) (σ2 := σ) ok_X2_meetFrom 5 5 8 16 [ds_k Yc 56 2, ds_k Yc 59 10, vp_in v2 21] rfl rfl rfl rfl ⟨⟨by decide, rfl⟩, ⟨by decide, rfl⟩, o1, trivial⟩ ?_
      refine ds_ic_ne (show decode mt_X2_meetFrom.2.1 16 = .ok (.if_icmp .ne 28, 3) from ds_dec (i := (16, .if_icmp .ne 28, 3, 0, 0, 0, .int 0)) ok_X2_meetFrom 10 rfl) (t := 44) (by decide) (fun hc => ?_) (fun hc => ?_)
      · replace h := h.1 hc
        refine ds_blk (ls2 := [some (.ref 56), some (.int v1), some (.int (v2 + (1 : Int32)))]) (st2 := []) (σ2 := σ) ok_X2_meetFrom 27 1 44 47 [] rfl rfl rfl rfl trivial ?_
        refine ds_goto (show decode mt_X2_meetFrom.2.1 47 = .ok (.goto (-45), 3) from ds_dec (i := (47, .goto (-45), 3, 0, 0, 0, .int 0)) ok_X2_meetFrom 28 rfl) (t := 2) (by decide) ?_
        exact ih v1 (v2 + (1 : Int32)) σ Q h
      · replace h := h.2 hc
        refine ds_blk (ls2 := [some (.ref 56), some (.int v1), some (.int v2)]) (st2 := [.int v2, .int v1, .ref 56]) (σ2 := σ) ok_X2_meetFrom 11 3 19 22 [] rfl rfl rfl rfl trivial ?_
        refine ds_callV (z := mt_X2_leastRing) (b := 56) (as := [.int v1, .int v2]) (rest := []) (show decode mt_X2_meetFrom.2.1 22 = .ok (.invokevirtual 38, 3) from ds_dec (i := (22, .invokevirtual 38, 3, 0, 0, 654, .int 0)) ok_X2_meetFrom 14 rfl) (ds_E.mono h (fun r σ1 hr => ?_)) ⟨zw_X2_leastRing.1, zw_X2_leastRing.2.1, zw_X2_leastRing.2.2, by decide, by decide⟩ (ds_wb_T (p := 654) (by decide +kernel)) zi_X2_leastRing zs_X2_leastRing (by decide) rfl ⟨_, rfl, rfl⟩ (Nat.le_of_ble_eq_true rfl)
        obtain ⟨r1, rfl, h⟩ := hr
        show ds_X mt_X2_meetFrom Yc 25 [some (.ref 56), some (.int v1), some (.int v2)] [.int r1] σ1 Q
        refine ds_blk (ls2 := [some (.ref 56), some (.int v1), some (.int v2)]) (st2 := [.int (-6 : Int32), .int r1]) (σ2 := σ1) ok_X2_meetFrom 15 1 25 27 [] rfl rfl rfl rfl trivial ?_
        refine ds_ic_ne (show decode mt_X2_meetFrom.2.1 27 = .ok (.if_icmp .ne 17, 3) from ds_dec (i := (27, .if_icmp .ne 17, 3, 0, 0, 0, .int 0)) ok_X2_meetFrom 16 rfl) (t := 44) (by decide) (fun hc => ?_) (fun hc => ?_)
        · replace h := h.1 hc
          refine ds_blk (ls2 := [some (.ref 56), some (.int v1), some (.int (v2 + (1 : Int32)))]) (st2 := []) (σ2 := σ1) ok_X2_meetFrom 27 1 44 47 [] rfl rfl rfl rfl trivial ?_
          refine ds_goto (show decode mt_X2_meetFrom.2.1 47 = .ok (.goto (-45), 3) from ds_dec (i := (47, .goto (-45), 3, 0, 0, 0, .int 0)) ok_X2_meetFrom 28 rfl) (t := 2) (by decide) ?_
          exact ih v1 (v2 + (1 : Int32)) σ1 Q h
        · replace h := h.2 hc
          obtain ⟨o2, o3, h⟩ := h
          refine ds_blk (ls2 := [some (.ref 56), some (.int v1), some (.int (v2 + (1 : Int32)))]) (st2 := []) (σ2 := (ds_wi σ1 59 v2.toNatClampNeg ((σ1.1 59 v1.toNatClampNeg) + (1 : Int32)))) ok_X2_meetFrom 17 11 30 47 [ds_k Yc 56 2, ds_k Yc 56 2, ds_k Yc 59 10, vp_in v1 21, ds_k Yc 59 10, vp_in v2 21] rfl rfl rfl rfl ⟨⟨by decide, rfl⟩, ⟨by decide, rfl⟩, ⟨by decide, rfl⟩, o2, ⟨by decide, rfl⟩, o3, trivial⟩ ?_
          refine ds_goto (show decode mt_X2_meetFrom.2.1 47 = .ok (.goto (-45), 3) from ds_dec (i := (47, .goto (-45), 3, 0, 0, 0, .int 0)) ok_X2_meetFrom 28 rfl) (t := 2) (by decide) ?_
          exact ih v1 (v2 + (1 : Int32)) (ds_wi σ1 59 v2.toNatClampNeg ((σ1.1 59 v1.toNatClampNeg) + (1 : Int32))) Q h
def w_X2_meetFrom (a1 : Int32) (σ : ds_S) (Q : Option Value → ds_S → Prop) : Prop := ∃ n, w_X2_meetFrom_2 n a1 (1 : Int32) σ Q
theorem e_X2_meetFrom (a1 : Int32) (σ : ds_S) (Q : Option Value → ds_S → Prop) (h : w_X2_meetFrom a1 σ Q) : ds_E mt_X2_meetFrom Yc [.ref 56, .int a1] σ Q := by
  refine ds_enter (by decide) (Nat.le_of_ble_eq_true rfl) ?_
  show ds_X mt_X2_meetFrom Yc 0 [some (.ref 56), some (.int a1), none] [] σ Q
  unfold w_X2_meetFrom at h
  refine ds_blk (ls2 := [some (.ref 56), some (.int a1), some (.int (1 : Int32))]) (st2 := []) (σ2 := σ) ok_X2_meetFrom 0 2 0 2 [] rfl rfl rfl rfl trivial ?_
  obtain ⟨n, h⟩ := h
  refine x_X2_meetFrom_2 n a1 (1 : Int32) σ Q h
def w_X2_learn_54 : Nat → (v2 : Int32) → (v3 : Int32) → (σ : ds_S) → (Q : Option Value → ds_S → Prop) → Prop
  | 0, _, _, _, _ => False
  | f + 1, v2, v3, σ, Q => (((σ.1 1 0) ≤ v3 → Q none σ) ∧ (¬ (σ.1 1 0) ≤ v3 → vp_in v3 6 ∧ ds_EV mt_X2_learnSteps Yc [.ref 56, .int v2, .int v3, .ref (Yc.2.2.2 7 v3.toNatClampNeg)] σ (fun σ1 => w_X2_learn_54 f v2 (v3 + (1 : Int32)) σ1 Q)))
theorem x_X2_learn_54 : ∀ (f : Nat) (v2 : Int32) (v3 : Int32) (g1 : Option Value) (σ : ds_S) (Q : Option Value → ds_S → Prop), w_X2_learn_54 f v2 v3 σ Q → ds_X mt_X2_learn Yc 54 [some (.ref 56), g1, some (.int v2), some (.int v3)] [] σ Q := by
  intro f
  induction f with
  | zero => intro v2 v3 g1 σ Q h; exact False.elim h
  | succ f ih =>
    intro v2 v3 g1 σ Q h
    rw [w_X2_learn_54] at h
    refine ds_blk (ls2 := [some (.ref 56), g1, some (.int v2), some (.int v3)]) (st2 := [.int (σ.1 1 0), .int v3]) (σ2 := σ) ok_X2_learn 31 4 54 62 [ds_k Yc 56 2, ds_k Yc 1 1] rfl rfl rfl rfl ⟨⟨by decide, rfl⟩, ⟨by decide, rfl⟩, trivial⟩ ?_
    refine ds_ic_ge (show decode mt_X2_learn.2.1 62 = .ok (.if_icmp .ge 24, 3) from ds_dec (i := (62, .if_icmp .ge 24, 3, 0, 0, 0, .int 0)) ok_X2_learn 35 rfl) (t := 86) (by decide) (fun hc => ?_) (fun hc => ?_)
    · replace h := h.1 hc
      exact ds_vret (show decode mt_X2_learn.2.1 86 = .ok (.return_, 1) from ds_dec (i := (86, .return_, 1, 0, 0, 0, .int 0)) ok_X2_learn 47 rfl) rfl h
    · replace h := h.2 hc
      obtain ⟨o1, h⟩ := h
      refine ds_blk (ls2 := [some (.ref 56), g1, some (.int v2), some (.int v3)]) (st2 := [.ref (Yc.2.2.2 7 v3.toNatClampNeg), .int v3, .int v2, .ref 56]) (σ2 := σ) ok_X2_learn 36 8 65 77 [ds_k Yc 56 2, ds_k Yc 6 4, ds_k Yc 7 13, vp_in v3 6] rfl rfl rfl rfl ⟨⟨by decide, rfl⟩, ⟨by decide, rfl⟩, ⟨by decide, rfl⟩, o1, trivial⟩ ?_
      refine ds_callV (z := mt_X2_learnSteps) (b := 56) (as := [.int v2, .int v3, .ref (Yc.2.2.2 7 v3.toNatClampNeg)]) (rest := []) (show decode mt_X2_learn.2.1 77 = .ok (.invokevirtual 79, 3) from ds_dec (i := (77, .invokevirtual 79, 3, 0, 0, 647, .int 0)) ok_X2_learn 44 rfl) (ds_E.mono h (fun r σ1 hr => ?_)) ⟨zw_X2_learnSteps.1, zw_X2_learnSteps.2.1, zw_X2_learnSteps.2.2, by decide, by decide⟩ (ds_wb_T (p := 647) (by decide +kernel)) zi_X2_learnSteps zs_X2_learnSteps (by decide) rfl ⟨_, rfl, rfl⟩ (Nat.le_of_ble_eq_true rfl)
      obtain ⟨rfl, h⟩ := hr
      show ds_X mt_X2_learn Yc 80 [some (.ref 56), g1, some (.int v2), some (.int v3)] [] σ1 Q
      refine ds_blk (ls2 := [some (.ref 56), g1, some (.int v2), some (.int (v3 + (1 : Int32)))]) (st2 := []) (σ2 := σ1) ok_X2_learn 45 1 80 83 [] rfl rfl rfl rfl trivial ?_
      refine ds_goto (show decode mt_X2_learn.2.1 83 = .ok (.goto (-29), 3) from ds_dec (i := (83, .goto (-29), 3, 0, 0, 0, .int 0)) ok_X2_learn 46 rfl) (t := 54) (by decide) ?_
      exact ih v2 (v3 + (1 : Int32)) _ σ1 Q h
def w_X2_learn (a1 : Int32) (a2 : Int32) (σ : ds_S) (Q : Option Value → ds_S → Prop) : Prop := vp_in a1 10 ∧ ds_EV mt_X4_findSome Yc [.ref 6, .ref 1, .ref 57, .int (-1 : Int32), .int (((1 : Int32) <<< ((σ.1 1 0) &&& 31)) - (1 : Int32))] (ds_wi (ds_cp σ 64 57 10) 57 a1.toNatClampNeg a2) (fun σ1 => ∃ n, w_X2_learn_54 n a2 (0 : Int32) σ1 Q)
theorem e_X2_learn (a1 : Int32) (a2 : Int32) (σ : ds_S) (Q : Option Value → ds_S → Prop) (h : w_X2_learn a1 a2 σ Q) : ds_E mt_X2_learn Yc [.ref 56, .int a1, .int a2] σ Q := by
  refine ds_enter (by decide) (Nat.le_of_ble_eq_true rfl) ?_
  show ds_X mt_X2_learn Yc 0 [some (.ref 56), some (.int a1), some (.int a2), none] [] σ Q
  unfold w_X2_learn at h
  refine ds_blk (ls2 := [some (.ref 56), some (.int a1), some (.int a2), none]) (st2 := [.int (10 : Int32), .int (0 : Int32), .ref 57, .int (0 : Int32), .ref 64]) (σ2 := σ) ok_X2_learn 0 8 0 15 [ds_k Yc 56 2, ds_k Yc 1 1, ds_k Yc 56 2] rfl rfl rfl rfl ⟨⟨by decide, rfl⟩, ⟨by decide, rfl⟩, ⟨by decide, rfl⟩, trivial⟩ ?_
  refine ds_copy (a := 64) (b := 57) (st := []) (show decode mt_X2_learn.2.1 15 = .ok (.invokestatic 59, 3) from ds_dec (i := (15, .invokestatic 59, 3, 0, 0, 645, .int 0)) ok_X2_learn 8 rfl) (ds_wb_T (p := 645) (by decide +kernel)) ds_ac1 ds_ac2 ds_ac3 (by decide) rfl (by decide) rfl (by decide) (by decide) (by decide) (by decide) (by decide) (by decide) (by decide) ?_
  show ds_X mt_X2_learn Yc 18 [some (.ref 56), some (.int a1), some (.int a2), none] [] (ds_cp σ 64 57 10) Q
  obtain ⟨o1, h⟩ := h
  refine ds_blk (ls2 := [some (.ref 56), some (.int a1), some (.int a2), none]) (st2 := [.int (((1 : Int32) <<< ((σ.1 1 0) &&& 31)) - (1 : Int32)), .int (-1 : Int32), .ref 57, .ref 1, .ref 6]) (σ2 := (ds_wi (ds_cp σ 64 57 10) 57 a1.toNatClampNeg a2)) ok_X2_learn 9 19 18 49 [ds_k Yc 56 2, ds_k Yc 57 10, vp_in a1 10, ds_k Yc 56 2, ds_k Yc 56 2, ds_k Yc 56 2, ds_k Yc 56 2, ds_k Yc 1 1] rfl rfl rfl rfl ⟨⟨by decide, rfl⟩, ⟨by decide, rfl⟩, o1, ⟨by decide, rfl⟩, ⟨by decide, rfl⟩, ⟨by decide, rfl⟩, ⟨by decide, rfl⟩, ⟨by decide, rfl⟩, trivial⟩ ?_
  refine ds_callV (z := mt_X4_findSome) (b := 6) (as := [.ref 1, .ref 57, .int (-1 : Int32), .int (((1 : Int32) <<< ((σ.1 1 0) &&& 31)) - (1 : Int32))]) (rest := []) (show decode mt_X2_learn.2.1 49 = .ok (.invokevirtual 69, 3) from ds_dec (i := (49, .invokevirtual 69, 3, 0, 0, 646, .int 0)) ok_X2_learn 28 rfl) (ds_E.mono h (fun r σ1 hr => ?_)) ⟨zw_X4_findSome.1, zw_X4_findSome.2.1, zw_X4_findSome.2.2, by decide, by decide⟩ (ds_wb_T (p := 646) (by decide +kernel)) zi_X4_findSome zs_X4_findSome (by decide) rfl ⟨_, rfl, rfl⟩ (Nat.le_of_ble_eq_true rfl)
  obtain ⟨rfl, h⟩ := hr
  show ds_X mt_X2_learn Yc 52 [some (.ref 56), some (.int a1), some (.int a2), none] [] σ1 Q
  refine ds_blk (ls2 := [some (.ref 56), some (.int a1), some (.int a2), some (.int (0 : Int32))]) (st2 := []) (σ2 := σ1) ok_X2_learn 29 2 52 54 [] rfl rfl rfl rfl trivial ?_
  obtain ⟨n, h⟩ := h
  refine x_X2_learn_54 n a2 (0 : Int32) _ σ1 Q h
def w_X2_learnSteps_3 : Nat → (a3 : Nat) → (v1 : Int32) → (v2 : Int32) → (v4 : Int32) → (σ : ds_S) → (Q : Option Value → ds_S → Prop) → (K34 : Int32 → Int32 → ds_S → Prop) → Prop
  | 0, _, _, _, _, _, _, _ => False
  | f + 1, a3, v1, v2, v4, σ, Q, K34 => (((σ.1 1 0) ≤ v4 → K34 v1 v2 σ) ∧ (¬ (σ.1 1 0) ≤ v4 → vp_in (((v1 * (36 : Int32)) + (v2 * (6 : Int32))) + v4) 756 ∧ w_X2_learnSteps_3 f a3 v1 v2 (v4 + (1 : Int32)) (ds_wi σ 58 ((((v1 * (36 : Int32)) + (v2 * (6 : Int32))) + v4).toNatClampNeg) (0 : Int32)) Q K34))
theorem x_X2_learnSteps_3 : ∀ (f : Nat) (a3 : Nat) (v1 : Int32) (v2 : Int32) (v4 : Int32) (σ : ds_S) (Q : Option Value → ds_S → Prop) (K34 : Int32 → Int32 → ds_S → Prop) (hK34 : ∀ (v1 : Int32) (v2 : Int32) (g4 : Option Value) (σ2 : ds_S), K34 v1 v2 σ2 → ds_X mt_X2_learnSteps Yc 34 [some (.ref 56), some (.int v1), some (.int v2), some (.ref a3), g4] [] σ2 Q), w_X2_learnSteps_3 f a3 v1 v2 v4 σ Q K34 → ds_X mt_X2_learnSteps Yc 3 [some (.ref 56), some (.int v1), some (.int v2), some (.ref a3), some (.int v4)] [] σ Q := by
  intro f
  induction f with
  | zero => intro a3 v1 v2 v4 σ Q K34 hK34 h; exact False.elim h
  | succ f ih =>
    intro a3 v1 v2 v4 σ Q K34 hK34 h
    rw [w_X2_learnSteps_3] at h
    refine ds_blk (ls2 := [some (.ref 56), some (.int v1), some (.int v2), some (.ref a3), some (.int v4)]) (st2 := [.int (σ.1 1 0), .int v4]) (σ2 := σ) ok_X2_learnSteps 2 4 3 12 [ds_k Yc 56 2, ds_k Yc 1 1] rfl rfl rfl rfl ⟨⟨by decide, rfl⟩, ⟨by decide, rfl⟩, trivial⟩ ?_
    refine ds_ic_ge (show decode mt_X2_learnSteps.2.1 12 = .ok (.if_icmp .ge 22, 3) from ds_dec (i := (12, .if_icmp .ge 22, 3, 0, 0, 0, .int 0)) ok_X2_learnSteps 6 rfl) (t := 34) (by decide) (fun hc => ?_) (fun hc => ?_)
    · replace h := h.1 hc
      exact hK34 v1 v2 _ σ h
    · replace h := h.2 hc
      refine ds_blk (ls2 := [some (.ref 56), some (.int v1), some (.int v2), some (.ref a3), some (.int v4)]) (st2 := [.int v4, .int v2, .int v1, .ref 58]) (σ2 := σ) ok_X2_learnSteps 7 5 15 23 [ds_k Yc 56 2] rfl rfl rfl rfl ⟨⟨by decide, rfl⟩, trivial⟩ ?_
      refine ds_callS (z := mt_X2_place) (as := [.int v1, .int v2, .int v4]) (rest := [.ref 58]) (show decode mt_X2_learnSteps.2.1 23 = .ok (.invokestatic 83, 3) from ds_dec (i := (23, .invokestatic 83, 3, 0, 0, 651, .int 0)) ok_X2_learnSteps 12 rfl) (ds_E.mono (sp_X2_place v1 v2 v4 σ ) (fun r σ1 hr => ?_)) ⟨zw_X2_place.1, zw_X2_place.2.1, zw_X2_place.2.2, by decide, by decide⟩ (ds_wb_T (p := 651) (by decide +kernel)) zt_X2_place (Nat.le_of_ble_eq_true rfl)
      obtain ⟨x9, rfl, e8, e9⟩ := hr
      rw [e8, e9]
      show ds_X mt_X2_learnSteps Yc 26 [some (.ref 56), some (.int v1), some (.int v2), some (.ref a3), some (.int v4)] [.int (((v1 * (36 : Int32)) + (v2 * (6 : Int32))) + v4), .ref 58] σ Q
      obtain ⟨o1, h⟩ := h
      refine ds_blk (ls2 := [some (.ref 56), some (.int v1), some (.int v2), some (.ref a3), some (.int (v4 + (1 : Int32)))]) (st2 := []) (σ2 := (ds_wi σ 58 ((((v1 * (36 : Int32)) + (v2 * (6 : Int32))) + v4).toNatClampNeg) (0 : Int32))) ok_X2_learnSteps 13 3 26 31 [ds_k Yc 58 10, vp_in (((v1 * (36 : Int32)) + (v2 * (6 : Int32))) + v4) 756] rfl rfl rfl rfl ⟨⟨by decide, rfl⟩, o1, trivial⟩ ?_
      refine ds_goto (show decode mt_X2_learnSteps.2.1 31 = .ok (.goto (-28), 3) from ds_dec (i := (31, .goto (-28), 3, 0, 0, 0, .int 0)) ok_X2_learnSteps 16 rfl) (t := 3) (by decide) ?_
      exact ih a3 v1 v2 (v4 + (1 : Int32)) (ds_wi σ 58 ((((v1 * (36 : Int32)) + (v2 * (6 : Int32))) + v4).toNatClampNeg) (0 : Int32)) Q K34 hK34 h
def w_X2_learnSteps_37 : Nat → (a3 : Nat) → (v1 : Int32) → (v2 : Int32) → (v4 : Int32) → (σ : ds_S) → (Q : Option Value → ds_S → Prop) → Prop
  | 0, _, _, _, _, _, _ => False
  | f + 1, a3, v1, v2, v4, σ, Q => (((σ.1 1 1) ≤ v4 → Q none σ) ∧ (¬ (σ.1 1 1) ≤ v4 → ds_k Yc a3 7 ∧ ds_k Yc (Yc.2.2.2 a3 4) 10 ∧ vp_in v4 (Yc.2.2.1 (Yc.2.2.2 a3 4)) ∧ (((σ.1 (Yc.2.2.2 a3 4) v4.toNatClampNeg) = (-1 : Int32) → w_X2_learnSteps_37 f a3 v1 v2 (v4 + (1 : Int32)) σ Q) ∧ (¬ (σ.1 (Yc.2.2.2 a3 4) v4.toNatClampNeg) = (-1 : Int32) → ds_k Yc a3 7 ∧ ds_k Yc (Yc.2.2.2 a3 4) 10 ∧ vp_in v4 (Yc.2.2.1 (Yc.2.2.2 a3 4)) ∧ vp_in (((v1 * (36 : Int32)) + (v2 * (6 : Int32))) + (σ.1 (Yc.2.2.2 a3 4) v4.toNatClampNeg)) 756 ∧ ds_k Yc a3 7 ∧ ds_k Yc (Yc.2.2.2 a3 5) 10 ∧ vp_in v4 (Yc.2.2.1 (Yc.2.2.2 a3 5)) ∧ vp_in (((v1 * (36 : Int32)) + (v2 * (6 : Int32))) + (σ.1 (Yc.2.2.2 a3 4) v4.toNatClampNeg)) 756 ∧ w_X2_learnSteps_37 f a3 v1 v2 (v4 + (1 : Int32)) (ds_wi σ 58 ((((v1 * (36 : Int32)) + (v2 * (6 : Int32))) + (σ.1 (Yc.2.2.2 a3 4) v4.toNatClampNeg)).toNatClampNeg) ((σ.1 58 ((((v1 * (36 : Int32)) + (v2 * (6 : Int32))) + (σ.1 (Yc.2.2.2 a3 4) v4.toNatClampNeg)).toNatClampNeg)) ||| ((1 : Int32) <<< ((σ.1 (Yc.2.2.2 a3 5) v4.toNatClampNeg) &&& 31)))) Q))))
theorem x_X2_learnSteps_37 : ∀ (f : Nat) (a3 : Nat) (v1 : Int32) (v2 : Int32) (v4 : Int32) (σ : ds_S) (Q : Option Value → ds_S → Prop), w_X2_learnSteps_37 f a3 v1 v2 v4 σ Q → ds_X mt_X2_learnSteps Yc 37 [some (.ref 56), some (.int v1), some (.int v2), some (.ref a3), some (.int v4)] [] σ Q := by
  intro f
  induction f with
  | zero => intro a3 v1 v2 v4 σ Q h; exact False.elim h
  | succ f ih =>
    intro a3 v1 v2 v4 σ Q h
    rw [w_X2_learnSteps_37] at h
    refine ds_blk (ls2 := [some (.ref 56), some (.int v1), some (.int v2), some (.ref a3), some (.int v4)]) (st2 := [.int (σ.1 1 1), .int v4]) (σ2 := σ) ok_X2_learnSteps 19 4 37 46 [ds_k Yc 56 2, ds_k Yc 1 1] rfl rfl rfl rfl ⟨⟨by decide, rfl⟩, ⟨by decide, rfl⟩, trivial⟩ ?_
    refine ds_ic_ge (show decode mt_X2_learnSteps.2.1 46 = .ok (.if_icmp .ge 49, 3) from ds_dec (i := (46, .if_icmp .ge 49, 3, 0, 0, 0, .int 0)) ok_X2_learnSteps 23 rfl) (t := 95) (by decide) (fun hc => ?_) (fun hc => ?_)
    · replace h := h.1 hc
      exact ds_vret (show decode mt_X2_learnSteps.2.1 95 = .ok (.return_, 1) from ds_dec (i := (95, .return_, 1, 0, 0, 0, .int 0)) ok_X2_learnSteps 51 rfl) rfl h
    · replace h := h.2 hc
      obtain ⟨o1, o2, o3, h⟩ := h
      refine ds_blk (ls2 := [some (.ref 56), some (.int v1), some (.int v2), some (.ref a3), some (.int v4)]) (st2 := [.int (-1 : Int32), .int (σ.1 (Yc.2.2.2 a3 4) v4.toNatClampNeg)]) (σ2 := σ) ok_X2_learnSteps 24 5 49 57 [ds_k Yc a3 7, ds_k Yc (Yc.2.2.2 a3 4) 10, vp_in v4 (Yc.2.2.1 (Yc.2.2.2 a3 4))] rfl rfl rfl rfl ⟨o1, o2, o3, trivial⟩ ?_
      refine ds_ic_eq (show decode mt_X2_learnSteps.2.1 57 = .ok (.if_icmp .eq 32, 3) from ds_dec (i := (57, .if_icmp .eq 32, 3, 0, 0, 0, .int 0)) ok_X2_learnSteps 29 rfl) (t := 89) (by decide) (fun hc => ?_) (fun hc => ?_)
      · replace h := h.1 hc
        refine ds_blk (ls2 := [some (.ref 56), some (.int v1), some (.int v2), some (.ref a3), some (.int (v4 + (1 : Int32)))]) (st2 := []) (σ2 := σ) ok_X2_learnSteps 49 1 89 92 [] rfl rfl rfl rfl trivial ?_
        refine ds_goto (show decode mt_X2_learnSteps.2.1 92 = .ok (.goto (-55), 3) from ds_dec (i := (92, .goto (-55), 3, 0, 0, 0, .int 0)) ok_X2_learnSteps 50 rfl) (t := 37) (by decide) ?_
        exact ih a3 v1 v2 (v4 + (1 : Int32)) σ Q h
      · replace h := h.2 hc
        obtain ⟨o4, o5, o6, h⟩ := h
        refine ds_blk (ls2 := [some (.ref 56), some (.int v1), some (.int v2), some (.ref a3), some (.int v4)]) (st2 := [.int (σ.1 (Yc.2.2.2 a3 4) v4.toNatClampNeg), .int v2, .int v1, .ref 58]) (σ2 := σ) ok_X2_learnSteps 30 8 60 73 [ds_k Yc 56 2, ds_k Yc a3 7, ds_k Yc (Yc.2.2.2 a3 4) 10, vp_in v4 (Yc.2.2.1 (Yc.2.2.2 a3 4))] rfl rfl rfl rfl ⟨⟨by decide, rfl⟩, o4, o5, o6, trivial⟩ ?_
        refine ds_callS (z := mt_X2_place) (as := [.int v1, .int v2, .int (σ.1 (Yc.2.2.2 a3 4) v4.toNatClampNeg)]) (rest := [.ref 58]) (show decode mt_X2_learnSteps.2.1 73 = .ok (.invokestatic 83, 3) from ds_dec (i := (73, .invokestatic 83, 3, 0, 0, 651, .int 0)) ok_X2_learnSteps 38 rfl) (ds_E.mono (sp_X2_place v1 v2 (σ.1 (Yc.2.2.2 a3 4) v4.toNatClampNeg) σ ) (fun r σ1 hr => ?_)) ⟨zw_X2_place.1, zw_X2_place.2.1, zw_X2_place.2.2, by decide, by decide⟩ (ds_wb_T (p := 651) (by decide +kernel)) zt_X2_place (Nat.le_of_ble_eq_true rfl)
        obtain ⟨x9, rfl, e8, e9⟩ := hr
        rw [e8, e9]
        show ds_X mt_X2_learnSteps Yc 76 [some (.ref 56), some (.int v1), some (.int v2), some (.ref a3), some (.int v4)] [.int (((v1 * (36 : Int32)) + (v2 * (6 : Int32))) + (σ.1 (Yc.2.2.2 a3 4) v4.toNatClampNeg)), .ref 58] σ Q
        obtain ⟨o7, o8, o9, o10, o11, h⟩ := h
        refine ds_blk (ls2 := [some (.ref 56), some (.int v1), some (.int v2), some (.ref a3), some (.int (v4 + (1 : Int32)))]) (st2 := []) (σ2 := (ds_wi σ 58 ((((v1 * (36 : Int32)) + (v2 * (6 : Int32))) + (σ.1 (Yc.2.2.2 a3 4) v4.toNatClampNeg)).toNatClampNeg) ((σ.1 58 ((((v1 * (36 : Int32)) + (v2 * (6 : Int32))) + (σ.1 (Yc.2.2.2 a3 4) v4.toNatClampNeg)).toNatClampNeg)) ||| ((1 : Int32) <<< ((σ.1 (Yc.2.2.2 a3 5) v4.toNatClampNeg) &&& 31))))) ok_X2_learnSteps 39 11 76 92 [ds_k Yc 58 10, vp_in (((v1 * (36 : Int32)) + (v2 * (6 : Int32))) + (σ.1 (Yc.2.2.2 a3 4) v4.toNatClampNeg)) 756, ds_k Yc a3 7, ds_k Yc (Yc.2.2.2 a3 5) 10, vp_in v4 (Yc.2.2.1 (Yc.2.2.2 a3 5)), ds_k Yc 58 10, vp_in (((v1 * (36 : Int32)) + (v2 * (6 : Int32))) + (σ.1 (Yc.2.2.2 a3 4) v4.toNatClampNeg)) 756] rfl rfl rfl rfl ⟨⟨by decide, rfl⟩, o7, o8, o9, o10, ⟨by decide, rfl⟩, o11, trivial⟩ ?_
        refine ds_goto (show decode mt_X2_learnSteps.2.1 92 = .ok (.goto (-55), 3) from ds_dec (i := (92, .goto (-55), 3, 0, 0, 0, .int 0)) ok_X2_learnSteps 50 rfl) (t := 37) (by decide) ?_
        exact ih a3 v1 v2 (v4 + (1 : Int32)) (ds_wi σ 58 ((((v1 * (36 : Int32)) + (v2 * (6 : Int32))) + (σ.1 (Yc.2.2.2 a3 4) v4.toNatClampNeg)).toNatClampNeg) ((σ.1 58 ((((v1 * (36 : Int32)) + (v2 * (6 : Int32))) + (σ.1 (Yc.2.2.2 a3 4) v4.toNatClampNeg)).toNatClampNeg)) ||| ((1 : Int32) <<< ((σ.1 (Yc.2.2.2 a3 5) v4.toNatClampNeg) &&& 31)))) Q h
def w_X2_learnSteps (a1 : Int32) (a2 : Int32) (a3 : Nat) (σ : ds_S) (Q : Option Value → ds_S → Prop) : Prop := ∃ n, w_X2_learnSteps_3 n a3 a1 a2 (0 : Int32) σ Q (fun v1_1 v2_1 σ1 => ∃ n, w_X2_learnSteps_37 n a3 v1_1 v2_1 (0 : Int32) σ1 Q)
theorem e_X2_learnSteps (a1 : Int32) (a2 : Int32) (a3 : Nat) (σ : ds_S) (Q : Option Value → ds_S → Prop) (h : w_X2_learnSteps a1 a2 a3 σ Q) : ds_E mt_X2_learnSteps Yc [.ref 56, .int a1, .int a2, .ref a3] σ Q := by
  refine ds_enter (by decide) (Nat.le_of_ble_eq_true rfl) ?_
  show ds_X mt_X2_learnSteps Yc 0 [some (.ref 56), some (.int a1), some (.int a2), some (.ref a3), none] [] σ Q
  unfold w_X2_learnSteps at h
  refine ds_blk (ls2 := [some (.ref 56), some (.int a1), some (.int a2), some (.ref a3), some (.int (0 : Int32))]) (st2 := []) (σ2 := σ) ok_X2_learnSteps 0 2 0 3 [] rfl rfl rfl rfl trivial ?_
  obtain ⟨n, h⟩ := h
  refine x_X2_learnSteps_3 n a3 a1 a2 (0 : Int32) σ Q _ ?_ h
  · intro v1_1 v2_1 g4_1 σ1 h
    refine ds_blk (ls2 := [some (.ref 56), some (.int v1_1), some (.int v2_1), some (.ref a3), some (.int (0 : Int32))]) (st2 := []) (σ2 := σ1) ok_X2_learnSteps 17 2 34 37 [] rfl rfl rfl rfl trivial ?_
    obtain ⟨n, h⟩ := h
    refine x_X2_learnSteps_37 n a3 v1_1 v2_1 (0 : Int32) σ1 Q h
def w_X2_leastRing_2 : Nat → (v1 : Int32) → (v2 : Int32) → (v3 : Int32) → (σ : ds_S) → (Q : Option Value → ds_S → Prop) → Prop
  | 0, _, _, _, _, _ => False
  | f + 1, v1, v2, v3, σ, Q => (((σ.1 1 0) ≤ v3 → Q (some (.int (-6 : Int32))) σ) ∧ (¬ (σ.1 1 0) ≤ v3 → ds_EI mt_X2_hasRing Yc [.ref 56, .int v1, .int v2, .int v3] σ (fun r1 σ1 => ((r1 = 0 → w_X2_leastRing_2 f v1 v2 (v3 + (1 : Int32)) σ1 Q) ∧ (¬ r1 = 0 → Q (some (.int v3)) σ1)))))
theorem x_X2_leastRing_2 : ∀ (f : Nat) (v1 : Int32) (v2 : Int32) (v3 : Int32) (σ : ds_S) (Q : Option Value → ds_S → Prop), w_X2_leastRing_2 f v1 v2 v3 σ Q → ds_X mt_X2_leastRing Yc 2 [some (.ref 56), some (.int v1), some (.int v2), some (.int v3)] [] σ Q := by
  intro f
  induction f with
  | zero => intro v1 v2 v3 σ Q h; exact False.elim h
  | succ f ih =>
    intro v1 v2 v3 σ Q h
    rw [w_X2_leastRing_2] at h
    refine ds_blk (ls2 := [some (.ref 56), some (.int v1), some (.int v2), some (.int v3)]) (st2 := [.int (σ.1 1 0), .int v3]) (σ2 := σ) ok_X2_leastRing 2 4 2 10 [ds_k Yc 56 2, ds_k Yc 1 1] rfl rfl rfl rfl ⟨⟨by decide, rfl⟩, ⟨by decide, rfl⟩, trivial⟩ ?_
    refine ds_ic_ge (show decode mt_X2_leastRing.2.1 10 = .ok (.if_icmp .ge 21, 3) from ds_dec (i := (10, .if_icmp .ge 21, 3, 0, 0, 0, .int 0)) ok_X2_leastRing 6 rfl) (t := 31) (by decide) (fun hc => ?_) (fun hc => ?_)
    · replace h := h.1 hc
      refine ds_blk (ls2 := [some (.ref 56), some (.int v1), some (.int v2), some (.int v3)]) (st2 := [.int (-6 : Int32)]) (σ2 := σ) ok_X2_leastRing 17 1 31 33 [] rfl rfl rfl rfl trivial ?_
      exact ds_iret (show decode mt_X2_leastRing.2.1 33 = .ok (.ireturn, 1) from ds_dec (i := (33, .ireturn, 1, 0, 0, 0, .int 0)) ok_X2_leastRing 18 rfl) rfl h
    · replace h := h.2 hc
      refine ds_blk (ls2 := [some (.ref 56), some (.int v1), some (.int v2), some (.int v3)]) (st2 := [.int v3, .int v2, .int v1, .ref 56]) (σ2 := σ) ok_X2_leastRing 7 4 13 17 [] rfl rfl rfl rfl trivial ?_
      refine ds_callV (z := mt_X2_hasRing) (b := 56) (as := [.int v1, .int v2, .int v3]) (rest := []) (show decode mt_X2_leastRing.2.1 17 = .ok (.invokevirtual 98, 3) from ds_dec (i := (17, .invokevirtual 98, 3, 0, 0, 658, .int 0)) ok_X2_leastRing 11 rfl) (ds_E.mono h (fun r σ1 hr => ?_)) ⟨zw_X2_hasRing.1, zw_X2_hasRing.2.1, zw_X2_hasRing.2.2, by decide, by decide⟩ (ds_wb_T (p := 658) (by decide +kernel)) zi_X2_hasRing zs_X2_hasRing (by decide) rfl ⟨_, rfl, rfl⟩ (Nat.le_of_ble_eq_true rfl)
      obtain ⟨r1, rfl, h⟩ := hr
      show ds_X mt_X2_leastRing Yc 20 [some (.ref 56), some (.int v1), some (.int v2), some (.int v3)] [.int r1] σ1 Q
      refine ds_if_eq (show decode mt_X2_leastRing.2.1 20 = .ok (.ifCond .eq 5, 3) from ds_dec (i := (20, .ifCond .eq 5, 3, 0, 0, 0, .int 0)) ok_X2_leastRing 12 rfl) (t := 25) (by decide) (fun hc => ?_) (fun hc => ?_)
      · replace h := h.1 hc
        refine ds_blk (ls2 := [some (.ref 56), some (.int v1), some (.int v2), some (.int (v3 + (1 : Int32)))]) (st2 := []) (σ2 := σ1) ok_X2_leastRing 15 1 25 28 [] rfl rfl rfl rfl trivial ?_
        refine ds_goto (show decode mt_X2_leastRing.2.1 28 = .ok (.goto (-26), 3) from ds_dec (i := (28, .goto (-26), 3, 0, 0, 0, .int 0)) ok_X2_leastRing 16 rfl) (t := 2) (by decide) ?_
        exact ih v1 v2 (v3 + (1 : Int32)) σ1 Q h
      · replace h := h.2 hc
        refine ds_blk (ls2 := [some (.ref 56), some (.int v1), some (.int v2), some (.int v3)]) (st2 := [.int v3]) (σ2 := σ1) ok_X2_leastRing 13 1 23 24 [] rfl rfl rfl rfl trivial ?_
        exact ds_iret (show decode mt_X2_leastRing.2.1 24 = .ok (.ireturn, 1) from ds_dec (i := (24, .ireturn, 1, 0, 0, 0, .int 0)) ok_X2_leastRing 14 rfl) rfl h
def w_X2_leastRing (a1 : Int32) (a2 : Int32) (σ : ds_S) (Q : Option Value → ds_S → Prop) : Prop := ∃ n, w_X2_leastRing_2 n a1 a2 (0 : Int32) σ Q
theorem e_X2_leastRing (a1 : Int32) (a2 : Int32) (σ : ds_S) (Q : Option Value → ds_S → Prop) (h : w_X2_leastRing a1 a2 σ Q) : ds_E mt_X2_leastRing Yc [.ref 56, .int a1, .int a2] σ Q := by
  refine ds_enter (by decide) (Nat.le_of_ble_eq_true rfl) ?_
  show ds_X mt_X2_leastRing Yc 0 [some (.ref 56), some (.int a1), some (.int a2), none] [] σ Q
  unfold w_X2_leastRing at h
  refine ds_blk (ls2 := [some (.ref 56), some (.int a1), some (.int a2), some (.int (0 : Int32))]) (st2 := []) (σ2 := σ) ok_X2_leastRing 0 2 0 2 [] rfl rfl rfl rfl trivial ?_
  obtain ⟨n, h⟩ := h
  refine x_X2_leastRing_2 n a1 a2 (0 : Int32) σ Q h
def w_X2_hasRing_36 : Nat → (v1 : Int32) → (v2 : Int32) → (v3 : Int32) → (v4 : Int32) → (v5 : Int32) → (v6 : Int32) → (σ : ds_S) → (Q : Option Value → ds_S → Prop) → (K100 : Int32 → Int32 → Int32 → Int32 → Int32 → ds_S → Prop) → Prop
  | 0, _, _, _, _, _, _, _, _, _ => False
  | f + 1, v1, v2, v3, v4, v5, v6, σ, Q, K100 => (((σ.1 1 0) ≤ v6 → K100 v1 v2 v3 v4 v5 σ) ∧ (¬ (σ.1 1 0) ≤ v6 → vp_in (((v1 * (36 : Int32)) + (v3 * (6 : Int32))) + v6) 756 ∧ vp_in (((v2 * (36 : Int32)) + (v3 * (6 : Int32))) + v6) 756 ∧ ((¬ (((σ.1 58 ((((v1 * (36 : Int32)) + (v3 * (6 : Int32))) + v6).toNatClampNeg)) ||| (σ.1 58 ((((v2 * (36 : Int32)) + (v3 * (6 : Int32))) + v6).toNatClampNeg))) &&& v4) = 0 → w_X2_hasRing_36 f v1 v2 v3 v4 v5 (v6 + (1 : Int32)) σ Q K100) ∧ ((((σ.1 58 ((((v1 * (36 : Int32)) + (v3 * (6 : Int32))) + v6).toNatClampNeg)) ||| (σ.1 58 ((((v2 * (36 : Int32)) + (v3 * (6 : Int32))) + v6).toNatClampNeg))) &&& v4) = 0 → w_X2_hasRing_36 f v1 v2 v3 (v4 &&& (((1 : Int32) <<< (v6 &&& 31)) ^^^ (-1 : Int32))) v5 (v6 + (1 : Int32)) σ Q K100))))
theorem x_X2_hasRing_36 : ∀ (f : Nat) (v1 : Int32) (v2 : Int32) (v3 : Int32) (v4 : Int32) (v5 : Int32) (v6 : Int32) (g7 : Option Value) (σ : ds_S) (Q : Option Value → ds_S → Prop) (K100 : Int32 → Int32 → Int32 → Int32 → Int32 → ds_S → Prop) (hK100 : ∀ (v1 : Int32) (v2 : Int32) (v3 : Int32) (v4 : Int32) (v5 : Int32) (g6 : Option Value) (g7 : Option Value) (σ2 : ds_S), K100 v1 v2 v3 v4 v5 σ2 → ds_X mt_X2_hasRing Yc 100 [some (.ref 56), some (.int v1), some (.int v2), some (.int v3), some (.int v4), some (.int v5), g6, g7] [] σ2 Q), w_X2_hasRing_36 f v1 v2 v3 v4 v5 v6 σ Q K100 → ds_X mt_X2_hasRing Yc 36 [some (.ref 56), some (.int v1), some (.int v2), some (.int v3), some (.int v4), some (.int v5), some (.int v6), g7] [] σ Q := by
  intro f
  induction f with
  | zero => intro v1 v2 v3 v4 v5 v6 g7 σ Q K100 hK100 h; exact False.elim h
  | succ f ih =>
    intro v1 v2 v3 v4 v5 v6 g7 σ Q K100 hK100 h
    rw [w_X2_hasRing_36] at h
    refine ds_blk (ls2 := [some (.ref 56), some (.int v1), some (.int v2), some (.int v3), some (.int v4), some (.int v5), some (.int v6), g7]) (st2 := [.int (σ.1 1 0), .int v6]) (σ2 := σ) ok_X2_hasRing 19 4 36 45 [ds_k Yc 56 2, ds_k Yc 1 1] rfl rfl rfl rfl ⟨⟨by decide, rfl⟩, ⟨by decide, rfl⟩, trivial⟩ ?_
    refine ds_ic_ge (show decode mt_X2_hasRing.2.1 45 = .ok (.if_icmp .ge 55, 3) from ds_dec (i := (45, .if_icmp .ge 55, 3, 0, 0, 0, .int 0)) ok_X2_hasRing 23 rfl) (t := 100) (by decide) (fun hc => ?_) (fun hc => ?_)
    · replace h := h.1 hc
      exact hK100 v1 v2 v3 v4 v5 _ _ σ h
    · replace h := h.2 hc
      refine ds_blk (ls2 := [some (.ref 56), some (.int v1), some (.int v2), some (.int v3), some (.int v4), some (.int v5), some (.int v6), g7]) (st2 := [.int v6, .int v3, .int v1, .ref 58]) (σ2 := σ) ok_X2_hasRing 24 5 48 56 [ds_k Yc 56 2] rfl rfl rfl rfl ⟨⟨by decide, rfl⟩, trivial⟩ ?_
      refine ds_callS (z := mt_X2_place) (as := [.int v1, .int v3, .int v6]) (rest := [.ref 58]) (show decode mt_X2_hasRing.2.1 56 = .ok (.invokestatic 83, 3) from ds_dec (i := (56, .invokestatic 83, 3, 0, 0, 651, .int 0)) ok_X2_hasRing 29 rfl) (ds_E.mono (sp_X2_place v1 v3 v6 σ ) (fun r σ1 hr => ?_)) ⟨zw_X2_place.1, zw_X2_place.2.1, zw_X2_place.2.2, by decide, by decide⟩ (ds_wb_T (p := 651) (by decide +kernel)) zt_X2_place (Nat.le_of_ble_eq_true rfl)
      obtain ⟨x9, rfl, e8, e9⟩ := hr
      rw [e8, e9]
      show ds_X mt_X2_hasRing Yc 59 [some (.ref 56), some (.int v1), some (.int v2), some (.int v3), some (.int v4), some (.int v5), some (.int v6), g7] [.int (((v1 * (36 : Int32)) + (v3 * (6 : Int32))) + v6), .ref 58] σ Q
      obtain ⟨o1, h⟩ := h
      refine ds_blk (ls2 := [some (.ref 56), some (.int v1), some (.int v2), some (.int v3), some (.int v4), some (.int v5), some (.int v6), g7]) (st2 := [.int v6, .int v3, .int v2, .ref 58, .int (σ.1 58 ((((v1 * (36 : Int32)) + (v3 * (6 : Int32))) + v6).toNatClampNeg))]) (σ2 := σ) ok_X2_hasRing 30 6 59 68 [ds_k Yc 58 10, vp_in (((v1 * (36 : Int32)) + (v3 * (6 : Int32))) + v6) 756, ds_k Yc 56 2] rfl rfl rfl rfl ⟨⟨by decide, rfl⟩, o1, ⟨by decide, rfl⟩, trivial⟩ ?_
      refine ds_callS (z := mt_X2_place) (as := [.int v2, .int v3, .int v6]) (rest := [.ref 58, .int (σ.1 58 ((((v1 * (36 : Int32)) + (v3 * (6 : Int32))) + v6).toNatClampNeg))]) (show decode mt_X2_hasRing.2.1 68 = .ok (.invokestatic 83, 3) from ds_dec (i := (68, .invokestatic 83, 3, 0, 0, 651, .int 0)) ok_X2_hasRing 36 rfl) (ds_E.mono (sp_X2_place v2 v3 v6 σ ) (fun r σ2 hr => ?_)) ⟨zw_X2_place.1, zw_X2_place.2.1, zw_X2_place.2.2, by decide, by decide⟩ (ds_wb_T (p := 651) (by decide +kernel)) zt_X2_place (Nat.le_of_ble_eq_true rfl)
      obtain ⟨x9, rfl, e8, e9⟩ := hr
      rw [e8, e9]
      show ds_X mt_X2_hasRing Yc 71 [some (.ref 56), some (.int v1), some (.int v2), some (.int v3), some (.int v4), some (.int v5), some (.int v6), g7] [.int (((v2 * (36 : Int32)) + (v3 * (6 : Int32))) + v6), .ref 58, .int (σ.1 58 ((((v1 * (36 : Int32)) + (v3 * (6 : Int32))) + v6).toNatClampNeg))] σ Q
      obtain ⟨o2, h⟩ := h
      refine ds_blk (ls2 := [some (.ref 56), some (.int v1), some (.int v2), some (.int v3), some (.int v4), some (.int v5), some (.int v6), some (.int ((σ.1 58 ((((v1 * (36 : Int32)) + (v3 * (6 : Int32))) + v6).toNatClampNeg)) ||| (σ.1 58 ((((v2 * (36 : Int32)) + (v3 * (6 : Int32))) + v6).toNatClampNeg))))]) (st2 := [.int (((σ.1 58 ((((v1 * (36 : Int32)) + (v3 * (6 : Int32))) + v6).toNatClampNeg)) ||| (σ.1 58 ((((v2 * (36 : Int32)) + (v3 * (6 : Int32))) + v6).toNatClampNeg))) &&& v4)]) (σ2 := σ) ok_X2_hasRing 37 6 71 80 [ds_k Yc 58 10, vp_in (((v2 * (36 : Int32)) + (v3 * (6 : Int32))) + v6) 756] rfl rfl rfl rfl ⟨⟨by decide, rfl⟩, o2, trivial⟩ ?_
      refine ds_if_ne (show decode mt_X2_hasRing.2.1 80 = .ok (.ifCond .ne 14, 3) from ds_dec (i := (80, .ifCond .ne 14, 3, 0, 0, 0, .int 0)) ok_X2_hasRing 43 rfl) (t := 94) (by decide) (fun hc => ?_) (fun hc => ?_)
      · replace h := h.1 hc
        refine ds_blk (ls2 := [some (.ref 56), some (.int v1), some (.int v2), some (.int v3), some (.int v4), some (.int v5), some (.int (v6 + (1 : Int32))), some (.int ((σ.1 58 ((((v1 * (36 : Int32)) + (v3 * (6 : Int32))) + v6).toNatClampNeg)) ||| (σ.1 58 ((((v2 * (36 : Int32)) + (v3 * (6 : Int32))) + v6).toNatClampNeg))))]) (st2 := []) (σ2 := σ) ok_X2_hasRing 52 1 94 97 [] rfl rfl rfl rfl trivial ?_
        refine ds_goto (show decode mt_X2_hasRing.2.1 97 = .ok (.goto (-61), 3) from ds_dec (i := (97, .goto (-61), 3, 0, 0, 0, .int 0)) ok_X2_hasRing 53 rfl) (t := 36) (by decide) ?_
        exact ih v1 v2 v3 v4 v5 (v6 + (1 : Int32)) _ σ Q K100 hK100 h
      · replace h := h.2 hc
        refine ds_blk (ls2 := [some (.ref 56), some (.int v1), some (.int v2), some (.int v3), some (.int (v4 &&& (((1 : Int32) <<< (v6 &&& 31)) ^^^ (-1 : Int32)))), some (.int v5), some (.int (v6 + (1 : Int32))), some (.int ((σ.1 58 ((((v1 * (36 : Int32)) + (v3 * (6 : Int32))) + v6).toNatClampNeg)) ||| (σ.1 58 ((((v2 * (36 : Int32)) + (v3 * (6 : Int32))) + v6).toNatClampNeg))))]) (st2 := []) (σ2 := σ) ok_X2_hasRing 44 9 83 97 [] rfl rfl rfl rfl trivial ?_
        refine ds_goto (show decode mt_X2_hasRing.2.1 97 = .ok (.goto (-61), 3) from ds_dec (i := (97, .goto (-61), 3, 0, 0, 0, .int 0)) ok_X2_hasRing 53 rfl) (t := 36) (by decide) ?_
        exact ih v1 v2 v3 (v4 &&& (((1 : Int32) <<< (v6 &&& 31)) ^^^ (-1 : Int32))) v5 (v6 + (1 : Int32)) _ σ Q K100 hK100 h
def w_X2_hasRing_16 : Nat → (v1 : Int32) → (v2 : Int32) → (v3 : Int32) → (v4 : Int32) → (v5 : Int32) → (σ : ds_S) → (Q : Option Value → ds_S → Prop) → (K106 : Int32 → ds_S → Prop) → Prop
  | 0, _, _, _, _, _, _, _, _ => False
  | f + 1, v1, v2, v3, v4, v5, σ, Q, K106 => (((σ.1 1 0) ≤ v5 → K106 v4 σ) ∧ (¬ (σ.1 1 0) ≤ v5 → ((v4 = 0 → K106 v4 σ) ∧ (¬ v4 = 0 → ∃ n, w_X2_hasRing_36 n v1 v2 v3 v4 v5 (0 : Int32) σ Q (fun v1_1 v2_1 v3_1 v4_1 v5_1 σ1 => w_X2_hasRing_16 f v1_1 v2_1 v3_1 v4_1 (v5_1 + (1 : Int32)) σ1 Q K106)))))
theorem x_X2_hasRing_16 : ∀ (f : Nat) (v1 : Int32) (v2 : Int32) (v3 : Int32) (v4 : Int32) (v5 : Int32) (g6 : Option Value) (g7 : Option Value) (σ : ds_S) (Q : Option Value → ds_S → Prop) (K106 : Int32 → ds_S → Prop) (hK106 : ∀ (v4 : Int32) (g0 : Option Value) (g1 : Option Value) (g2 : Option Value) (g3 : Option Value) (g5 : Option Value) (g6 : Option Value) (g7 : Option Value) (σ2 : ds_S), K106 v4 σ2 → ds_X mt_X2_hasRing Yc 106 [g0, g1, g2, g3, some (.int v4), g5, g6, g7] [] σ2 Q), w_X2_hasRing_16 f v1 v2 v3 v4 v5 σ Q K106 → ds_X mt_X2_hasRing Yc 16 [some (.ref 56), some (.int v1), some (.int v2), some (.int v3), some (.int v4), some (.int v5), g6, g7] [] σ Q := by
  intro f
  induction f with
  | zero => intro v1 v2 v3 v4 v5 g6 g7 σ Q K106 hK106 h; exact False.elim h
  | succ f ih =>
    intro v1 v2 v3 v4 v5 g6 g7 σ Q K106 hK106 h
    rw [w_X2_hasRing_16] at h
    refine ds_blk (ls2 := [some (.ref 56), some (.int v1), some (.int v2), some (.int v3), some (.int v4), some (.int v5), g6, g7]) (st2 := [.int (σ.1 1 0), .int v5]) (σ2 := σ) ok_X2_hasRing 10 4 16 25 [ds_k Yc 56 2, ds_k Yc 1 1] rfl rfl rfl rfl ⟨⟨by decide, rfl⟩, ⟨by decide, rfl⟩, trivial⟩ ?_
    refine ds_ic_ge (show decode mt_X2_hasRing.2.1 25 = .ok (.if_icmp .ge 81, 3) from ds_dec (i := (25, .if_icmp .ge 81, 3, 0, 0, 0, .int 0)) ok_X2_hasRing 14 rfl) (t := 106) (by decide) (fun hc => ?_) (fun hc => ?_)
    · replace h := h.1 hc
      exact hK106 v4 _ _ _ _ _ _ _ σ h
    · replace h := h.2 hc
      refine ds_blk (ls2 := [some (.ref 56), some (.int v1), some (.int v2), some (.int v3), some (.int v4), some (.int v5), g6, g7]) (st2 := [.int v4]) (σ2 := σ) ok_X2_hasRing 15 1 28 30 [] rfl rfl rfl rfl trivial ?_
      refine ds_if_eq (show decode mt_X2_hasRing.2.1 30 = .ok (.ifCond .eq 76, 3) from ds_dec (i := (30, .ifCond .eq 76, 3, 0, 0, 0, .int 0)) ok_X2_hasRing 16 rfl) (t := 106) (by decide) (fun hc => ?_) (fun hc => ?_)
      · replace h := h.1 hc
        exact hK106 v4 _ _ _ _ _ _ _ σ h
      · replace h := h.2 hc
        refine ds_blk (ls2 := [some (.ref 56), some (.int v1), some (.int v2), some (.int v3), some (.int v4), some (.int v5), some (.int (0 : Int32)), g7]) (st2 := []) (σ2 := σ) ok_X2_hasRing 17 2 33 36 [] rfl rfl rfl rfl trivial ?_
        obtain ⟨n, h⟩ := h
        refine x_X2_hasRing_36 n v1 v2 v3 v4 v5 (0 : Int32) _ σ Q _ ?_ h
        · intro v1_1 v2_1 v3_1 v4_1 v5_1 g6_1 g7_1 σ1 h
          refine ds_blk (ls2 := [some (.ref 56), some (.int v1_1), some (.int v2_1), some (.int v3_1), some (.int v4_1), some (.int (v5_1 + (1 : Int32))), g6_1, g7_1]) (st2 := []) (σ2 := σ1) ok_X2_hasRing 54 1 100 103 [] rfl rfl rfl rfl trivial ?_
          refine ds_goto (show decode mt_X2_hasRing.2.1 103 = .ok (.goto (-87), 3) from ds_dec (i := (103, .goto (-87), 3, 0, 0, 0, .int 0)) ok_X2_hasRing 55 rfl) (t := 16) (by decide) ?_
          exact ih v1_1 v2_1 v3_1 v4_1 (v5_1 + (1 : Int32)) _ _ σ1 Q K106 hK106 h
def w_X2_hasRing_106 (v4 : Int32) (σ : ds_S) (Q : Option Value → ds_S → Prop) : Prop := ((v4 = 0 → Q (some (.int (0 : Int32))) σ) ∧ (¬ v4 = 0 → Q (some (.int (1 : Int32))) σ))
theorem x_X2_hasRing_106 (v4 : Int32) (g0 : Option Value) (g1 : Option Value) (g2 : Option Value) (g3 : Option Value) (g5 : Option Value) (g6 : Option Value) (g7 : Option Value) (σ : ds_S) (Q : Option Value → ds_S → Prop) (h : w_X2_hasRing_106 v4 σ Q) : ds_X mt_X2_hasRing Yc 106 [g0, g1, g2, g3, some (.int v4), g5, g6, g7] [] σ Q := by
  unfold w_X2_hasRing_106 at h
  refine ds_blk (ls2 := [g0, g1, g2, g3, some (.int v4), g5, g6, g7]) (st2 := [.int v4]) (σ2 := σ) ok_X2_hasRing 56 1 106 108 [] rfl rfl rfl rfl trivial ?_
  refine ds_if_eq (show decode mt_X2_hasRing.2.1 108 = .ok (.ifCond .eq 7, 3) from ds_dec (i := (108, .ifCond .eq 7, 3, 0, 0, 0, .int 0)) ok_X2_hasRing 57 rfl) (t := 115) (by decide) (fun hc => ?_) (fun hc => ?_)
  · replace h := h.1 hc
    refine ds_blk (ls2 := [g0, g1, g2, g3, some (.int v4), g5, g6, g7]) (st2 := [.int (0 : Int32)]) (σ2 := σ) ok_X2_hasRing 60 1 115 116 [] rfl rfl rfl rfl trivial ?_
    exact ds_zret (show decode mt_X2_hasRing.2.1 116 = .ok (.ireturn, 1) from ds_dec (i := (116, .ireturn, 1, 0, 0, 0, .int 0)) ok_X2_hasRing 61 rfl) rfl (by decide) h
  · replace h := h.2 hc
    refine ds_blk (ls2 := [g0, g1, g2, g3, some (.int v4), g5, g6, g7]) (st2 := [.int (1 : Int32)]) (σ2 := σ) ok_X2_hasRing 58 1 111 112 [] rfl rfl rfl rfl trivial ?_
    refine ds_goto (show decode mt_X2_hasRing.2.1 112 = .ok (.goto 4, 3) from ds_dec (i := (112, .goto 4, 3, 0, 0, 0, .int 0)) ok_X2_hasRing 59 rfl) (t := 116) (by decide) ?_
    exact ds_zret (show decode mt_X2_hasRing.2.1 116 = .ok (.ireturn, 1) from ds_dec (i := (116, .ireturn, 1, 0, 0, 0, .int 0)) ok_X2_hasRing 61 rfl) rfl (by decide) h
def w_X2_hasRing (a1 : Int32) (a2 : Int32) (a3 : Int32) (σ : ds_S) (Q : Option Value → ds_S → Prop) : Prop := ∃ n, w_X2_hasRing_16 n a1 a2 a3 (((1 : Int32) <<< ((σ.1 1 0) &&& 31)) - (1 : Int32)) (0 : Int32) σ Q (fun v4_1 σ1 => w_X2_hasRing_106 v4_1 σ1 Q)
theorem e_X2_hasRing (a1 : Int32) (a2 : Int32) (a3 : Int32) (σ : ds_S) (Q : Option Value → ds_S → Prop) (h : w_X2_hasRing a1 a2 a3 σ Q) : ds_E mt_X2_hasRing Yc [.ref 56, .int a1, .int a2, .int a3] σ Q := by
  refine ds_enter (by decide) (Nat.le_of_ble_eq_true rfl) ?_
  show ds_X mt_X2_hasRing Yc 0 [some (.ref 56), some (.int a1), some (.int a2), some (.int a3), none, none, none, none] [] σ Q
  unfold w_X2_hasRing at h
  refine ds_blk (ls2 := [some (.ref 56), some (.int a1), some (.int a2), some (.int a3), some (.int (((1 : Int32) <<< ((σ.1 1 0) &&& 31)) - (1 : Int32))), some (.int (0 : Int32)), none, none]) (st2 := []) (σ2 := σ) ok_X2_hasRing 0 10 0 16 [ds_k Yc 56 2, ds_k Yc 1 1] rfl rfl rfl rfl ⟨⟨by decide, rfl⟩, ⟨by decide, rfl⟩, trivial⟩ ?_
  obtain ⟨n, h⟩ := h
  refine x_X2_hasRing_16 n a1 a2 a3 (((1 : Int32) <<< ((σ.1 1 0) &&& 31)) - (1 : Int32)) (0 : Int32) _ _ σ Q _ ?_ h
  · intro v4_1 g0_1 g1_1 g2_1 g3_1 g5_1 g6_1 g7_1 σ1 h
    refine x_X2_hasRing_106 v4_1 _ _ _ _ _ _ _ σ1 Q h
def w_X5_forget (σ : ds_S) (Q : Option Value → ds_S → Prop) : Prop := Q none (ds_wi σ 14 2 (0 : Int32))
theorem e_X5_forget (σ : ds_S) (Q : Option Value → ds_S → Prop) (h : w_X5_forget σ Q) : ds_E mt_X5_forget Yc [.ref 14] σ Q := by
  refine ds_enter (by decide) (Nat.le_of_ble_eq_true rfl) ?_
  show ds_X mt_X5_forget Yc 0 [some (.ref 14)] [] σ Q
  unfold w_X5_forget at h
  refine ds_blk (ls2 := [some (.ref 14)]) (st2 := []) (σ2 := (ds_wi σ 14 2 (0 : Int32))) ok_X5_forget 0 3 0 5 [ds_k Yc 14 5, (0 : Int32) = 0 ∨ (0 : Int32) = 1] rfl rfl rfl rfl ⟨⟨by decide, rfl⟩, (by decide), trivial⟩ ?_
  exact ds_vret (show decode mt_X5_forget.2.1 5 = .ok (.return_, 1) from ds_dec (i := (5, .return_, 1, 0, 0, 0, .int 0)) ok_X5_forget 3 rfl) rfl h
def w_X5_search_92 : Nat → (v2 : Int32) → (v3 : Int32) → (v4 : Int32) → (σ : ds_S) → (Q : Option Value → ds_S → Prop) → Prop
  | 0, _, _, _, _, _ => False
  | f + 1, v2, v3, v4, σ, Q => ((v3 ≤ v4 → Q none (ds_wi σ 14 2 (1 : Int32))) ∧ (¬ v3 ≤ v4 → ds_EI mt_X5_choose Yc [.ref 14, .int v4] σ (fun r1 σ1 => ((r1 ≤ 0 → w_X5_search_92 f v2 v3 (v4 + (1 : Int32)) σ1 Q) ∧ (¬ r1 ≤ 0 → ((v2 < r1 → w_X5_search_92 f v2 v3 (v4 + (1 : Int32)) σ1 Q) ∧ (¬ v2 < r1 → ds_EI mt_X5_isBetter Yc [.ref 14, .int r1] σ1 (fun r2 σ2 => ((r2 = 0 → w_X5_search_92 f v2 v3 (v4 + (1 : Int32)) σ2 Q) ∧ (¬ r2 = 0 → ds_EV mt_X3_copy Yc [.ref 16, .ref 19] (ds_wi σ2 14 3 r1) (fun σ3 => w_X5_search_92 f v2 v3 (v4 + (1 : Int32)) (ds_cp σ3 18 15 10) Q)))))))))))
theorem x_X5_search_92 : ∀ (f : Nat) (v2 : Int32) (v3 : Int32) (v4 : Int32) (g1 : Option Value) (g5 : Option Value) (σ : ds_S) (Q : Option Value → ds_S → Prop), w_X5_search_92 f v2 v3 v4 σ Q → ds_X mt_X5_search Yc 92 [some (.ref 14), g1, some (.int v2), some (.int v3), some (.int v4), g5] [] σ Q := by
  intro f
  induction f with
  | zero => intro v2 v3 v4 g1 g5 σ Q h; exact False.elim h
  | succ f ih =>
    intro v2 v3 v4 g1 g5 σ Q h
    rw [w_X5_search_92] at h
    refine ds_blk (ls2 := [some (.ref 14), g1, some (.int v2), some (.int v3), some (.int v4), g5]) (st2 := [.int v3, .int v4]) (σ2 := σ) ok_X5_search 47 2 92 95 [] rfl rfl rfl rfl trivial ?_
    refine ds_ic_ge (show decode mt_X5_search.2.1 95 = .ok (.if_icmp .ge 69, 3) from ds_dec (i := (95, .if_icmp .ge 69, 3, 0, 0, 0, .int 0)) ok_X5_search 49 rfl) (t := 164) (by decide) (fun hc => ?_) (fun hc => ?_)
    · replace h := h.1 hc
      refine ds_blk (ls2 := [some (.ref 14), g1, some (.int v2), some (.int v3), some (.int v4), g5]) (st2 := []) (σ2 := (ds_wi σ 14 2 (1 : Int32))) ok_X5_search 81 3 164 169 [ds_k Yc 14 5, (1 : Int32) = 0 ∨ (1 : Int32) = 1] rfl rfl rfl rfl ⟨⟨by decide, rfl⟩, (by decide), trivial⟩ ?_
      exact ds_vret (show decode mt_X5_search.2.1 169 = .ok (.return_, 1) from ds_dec (i := (169, .return_, 1, 0, 0, 0, .int 0)) ok_X5_search 84 rfl) rfl h
    · replace h := h.2 hc
      refine ds_blk (ls2 := [some (.ref 14), g1, some (.int v2), some (.int v3), some (.int v4), g5]) (st2 := [.int v4, .ref 14]) (σ2 := σ) ok_X5_search 50 2 98 101 [] rfl rfl rfl rfl trivial ?_
      refine ds_callV (z := mt_X5_choose) (b := 14) (as := [.int v4]) (rest := []) (show decode mt_X5_search.2.1 101 = .ok (.invokevirtual 83, 3) from ds_dec (i := (101, .invokevirtual 83, 3, 0, 0, 602, .int 0)) ok_X5_search 52 rfl) (ds_E.mono h (fun r σ1 hr => ?_)) ⟨zw_X5_choose.1, zw_X5_choose.2.1, zw_X5_choose.2.2, by decide, by decide⟩ (ds_wb_T (p := 602) (by decide +kernel)) zi_X5_choose zs_X5_choose (by decide) rfl ⟨_, rfl, rfl⟩ (Nat.le_of_ble_eq_true rfl)
      obtain ⟨r1, rfl, h⟩ := hr
      show ds_X mt_X5_search Yc 104 [some (.ref 14), g1, some (.int v2), some (.int v3), some (.int v4), g5] [.int r1] σ1 Q
      refine ds_blk (ls2 := [some (.ref 14), g1, some (.int v2), some (.int v3), some (.int v4), some (.int r1)]) (st2 := [.int r1]) (σ2 := σ1) ok_X5_search 53 2 104 108 [] rfl rfl rfl rfl trivial ?_
      refine ds_if_le (show decode mt_X5_search.2.1 108 = .ok (.ifCond .le 50, 3) from ds_dec (i := (108, .ifCond .le 50, 3, 0, 0, 0, .int 0)) ok_X5_search 55 rfl) (t := 158) (by decide) (fun hc => ?_) (fun hc => ?_)
      · replace h := h.1 hc
        refine ds_blk (ls2 := [some (.ref 14), g1, some (.int v2), some (.int v3), some (.int (v4 + (1 : Int32))), some (.int r1)]) (st2 := []) (σ2 := σ1) ok_X5_search 79 1 158 161 [] rfl rfl rfl rfl trivial ?_
        refine ds_goto (show decode mt_X5_search.2.1 161 = .ok (.goto (-69), 3) from ds_dec (i := (161, .goto (-69), 3, 0, 0, 0, .int 0)) ok_X5_search 80 rfl) (t := 92) (by decide) ?_
        exact ih v2 v3 (v4 + (1 : Int32)) _ _ σ1 Q h
      · replace h := h.2 hc
        refine ds_blk (ls2 := [some (.ref 14), g1, some (.int v2), some (.int v3), some (.int v4), some (.int r1)]) (st2 := [.int v2, .int r1]) (σ2 := σ1) ok_X5_search 56 2 111 114 [] rfl rfl rfl rfl trivial ?_
        refine ds_ic_gt (show decode mt_X5_search.2.1 114 = .ok (.if_icmp .gt 44, 3) from ds_dec (i := (114, .if_icmp .gt 44, 3, 0, 0, 0, .int 0)) ok_X5_search 58 rfl) (t := 158) (by decide) (fun hc => ?_) (fun hc => ?_)
        · replace h := h.1 hc
          refine ds_blk (ls2 := [some (.ref 14), g1, some (.int v2), some (.int v3), some (.int (v4 + (1 : Int32))), some (.int r1)]) (st2 := []) (σ2 := σ1) ok_X5_search 79 1 158 161 [] rfl rfl rfl rfl trivial ?_
          refine ds_goto (show decode mt_X5_search.2.1 161 = .ok (.goto (-69), 3) from ds_dec (i := (161, .goto (-69), 3, 0, 0, 0, .int 0)) ok_X5_search 80 rfl) (t := 92) (by decide) ?_
          exact ih v2 v3 (v4 + (1 : Int32)) _ _ σ1 Q h
        · replace h := h.2 hc
          refine ds_blk (ls2 := [some (.ref 14), g1, some (.int v2), some (.int v3), some (.int v4), some (.int r1)]) (st2 := [.int r1, .ref 14]) (σ2 := σ1) ok_X5_search 59 2 117 120 [] rfl rfl rfl rfl trivial ?_
          refine ds_callV (z := mt_X5_isBetter) (b := 14) (as := [.int r1]) (rest := []) (show decode mt_X5_search.2.1 120 = .ok (.invokevirtual 87, 3) from ds_dec (i := (120, .invokevirtual 87, 3, 0, 0, 606, .int 0)) ok_X5_search 61 rfl) (ds_E.mono h (fun r σ2 hr => ?_)) ⟨zw_X5_isBetter.1, zw_X5_isBetter.2.1, zw_X5_isBetter.2.2, by decide, by decide⟩ (ds_wb_T (p := 606) (by decide +kernel)) zi_X5_isBetter zs_X5_isBetter (by decide) rfl ⟨_, rfl, rfl⟩ (Nat.le_of_ble_eq_true rfl)
          obtain ⟨r2, rfl, h⟩ := hr
          show ds_X mt_X5_search Yc 123 [some (.ref 14), g1, some (.int v2), some (.int v3), some (.int v4), some (.int r1)] [.int r2] σ2 Q
          refine ds_if_eq (show decode mt_X5_search.2.1 123 = .ok (.ifCond .eq 35, 3) from ds_dec (i := (123, .ifCond .eq 35, 3, 0, 0, 0, .int 0)) ok_X5_search 62 rfl) (t := 158) (by decide) (fun hc => ?_) (fun hc => ?_)
          · replace h := h.1 hc
            refine ds_blk (ls2 := [some (.ref 14), g1, some (.int v2), some (.int v3), some (.int (v4 + (1 : Int32))), some (.int r1)]) (st2 := []) (σ2 := σ2) ok_X5_search 79 1 158 161 [] rfl rfl rfl rfl trivial ?_
            refine ds_goto (show decode mt_X5_search.2.1 161 = .ok (.goto (-69), 3) from ds_dec (i := (161, .goto (-69), 3, 0, 0, 0, .int 0)) ok_X5_search 80 rfl) (t := 92) (by decide) ?_
            exact ih v2 v3 (v4 + (1 : Int32)) _ _ σ2 Q h
          · replace h := h.2 hc
            refine ds_blk (ls2 := [some (.ref 14), g1, some (.int v2), some (.int v3), some (.int v4), some (.int r1)]) (st2 := [.ref 19, .ref 16]) (σ2 := (ds_wi σ2 14 3 r1)) ok_X5_search 63 7 126 140 [ds_k Yc 14 5, ds_k Yc 14 5, ds_k Yc 14 5] rfl rfl rfl rfl ⟨⟨by decide, rfl⟩, ⟨by decide, rfl⟩, ⟨by decide, rfl⟩, trivial⟩ ?_
            refine ds_callV (z := mt_X3_copy) (b := 16) (as := [.ref 19]) (rest := []) (show decode mt_X5_search.2.1 140 = .ok (.invokevirtual 91, 3) from ds_dec (i := (140, .invokevirtual 91, 3, 0, 0, 614, .int 0)) ok_X5_search 70 rfl) (ds_E.mono h (fun r σ3 hr => ?_)) ⟨zw_X3_copy.1, zw_X3_copy.2.1, zw_X3_copy.2.2, by decide, by decide⟩ (ds_wb_T (p := 614) (by decide +kernel)) zi_X3_copy zs_X3_copy (by decide) rfl ⟨_, rfl, rfl⟩ (Nat.le_of_ble_eq_true rfl)
            obtain ⟨rfl, h⟩ := hr
            show ds_X mt_X5_search Yc 143 [some (.ref 14), g1, some (.int v2), some (.int v3), some (.int v4), some (.int r1)] [] σ3 Q
            refine ds_blk (ls2 := [some (.ref 14), g1, some (.int v2), some (.int v3), some (.int v4), some (.int r1)]) (st2 := [.int (10 : Int32), .int (0 : Int32), .ref 15, .int (0 : Int32), .ref 18]) (σ2 := σ3) ok_X5_search 71 7 143 155 [ds_k Yc 14 5, ds_k Yc 14 5] rfl rfl rfl rfl ⟨⟨by decide, rfl⟩, ⟨by decide, rfl⟩, trivial⟩ ?_
            refine ds_copy (a := 18) (b := 15) (st := []) (show decode mt_X5_search.2.1 155 = .ok (.invokestatic 70, 3) from ds_dec (i := (155, .invokestatic 70, 3, 0, 0, 590, .int 0)) ok_X5_search 78 rfl) (ds_wb_T (p := 590) (by decide +kernel)) ds_ac1 ds_ac2 ds_ac3 (by decide) rfl (by decide) rfl (by decide) (by decide) (by decide) (by decide) (by decide) (by decide) (by decide) ?_
            show ds_X mt_X5_search Yc 158 [some (.ref 14), g1, some (.int v2), some (.int v3), some (.int v4), some (.int r1)] [] (ds_cp σ3 18 15 10) Q
            refine ds_blk (ls2 := [some (.ref 14), g1, some (.int v2), some (.int v3), some (.int (v4 + (1 : Int32))), some (.int r1)]) (st2 := []) (σ2 := (ds_cp σ3 18 15 10)) ok_X5_search 79 1 158 161 [] rfl rfl rfl rfl trivial ?_
            refine ds_goto (show decode mt_X5_search.2.1 161 = .ok (.goto (-69), 3) from ds_dec (i := (161, .goto (-69), 3, 0, 0, 0, .int 0)) ok_X5_search 80 rfl) (t := 92) (by decide) ?_
            exact ih v2 v3 (v4 + (1 : Int32)) _ _ (ds_cp σ3 18 15 10) Q h
def w_X5_search (a1 : Int32) (a2 : Int32) (σ : ds_S) (Q : Option Value → ds_S → Prop) : Prop := ds_EI mt_X6_targetsOfLoads Yc [.ref 12] (ds_wi σ 14 6 a1) (fun r1 σ1 => ds_EV mt_X5_chooseFree Yc [.ref 14] (ds_wi (ds_wi (ds_wi σ1 14 9 r1) 14 10 (0 : Int32)) 14 3 (0 : Int32)) (fun σ2 => ds_EV mt_X6_findWorst Yc [.ref 12, .ref 64, .ref 16] (ds_cp (ds_cp σ2 64 18 10) 64 15 10) (fun σ3 => ds_EI mt_X5_countChoices Yc [.ref 14] σ3 (fun r4 σ4 => ∃ n, w_X5_search_92 n a2 r4 (0 : Int32) σ4 Q))))
theorem e_X5_search (a1 : Int32) (a2 : Int32) (σ : ds_S) (Q : Option Value → ds_S → Prop) (h : w_X5_search a1 a2 σ Q) : ds_E mt_X5_search Yc [.ref 14, .int a1, .int a2] σ Q := by
  refine ds_enter (by decide) (Nat.le_of_ble_eq_true rfl) ?_
  show ds_X mt_X5_search Yc 0 [some (.ref 14), some (.int a1), some (.int a2), none, none, none] [] σ Q
  unfold w_X5_search at h
  refine ds_blk (ls2 := [some (.ref 14), some (.int a1), some (.int a2), none, none, none]) (st2 := [.ref 12, .ref 14]) (σ2 := (ds_wi σ 14 6 a1)) ok_X5_search 0 6 0 10 [ds_k Yc 14 5, ds_k Yc 14 5] rfl rfl rfl rfl ⟨⟨by decide, rfl⟩, ⟨by decide, rfl⟩, trivial⟩ ?_
  refine ds_callV (z := mt_X6_targetsOfLoads) (b := 12) (as := []) (rest := [.ref 14]) (show decode mt_X5_search.2.1 10 = .ok (.invokevirtual 47, 3) from ds_dec (i := (10, .invokevirtual 47, 3, 0, 0, 584, .int 0)) ok_X5_search 6 rfl) (ds_E.mono h (fun r σ1 hr => ?_)) ⟨zw_X6_targetsOfLoads.1, zw_X6_targetsOfLoads.2.1, zw_X6_targetsOfLoads.2.2, by decide, by decide⟩ (ds_wb_T (p := 584) (by decide +kernel)) zi_X6_targetsOfLoads zs_X6_targetsOfLoads (by decide) rfl ⟨_, rfl, rfl⟩ (Nat.le_of_ble_eq_true rfl)
  obtain ⟨r1, rfl, h⟩ := hr
  show ds_X mt_X5_search Yc 13 [some (.ref 14), some (.int a1), some (.int a2), none, none, none] [.int r1, .ref 14] σ1 Q
  refine ds_blk (ls2 := [some (.ref 14), some (.int a1), some (.int a2), none, none, none]) (st2 := [.ref 14]) (σ2 := (ds_wi (ds_wi (ds_wi σ1 14 9 r1) 14 10 (0 : Int32)) 14 3 (0 : Int32))) ok_X5_search 7 8 13 27 [ds_k Yc 14 5, ds_k Yc 14 5, ds_k Yc 14 5] rfl rfl rfl rfl ⟨⟨by decide, rfl⟩, ⟨by decide, rfl⟩, ⟨by decide, rfl⟩, trivial⟩ ?_
  refine ds_callV (z := mt_X5_chooseFree) (b := 14) (as := []) (rest := []) (show decode mt_X5_search.2.1 27 = .ok (.invokevirtual 62, 3) from ds_dec (i := (27, .invokevirtual 62, 3, 0, 0, 585, .int 0)) ok_X5_search 15 rfl) (ds_E.mono h (fun r σ2 hr => ?_)) ⟨zw_X5_chooseFree.1, zw_X5_chooseFree.2.1, zw_X5_chooseFree.2.2, by decide, by decide⟩ (ds_wb_T (p := 585) (by decide +kernel)) zi_X5_chooseFree zs_X5_chooseFree (by decide) rfl ⟨_, rfl, rfl⟩ (Nat.le_of_ble_eq_true rfl)
  obtain ⟨rfl, h⟩ := hr
  show ds_X mt_X5_search Yc 30 [some (.ref 14), some (.int a1), some (.int a2), none, none, none] [] σ2 Q
  refine ds_blk (ls2 := [some (.ref 14), some (.int a1), some (.int a2), none, none, none]) (st2 := [.int (10 : Int32), .int (0 : Int32), .ref 18, .int (0 : Int32), .ref 64]) (σ2 := σ2) ok_X5_search 16 8 30 45 [ds_k Yc 14 5, ds_k Yc 1 1, ds_k Yc 14 5] rfl rfl rfl rfl ⟨⟨by decide, rfl⟩, ⟨by decide, rfl⟩, ⟨by decide, rfl⟩, trivial⟩ ?_
  refine ds_copy (a := 64) (b := 18) (st := []) (show decode mt_X5_search.2.1 45 = .ok (.invokestatic 70, 3) from ds_dec (i := (45, .invokestatic 70, 3, 0, 0, 590, .int 0)) ok_X5_search 24 rfl) (ds_wb_T (p := 590) (by decide +kernel)) ds_ac1 ds_ac2 ds_ac3 (by decide) rfl (by decide) rfl (by decide) (by decide) (by decide) (by decide) (by decide) (by decide) (by decide) ?_
  show ds_X mt_X5_search Yc 48 [some (.ref 14), some (.int a1), some (.int a2), none, none, none] [] (ds_cp σ2 64 18 10) Q
  refine ds_blk (ls2 := [some (.ref 14), some (.int a1), some (.int a2), none, none, none]) (st2 := [.int (10 : Int32), .int (0 : Int32), .ref 15, .int (0 : Int32), .ref 64]) (σ2 := (ds_cp σ2 64 18 10)) ok_X5_search 25 8 48 63 [ds_k Yc 14 5, ds_k Yc 1 1, ds_k Yc 14 5] rfl rfl rfl rfl ⟨⟨by decide, rfl⟩, ⟨by decide, rfl⟩, ⟨by decide, rfl⟩, trivial⟩ ?_
  refine ds_copy (a := 64) (b := 15) (st := []) (show decode mt_X5_search.2.1 63 = .ok (.invokestatic 70, 3) from ds_dec (i := (63, .invokestatic 70, 3, 0, 0, 590, .int 0)) ok_X5_search 33 rfl) (ds_wb_T (p := 590) (by decide +kernel)) ds_ac1 ds_ac2 ds_ac3 (by decide) rfl (by decide) rfl (by decide) (by decide) (by decide) (by decide) (by decide) (by decide) (by decide) ?_
  show ds_X mt_X5_search Yc 66 [some (.ref 14), some (.int a1), some (.int a2), none, none, none] [] (ds_cp (ds_cp σ2 64 18 10) 64 15 10) Q
  refine ds_blk (ls2 := [some (.ref 14), some (.int a1), some (.int a2), none, none, none]) (st2 := [.ref 16, .ref 64, .ref 12]) (σ2 := (ds_cp (ds_cp σ2 64 18 10) 64 15 10)) ok_X5_search 34 7 66 81 [ds_k Yc 14 5, ds_k Yc 14 5, ds_k Yc 1 1, ds_k Yc 14 5] rfl rfl rfl rfl ⟨⟨by decide, rfl⟩, ⟨by decide, rfl⟩, ⟨by decide, rfl⟩, ⟨by decide, rfl⟩, trivial⟩ ?_
  refine ds_callV (z := mt_X6_findWorst) (b := 12) (as := [.ref 64, .ref 16]) (rest := []) (show decode mt_X5_search.2.1 81 = .ok (.invokevirtual 76, 3) from ds_dec (i := (81, .invokevirtual 76, 3, 0, 0, 593, .int 0)) ok_X5_search 41 rfl) (ds_E.mono h (fun r σ3 hr => ?_)) ⟨zw_X6_findWorst.1, zw_X6_findWorst.2.1, zw_X6_findWorst.2.2, by decide, by decide⟩ (ds_wb_T (p := 593) (by decide +kernel)) zi_X6_findWorst zs_X6_findWorst (by decide) rfl ⟨_, rfl, rfl⟩ (Nat.le_of_ble_eq_true rfl)
  obtain ⟨rfl, h⟩ := hr
  show ds_X mt_X5_search Yc 84 [some (.ref 14), some (.int a1), some (.int a2), none, none, none] [] σ3 Q
  refine ds_blk (ls2 := [some (.ref 14), some (.int a1), some (.int a2), none, none, none]) (st2 := [.ref 14]) (σ2 := σ3) ok_X5_search 42 1 84 85 [] rfl rfl rfl rfl trivial ?_
  refine ds_callV (z := mt_X5_countChoices) (b := 14) (as := []) (rest := []) (show decode mt_X5_search.2.1 85 = .ok (.invokevirtual 80, 3) from ds_dec (i := (85, .invokevirtual 80, 3, 0, 0, 594, .int 0)) ok_X5_search 43 rfl) (ds_E.mono h (fun r σ4 hr => ?_)) ⟨zw_X5_countChoices.1, zw_X5_countChoices.2.1, zw_X5_countChoices.2.2, by decide, by decide⟩ (ds_wb_T (p := 594) (by decide +kernel)) zi_X5_countChoices zs_X5_countChoices (by decide) rfl ⟨_, rfl, rfl⟩ (Nat.le_of_ble_eq_true rfl)
  obtain ⟨r4, rfl, h⟩ := hr
  show ds_X mt_X5_search Yc 88 [some (.ref 14), some (.int a1), some (.int a2), none, none, none] [.int r4] σ4 Q
  refine ds_blk (ls2 := [some (.ref 14), some (.int a1), some (.int a2), some (.int r4), some (.int (0 : Int32)), none]) (st2 := []) (σ2 := σ4) ok_X5_search 44 3 88 92 [] rfl rfl rfl rfl trivial ?_
  obtain ⟨n, h⟩ := h
  refine x_X5_search_92 n a2 r4 (0 : Int32) _ _ σ4 Q h
def w_X5_chooseFree_7 : Nat → (v1 : Int32) → (σ : ds_S) → (Q : Option Value → ds_S → Prop) → Prop
  | 0, _, _, _ => False
  | f + 1, v1, σ, Q => (((σ.1 1 1) ≤ v1 → Q none σ) ∧ (¬ (σ.1 1 1) ≤ v1 → (((5 : Int32) ≤ (σ.1 14 7) → Q none σ) ∧ (¬ (5 : Int32) ≤ (σ.1 14 7) → ((¬ (q_bit ((σ.1 1 6) ||| (σ.1 1 7)) v1) = 0 → w_X5_chooseFree_7 f (v1 + (1 : Int32)) σ Q) ∧ ((q_bit ((σ.1 1 6) ||| (σ.1 1 7)) v1) = 0 → vp_in (σ.1 14 7) 5 ∧ w_X5_chooseFree_7 f (v1 + (1 : Int32)) (ds_wi (ds_wi σ 17 ((σ.1 14 7).toNatClampNeg) v1) 14 7 ((σ.1 14 7) + (1 : Int32))) Q))))))
theorem x_X5_chooseFree_7 : ∀ (f : Nat) (v1 : Int32) (σ : ds_S) (Q : Option Value → ds_S → Prop), w_X5_chooseFree_7 f v1 σ Q → ds_X mt_X5_chooseFree Yc 7 [some (.ref 14), some (.int v1)] [] σ Q := by
  intro f
  induction f with
  | zero => intro v1 σ Q h; exact False.elim h
  | succ f ih =>
    intro v1 σ Q h
    rw [w_X5_chooseFree_7] at h
    refine ds_blk (ls2 := [some (.ref 14), some (.int v1)]) (st2 := [.int (σ.1 1 1), .int v1]) (σ2 := σ) ok_X5_chooseFree 5 4 7 15 [ds_k Yc 14 5, ds_k Yc 1 1] rfl rfl rfl rfl ⟨⟨by decide, rfl⟩, ⟨by decide, rfl⟩, trivial⟩ ?_
    refine ds_ic_ge (show decode mt_X5_chooseFree.2.1 15 = .ok (.if_icmp .ge 59, 3) from ds_dec (i := (15, .if_icmp .ge 59, 3, 0, 0, 0, .int 0)) ok_X5_chooseFree 9 rfl) (t := 74) (by decide) (fun hc => ?_) (fun hc => ?_)
    · replace h := h.1 hc
      exact ds_vret (show decode mt_X5_chooseFree.2.1 74 = .ok (.return_, 1) from ds_dec (i := (74, .return_, 1, 0, 0, 0, .int 0)) ok_X5_chooseFree 38 rfl) rfl h
    · replace h := h.2 hc
      refine ds_blk (ls2 := [some (.ref 14), some (.int v1)]) (st2 := [.int (5 : Int32), .int (σ.1 14 7)]) (σ2 := σ) ok_X5_chooseFree 10 3 18 23 [ds_k Yc 14 5] rfl rfl rfl rfl ⟨⟨by decide, rfl⟩, trivial⟩ ?_
      refine ds_ic_ge (show decode mt_X5_chooseFree.2.1 23 = .ok (.if_icmp .ge 51, 3) from ds_dec (i := (23, .if_icmp .ge 51, 3, 0, 0, 0, .int 0)) ok_X5_chooseFree 13 rfl) (t := 74) (by decide) (fun hc => ?_) (fun hc => ?_)
      · replace h := h.1 hc
        exact ds_vret (show decode mt_X5_chooseFree.2.1 74 = .ok (.return_, 1) from ds_dec (i := (74, .return_, 1, 0, 0, 0, .int 0)) ok_X5_chooseFree 38 rfl) rfl h
      · replace h := h.2 hc
        refine ds_blk (ls2 := [some (.ref 14), some (.int v1)]) (st2 := [.int v1, .int ((σ.1 1 6) ||| (σ.1 1 7))]) (σ2 := σ) ok_X5_chooseFree 14 8 26 42 [ds_k Yc 14 5, ds_k Yc 1 1, ds_k Yc 14 5, ds_k Yc 1 1] rfl rfl rfl rfl ⟨⟨by decide, rfl⟩, ⟨by decide, rfl⟩, ⟨by decide, rfl⟩, ⟨by decide, rfl⟩, trivial⟩ ?_
        refine ds_callN (z := mt_X8_bit) (as := [.int ((σ.1 1 6) ||| (σ.1 1 7)), .int v1]) (rest := []) (show decode mt_X5_chooseFree.2.1 42 = .ok (.invokestatic 107, 3) from ds_dec (i := (42, .invokestatic 107, 3, 0, 0, 0, .int 0)) ok_X5_chooseFree 22 rfl) (ds_E.mono (sp_X8_bit ((σ.1 1 6) ||| (σ.1 1 7)) v1 σ ) (fun r σ1 hr => ?_)) ⟨zw_X8_bit.1, zw_X8_bit.2.1, zw_X8_bit.2.2, by decide, by decide⟩ (by decide +kernel) zt_X8_bit (Nat.le_of_ble_eq_true rfl)
        obtain ⟨x9, rfl, e8, e9⟩ := hr
        rw [e8, e9]
        show ds_X mt_X5_chooseFree Yc 45 [some (.ref 14), some (.int v1)] [.int (q_bit ((σ.1 1 6) ||| (σ.1 1 7)) v1)] σ Q
        refine ds_if_ne (show decode mt_X5_chooseFree.2.1 45 = .ok (.ifCond .ne 23, 3) from ds_dec (i := (45, .ifCond .ne 23, 3, 0, 0, 0, .int 0)) ok_X5_chooseFree 23 rfl) (t := 68) (by decide) (fun hc => ?_) (fun hc => ?_)
        · replace h := h.1 hc
          refine ds_blk (ls2 := [some (.ref 14), some (.int (v1 + (1 : Int32)))]) (st2 := []) (σ2 := σ) ok_X5_chooseFree 36 1 68 71 [] rfl rfl rfl rfl trivial ?_
          refine ds_goto (show decode mt_X5_chooseFree.2.1 71 = .ok (.goto (-64), 3) from ds_dec (i := (71, .goto (-64), 3, 0, 0, 0, .int 0)) ok_X5_chooseFree 37 rfl) (t := 7) (by decide) ?_
          exact ih (v1 + (1 : Int32)) σ Q h
        · replace h := h.2 hc
          obtain ⟨o1, h⟩ := h
          refine ds_blk (ls2 := [some (.ref 14), some (.int (v1 + (1 : Int32)))]) (st2 := []) (σ2 := (ds_wi (ds_wi σ 17 ((σ.1 14 7).toNatClampNeg) v1) 14 7 ((σ.1 14 7) + (1 : Int32)))) ok_X5_chooseFree 24 13 48 71 [ds_k Yc 14 5, ds_k Yc 14 5, ds_k Yc 17 10, vp_in (σ.1 14 7) 5, ds_k Yc 14 5, ds_k Yc 14 5] rfl rfl rfl rfl ⟨⟨by decide, rfl⟩, ⟨by decide, rfl⟩, ⟨by decide, rfl⟩, o1, ⟨by decide, rfl⟩, ⟨by decide, rfl⟩, trivial⟩ ?_
          refine ds_goto (show decode mt_X5_chooseFree.2.1 71 = .ok (.goto (-64), 3) from ds_dec (i := (71, .goto (-64), 3, 0, 0, 0, .int 0)) ok_X5_chooseFree 37 rfl) (t := 7) (by decide) ?_
          exact ih (v1 + (1 : Int32)) (ds_wi (ds_wi σ 17 ((σ.1 14 7).toNatClampNeg) v1) 14 7 ((σ.1 14 7) + (1 : Int32))) Q h
def w_X5_chooseFree (σ : ds_S) (Q : Option Value → ds_S → Prop) : Prop := ∃ n, w_X5_chooseFree_7 n (0 : Int32) (ds_wi σ 14 7 (0 : Int32)) Q
theorem e_X5_chooseFree (σ : ds_S) (Q : Option Value → ds_S → Prop) (h : w_X5_chooseFree σ Q) : ds_E mt_X5_chooseFree Yc [.ref 14] σ Q := by
  refine ds_enter (by decide) (Nat.le_of_ble_eq_true rfl) ?_
  show ds_X mt_X5_chooseFree Yc 0 [some (.ref 14), none] [] σ Q
  unfold w_X5_chooseFree at h
  refine ds_blk (ls2 := [some (.ref 14), some (.int (0 : Int32))]) (st2 := []) (σ2 := (ds_wi σ 14 7 (0 : Int32))) ok_X5_chooseFree 0 5 0 7 [ds_k Yc 14 5] rfl rfl rfl rfl ⟨⟨by decide, rfl⟩, trivial⟩ ?_
  obtain ⟨n, h⟩ := h
  refine x_X5_chooseFree_7 n (0 : Int32) (ds_wi σ 14 7 (0 : Int32)) Q h
def w_X5_countChoices_4 : Nat → (v1 : Int32) → (v2 : Int32) → (σ : ds_S) → (Q : Option Value → ds_S → Prop) → Prop
  | 0, _, _, _, _ => False
  | f + 1, v1, v2, σ, Q => (((σ.1 14 7) ≤ v2 → Q (some (.int v1)) σ) ∧ (¬ (σ.1 14 7) ≤ v2 → vp_in v2 5 ∧ vp_in (σ.1 17 v2.toNatClampNeg) 10 ∧ w_X5_countChoices_4 f (v1 * (q_ch (σ.1 64 ((σ.1 17 v2.toNatClampNeg).toNatClampNeg)) (σ.1 14 6))) (v2 + (1 : Int32)) σ Q))
theorem x_X5_countChoices_4 : ∀ (f : Nat) (v1 : Int32) (v2 : Int32) (σ : ds_S) (Q : Option Value → ds_S → Prop), w_X5_countChoices_4 f v1 v2 σ Q → ds_X mt_X5_countChoices Yc 4 [some (.ref 14), some (.int v1), some (.int v2)] [] σ Q := by
  intro f
  induction f with
  | zero => intro v1 v2 σ Q h; exact False.elim h
  | succ f ih =>
    intro v1 v2 σ Q h
    rw [w_X5_countChoices_4] at h
    refine ds_blk (ls2 := [some (.ref 14), some (.int v1), some (.int v2)]) (st2 := [.int (σ.1 14 7), .int v2]) (σ2 := σ) ok_X5_countChoices 4 3 4 9 [ds_k Yc 14 5] rfl rfl rfl rfl ⟨⟨by decide, rfl⟩, trivial⟩ ?_
    refine ds_ic_ge (show decode mt_X5_countChoices.2.1 9 = .ok (.if_icmp .ge 22, 3) from ds_dec (i := (9, .if_icmp .ge 22, 3, 0, 0, 0, .int 0)) ok_X5_countChoices 7 rfl) (t := 31) (by decide) (fun hc => ?_) (fun hc => ?_)
    · replace h := h.1 hc
      refine ds_blk (ls2 := [some (.ref 14), some (.int v1), some (.int v2)]) (st2 := [.int v1]) (σ2 := σ) ok_X5_countChoices 19 1 31 32 [] rfl rfl rfl rfl trivial ?_
      exact ds_iret (show decode mt_X5_countChoices.2.1 32 = .ok (.ireturn, 1) from ds_dec (i := (32, .ireturn, 1, 0, 0, 0, .int 0)) ok_X5_countChoices 20 rfl) rfl h
    · replace h := h.2 hc
      obtain ⟨o1, h⟩ := h
      refine ds_blk (ls2 := [some (.ref 14), some (.int v1), some (.int v2)]) (st2 := [.int (σ.1 17 v2.toNatClampNeg), .ref 14, .int v1]) (σ2 := σ) ok_X5_countChoices 8 6 12 20 [ds_k Yc 14 5, ds_k Yc 17 10, vp_in v2 5] rfl rfl rfl rfl ⟨⟨by decide, rfl⟩, ⟨by decide, rfl⟩, o1, trivial⟩ ?_
      obtain ⟨o2, h⟩ := h
      refine ds_callV (z := mt_X5_choicesOf) (b := 14) (as := [.int (σ.1 17 v2.toNatClampNeg)]) (rest := [.int v1]) (show decode mt_X5_countChoices.2.1 20 = .ok (.invokevirtual 111, 3) from ds_dec (i := (20, .invokevirtual 111, 3, 0, 0, 598, .int 0)) ok_X5_countChoices 14 rfl) (ds_E.mono (sp_X5_choicesOf (σ.1 17 v2.toNatClampNeg) σ o2) (fun r σ1 hr => ?_)) ⟨zw_X5_choicesOf.1, zw_X5_choicesOf.2.1, zw_X5_choicesOf.2.2, by decide, by decide⟩ (ds_wb_T (p := 598) (by decide +kernel)) zi_X5_choicesOf zs_X5_choicesOf (by decide) rfl ⟨_, rfl, rfl⟩ (Nat.le_of_ble_eq_true rfl)
      obtain ⟨x9, rfl, e8, e9⟩ := hr
      rw [e8, e9]
      show ds_X mt_X5_countChoices Yc 23 [some (.ref 14), some (.int v1), some (.int v2)] [.int (q_ch (σ.1 64 ((σ.1 17 v2.toNatClampNeg).toNatClampNeg)) (σ.1 14 6)), .int v1] σ Q
      refine ds_blk (ls2 := [some (.ref 14), some (.int (v1 * (q_ch (σ.1 64 ((σ.1 17 v2.toNatClampNeg).toNatClampNeg)) (σ.1 14 6)))), some (.int (v2 + (1 : Int32)))]) (st2 := []) (σ2 := σ) ok_X5_countChoices 15 3 23 28 [] rfl rfl rfl rfl trivial ?_
      refine ds_goto (show decode mt_X5_countChoices.2.1 28 = .ok (.goto (-24), 3) from ds_dec (i := (28, .goto (-24), 3, 0, 0, 0, .int 0)) ok_X5_countChoices 18 rfl) (t := 4) (by decide) ?_
      exact ih (v1 * (q_ch (σ.1 64 ((σ.1 17 v2.toNatClampNeg).toNatClampNeg)) (σ.1 14 6))) (v2 + (1 : Int32)) σ Q h
def w_X5_countChoices (σ : ds_S) (Q : Option Value → ds_S → Prop) : Prop := ∃ n, w_X5_countChoices_4 n (1 : Int32) (0 : Int32) σ Q
theorem e_X5_countChoices (σ : ds_S) (Q : Option Value → ds_S → Prop) (h : w_X5_countChoices σ Q) : ds_E mt_X5_countChoices Yc [.ref 14] σ Q := by
  refine ds_enter (by decide) (Nat.le_of_ble_eq_true rfl) ?_
  show ds_X mt_X5_countChoices Yc 0 [some (.ref 14), none, none] [] σ Q
  unfold w_X5_countChoices at h
  refine ds_blk (ls2 := [some (.ref 14), some (.int (1 : Int32)), some (.int (0 : Int32))]) (st2 := []) (σ2 := σ) ok_X5_countChoices 0 4 0 4 [] rfl rfl rfl rfl trivial ?_
  obtain ⟨n, h⟩ := h
  refine x_X5_countChoices_4 n (1 : Int32) (0 : Int32) σ Q h
def w_X5_choose_95 (v2 : Int32) (v3 : Int32) (v4 : Int32) (v5 : Int32) (t0 : Int32) (t1 : Int32) (σ : ds_S) (Q : Option Value → ds_S → Prop) (K12 : Int32 → Int32 → Int32 → ds_S → Prop) : Prop := vp_in t1 10 ∧ vp_in v5 10 ∧ vp_in v5 10 ∧ ((¬ ((ds_wi σ 18 t1.toNatClampNeg t0).1 18 v5.toNatClampNeg) = (σ.1 64 v5.toNatClampNeg) → K12 (v2 + (1 : Int32)) v3 (v4 + (-1 : Int32)) (ds_wi σ 18 t1.toNatClampNeg t0)) ∧ (((ds_wi σ 18 t1.toNatClampNeg t0).1 18 v5.toNatClampNeg) = (σ.1 64 v5.toNatClampNeg) → K12 (v2 + (0 : Int32)) v3 (v4 + (-1 : Int32)) (ds_wi σ 18 t1.toNatClampNeg t0)))
theorem x_X5_choose_95 (v2 : Int32) (v3 : Int32) (v4 : Int32) (v5 : Int32) (t0 : Int32) (t1 : Int32) (g1 : Option Value) (g6 : Option Value) (g7 : Option Value) (σ : ds_S) (Q : Option Value → ds_S → Prop) (K12 : Int32 → Int32 → Int32 → ds_S → Prop) (hK12 : ∀ (v2 : Int32) (v3 : Int32) (v4 : Int32) (g1 : Option Value) (g5 : Option Value) (g6 : Option Value) (g7 : Option Value) (σ2 : ds_S), K12 v2 v3 v4 σ2 → ds_X mt_X5_choose Yc 12 [some (.ref 14), g1, some (.int v2), some (.int v3), some (.int v4), g5, g6, g7] [] σ2 Q) (h : w_X5_choose_95 v2 v3 v4 v5 t0 t1 σ Q K12) : ds_X mt_X5_choose Yc 95 [some (.ref 14), g1, some (.int v2), some (.int v3), some (.int v4), some (.int v5), g6, g7] [.int t0, .int t1, .ref 18] σ Q := by
  unfold w_X5_choose_95 at h
  obtain ⟨o1, o2, o3, h⟩ := h
  refine ds_blk (ls2 := [some (.ref 14), g1, some (.int v2), some (.int v3), some (.int v4), some (.int v5), g6, g7]) (st2 := [.int (σ.1 64 v5.toNatClampNeg), .int ((ds_wi σ 18 t1.toNatClampNeg t0).1 18 v5.toNatClampNeg), .int v2]) (σ2 := (ds_wi σ 18 t1.toNatClampNeg t0)) ok_X5_choose 52 11 95 114 [ds_k Yc 18 10, vp_in t1 10, ds_k Yc 14 5, ds_k Yc 18 10, vp_in v5 10, ds_k Yc 14 5, ds_k Yc 1 1, ds_k Yc 64 10, vp_in v5 10] rfl rfl rfl rfl ⟨⟨by decide, rfl⟩, o1, ⟨by decide, rfl⟩, ⟨by decide, rfl⟩, o2, ⟨by decide, rfl⟩, ⟨by decide, rfl⟩, ⟨by decide, rfl⟩, o3, trivial⟩ ?_
  refine ds_ic_ne (show decode mt_X5_choose.2.1 114 = .ok (.if_icmp .ne 7, 3) from ds_dec (i := (114, .if_icmp .ne 7, 3, 0, 0, 0, .int 0)) ok_X5_choose 63 rfl) (t := 121) (by decide) (fun hc => ?_) (fun hc => ?_)
  · replace h := h.1 hc
    refine ds_blk (ls2 := [some (.ref 14), (ds_nl g1), some (.int (v2 + (1 : Int32))), some (.int v3), some (.int (v4 + (-1 : Int32))), some (.int v5), g6, g7]) (st2 := []) (σ2 := (ds_wi σ 18 t1.toNatClampNeg t0)) ok_X5_choose 66 4 121 127 [] rfl rfl rfl rfl trivial ?_
    refine ds_goto (show decode mt_X5_choose.2.1 127 = .ok (.goto (-115), 3) from ds_dec (i := (127, .goto (-115), 3, 0, 0, 0, .int 0)) ok_X5_choose 70 rfl) (t := 12) (by decide) ?_
    exact hK12 (v2 + (1 : Int32)) v3 (v4 + (-1 : Int32)) _ _ _ _ (ds_wi σ 18 t1.toNatClampNeg t0) h
  · replace h := h.2 hc
    refine ds_blk (ls2 := [some (.ref 14), g1, some (.int v2), some (.int v3), some (.int v4), some (.int v5), g6, g7]) (st2 := [.int (0 : Int32), .int v2]) (σ2 := (ds_wi σ 18 t1.toNatClampNeg t0)) ok_X5_choose 64 1 117 118 [] rfl rfl rfl rfl trivial ?_
    refine ds_goto (show decode mt_X5_choose.2.1 118 = .ok (.goto 4, 3) from ds_dec (i := (118, .goto 4, 3, 0, 0, 0, .int 0)) ok_X5_choose 65 rfl) (t := 122) (by decide) ?_
    refine ds_blk (ls2 := [some (.ref 14), (ds_nl g1), some (.int (v2 + (0 : Int32))), some (.int v3), some (.int (v4 + (-1 : Int32))), some (.int v5), g6, g7]) (st2 := []) (σ2 := (ds_wi σ 18 t1.toNatClampNeg t0)) ok_X5_choose 67 3 122 127 [] rfl rfl rfl rfl trivial ?_
    refine ds_goto (show decode mt_X5_choose.2.1 127 = .ok (.goto (-115), 3) from ds_dec (i := (127, .goto (-115), 3, 0, 0, 0, .int 0)) ok_X5_choose 70 rfl) (t := 12) (by decide) ?_
    exact hK12 (v2 + (0 : Int32)) v3 (v4 + (-1 : Int32)) _ _ _ _ (ds_wi σ 18 t1.toNatClampNeg t0) h
def w_X5_choose_62 (v2 : Int32) (v4 : Int32) (v5 : Int32) (v7 : Int32) (t0 : Int32) (σ : ds_S) (Q : Option Value → ds_S → Prop) (K12 : Int32 → Int32 → Int32 → ds_S → Prop) : Prop := (((σ.1 14 6) ≤ v7 → vp_in v5 10 ∧ w_X5_choose_95 v2 t0 v4 v5 (σ.1 64 v5.toNatClampNeg) v5 σ Q K12) ∧ (¬ (σ.1 14 6) ≤ v7 → w_X5_choose_95 v2 t0 v4 v5 (v7 + (1 : Int32)) v5 σ Q K12))
theorem x_X5_choose_62 (v2 : Int32) (v4 : Int32) (v5 : Int32) (v7 : Int32) (t0 : Int32) (g1 : Option Value) (g3 : Option Value) (g6 : Option Value) (σ : ds_S) (Q : Option Value → ds_S → Prop) (K12 : Int32 → Int32 → Int32 → ds_S → Prop) (hK12 : ∀ (v2 : Int32) (v3 : Int32) (v4 : Int32) (g1 : Option Value) (g5 : Option Value) (g6 : Option Value) (g7 : Option Value) (σ2 : ds_S), K12 v2 v3 v4 σ2 → ds_X mt_X5_choose Yc 12 [some (.ref 14), g1, some (.int v2), some (.int v3), some (.int v4), g5, g6, g7] [] σ2 Q) (h : w_X5_choose_62 v2 v4 v5 v7 t0 σ Q K12) : ds_X mt_X5_choose Yc 62 [some (.ref 14), g1, some (.int v2), g3, some (.int v4), some (.int v5), g6, some (.int v7)] [.int t0] σ Q := by
  unfold w_X5_choose_62 at h
  refine ds_blk (ls2 := [some (.ref 14), g1, some (.int v2), some (.int t0), some (.int v4), some (.int v5), g6, some (.int v7)]) (st2 := [.int (σ.1 14 6), .int v7, .int v5, .ref 18]) (σ2 := σ) ok_X5_choose 35 7 62 75 [ds_k Yc 14 5, ds_k Yc 14 5] rfl rfl rfl rfl ⟨⟨by decide, rfl⟩, ⟨by decide, rfl⟩, trivial⟩ ?_
  refine ds_ic_ge (show decode mt_X5_choose.2.1 75 = .ok (.if_icmp .ge 10, 3) from ds_dec (i := (75, .if_icmp .ge 10, 3, 0, 0, 0, .int 0)) ok_X5_choose 42 rfl) (t := 85) (by decide) (fun hc => ?_) (fun hc => ?_)
  · replace h := h.1 hc
    obtain ⟨o1, h⟩ := h
    refine ds_blk (ls2 := [some (.ref 14), g1, some (.int v2), some (.int t0), some (.int v4), some (.int v5), g6, some (.int v7)]) (st2 := [.int (σ.1 64 v5.toNatClampNeg), .int v5, .ref 18]) (σ2 := σ) ok_X5_choose 47 5 85 95 [ds_k Yc 14 5, ds_k Yc 1 1, ds_k Yc 64 10, vp_in v5 10] rfl rfl rfl rfl ⟨⟨by decide, rfl⟩, ⟨by decide, rfl⟩, ⟨by decide, rfl⟩, o1, trivial⟩ ?_
    refine x_X5_choose_95 v2 t0 v4 v5 (σ.1 64 v5.toNatClampNeg) v5 _ _ _ σ Q K12 hK12 h
  · replace h := h.2 hc
    refine ds_blk (ls2 := [some (.ref 14), g1, some (.int v2), some (.int t0), some (.int v4), some (.int v5), g6, some (.int v7)]) (st2 := [.int (v7 + (1 : Int32)), .int v5, .ref 18]) (σ2 := σ) ok_X5_choose 43 3 78 82 [] rfl rfl rfl rfl trivial ?_
    refine ds_goto (show decode mt_X5_choose.2.1 82 = .ok (.goto 13, 3) from ds_dec (i := (82, .goto 13, 3, 0, 0, 0, .int 0)) ok_X5_choose 46 rfl) (t := 95) (by decide) ?_
    refine x_X5_choose_95 v2 t0 v4 v5 (v7 + (1 : Int32)) v5 _ _ _ σ Q K12 hK12 h
def w_X5_choose_47 (v2 : Int32) (v3 : Int32) (v4 : Int32) (v5 : Int32) (v6 : Int32) (t0 : Int32) (σ : ds_S) (Q : Option Value → ds_S → Prop) (K12 : Int32 → Int32 → Int32 → ds_S → Prop) : Prop := ((v6 ≤ 0 → w_X5_choose_62 v2 v4 v5 t0 (0 : Int32) σ Q K12) ∧ (¬ v6 ≤ 0 → ¬ v6 = 0 ∧ w_X5_choose_62 v2 v4 v5 t0 (v3 / v6) σ Q K12))
theorem x_X5_choose_47 (v2 : Int32) (v3 : Int32) (v4 : Int32) (v5 : Int32) (v6 : Int32) (t0 : Int32) (g1 : Option Value) (g7 : Option Value) (σ : ds_S) (Q : Option Value → ds_S → Prop) (K12 : Int32 → Int32 → Int32 → ds_S → Prop) (hK12 : ∀ (v2 : Int32) (v3 : Int32) (v4 : Int32) (g1 : Option Value) (g5 : Option Value) (g6 : Option Value) (g7 : Option Value) (σ2 : ds_S), K12 v2 v3 v4 σ2 → ds_X mt_X5_choose Yc 12 [some (.ref 14), g1, some (.int v2), some (.int v3), some (.int v4), g5, g6, g7] [] σ2 Q) (h : w_X5_choose_47 v2 v3 v4 v5 v6 t0 σ Q K12) : ds_X mt_X5_choose Yc 47 [some (.ref 14), g1, some (.int v2), some (.int v3), some (.int v4), some (.int v5), some (.int v6), g7] [.int t0] σ Q := by
  unfold w_X5_choose_47 at h
  refine ds_blk (ls2 := [some (.ref 14), g1, some (.int v2), some (.int v3), some (.int v4), some (.int v5), some (.int v6), some (.int t0)]) (st2 := [.int v6]) (σ2 := σ) ok_X5_choose 27 2 47 51 [] rfl rfl rfl rfl trivial ?_
  refine ds_if_le (show decode mt_X5_choose.2.1 51 = .ok (.ifCond .le 10, 3) from ds_dec (i := (51, .ifCond .le 10, 3, 0, 0, 0, .int 0)) ok_X5_choose 29 rfl) (t := 61) (by decide) (fun hc => ?_) (fun hc => ?_)
  · replace h := h.1 hc
    refine ds_blk (ls2 := [some (.ref 14), g1, some (.int v2), some (.int v3), some (.int v4), some (.int v5), some (.int v6), some (.int t0)]) (st2 := [.int (0 : Int32)]) (σ2 := σ) ok_X5_choose 34 1 61 62 [] rfl rfl rfl rfl trivial ?_
    refine x_X5_choose_62 v2 v4 v5 t0 (0 : Int32) _ _ _ σ Q K12 hK12 h
  · replace h := h.2 hc
    obtain ⟨o1, h⟩ := h
    refine ds_blk (ls2 := [some (.ref 14), g1, some (.int v2), some (.int v3), some (.int v4), some (.int v5), some (.int v6), some (.int t0)]) (st2 := [.int (v3 / v6)]) (σ2 := σ) ok_X5_choose 30 3 54 58 [¬ v6 = 0] rfl rfl rfl rfl ⟨o1, trivial⟩ ?_
    refine ds_goto (show decode mt_X5_choose.2.1 58 = .ok (.goto 4, 3) from ds_dec (i := (58, .goto 4, 3, 0, 0, 0, .int 0)) ok_X5_choose 33 rfl) (t := 62) (by decide) ?_
    refine x_X5_choose_62 v2 v4 v5 t0 (v3 / v6) _ _ _ σ Q K12 hK12 h
def w_X5_choose_12 : Nat → (v2 : Int32) → (v3 : Int32) → (v4 : Int32) → (σ : ds_S) → (Q : Option Value → ds_S → Prop) → Prop
  | 0, _, _, _, _, _ => False
  | f + 1, v2, v3, v4, σ, Q => ((v4 < 0 → Q (some (.int v2)) σ) ∧ (¬ v4 < 0 → vp_in v4 5 ∧ vp_in (σ.1 17 v4.toNatClampNeg) 10 ∧ (((q_ch (σ.1 64 ((σ.1 17 v4.toNatClampNeg).toNatClampNeg)) (σ.1 14 6)) ≤ 0 → w_X5_choose_47 v2 v3 v4 (σ.1 17 v4.toNatClampNeg) (q_ch (σ.1 64 ((σ.1 17 v4.toNatClampNeg).toNatClampNeg)) (σ.1 14 6)) (0 : Int32) σ Q (fun v2_2 v3_2 v4_2 σ2 => w_X5_choose_12 f v2_2 v3_2 v4_2 σ2 Q)) ∧ (¬ (q_ch (σ.1 64 ((σ.1 17 v4.toNatClampNeg).toNatClampNeg)) (σ.1 14 6)) ≤ 0 → ¬ (q_ch (σ.1 64 ((σ.1 17 v4.toNatClampNeg).toNatClampNeg)) (σ.1 14 6)) = 0 ∧ w_X5_choose_47 v2 v3 v4 (σ.1 17 v4.toNatClampNeg) (q_ch (σ.1 64 ((σ.1 17 v4.toNatClampNeg).toNatClampNeg)) (σ.1 14 6)) (v3 - v3 / (q_ch (σ.1 64 ((σ.1 17 v4.toNatClampNeg).toNatClampNeg)) (σ.1 14 6)) * (q_ch (σ.1 64 ((σ.1 17 v4.toNatClampNeg).toNatClampNeg)) (σ.1 14 6))) σ Q (fun v2_3 v3_3 v4_3 σ3 => w_X5_choose_12 f v2_3 v3_3 v4_3 σ3 Q)))))
theorem x_X5_choose_12 : ∀ (f : Nat) (v2 : Int32) (v3 : Int32) (v4 : Int32) (g1 : Option Value) (g5 : Option Value) (g6 : Option Value) (g7 : Option Value) (σ : ds_S) (Q : Option Value → ds_S → Prop), w_X5_choose_12 f v2 v3 v4 σ Q → ds_X mt_X5_choose Yc 12 [some (.ref 14), g1, some (.int v2), some (.int v3), some (.int v4), g5, g6, g7] [] σ Q := by
  intro f
  induction f with
  | zero => intro v2 v3 v4 g1 g5 g6 g7 σ Q h; exact False.elim h
  | succ f ih =>
    intro v2 v3 v4 g1 g5 g6 g7 σ Q h
    rw [w_X5_choose_12] at h
    refine ds_blk (ls2 := [some (.ref 14), g1, some (.int v2), some (.int v3), some (.int v4), g5, g6, g7]) (st2 := [.int v4]) (σ2 := σ) ok_X5_choose 9 1 12 14 [] rfl rfl rfl rfl trivial ?_
    refine ds_if_lt (show decode mt_X5_choose.2.1 14 = .ok (.ifCond .lt 116, 3) from ds_dec (i := (14, .ifCond .lt 116, 3, 0, 0, 0, .int 0)) ok_X5_choose 10 rfl) (t := 130) (by decide) (fun hc => ?_) (fun hc => ?_)
    · replace h := h.1 hc
      refine ds_blk (ls2 := [some (.ref 14), g1, some (.int v2), some (.int v3), some (.int v4), g5, g6, g7]) (st2 := [.int v2]) (σ2 := σ) ok_X5_choose 71 1 130 131 [] rfl rfl rfl rfl trivial ?_
      exact ds_iret (show decode mt_X5_choose.2.1 131 = .ok (.ireturn, 1) from ds_dec (i := (131, .ireturn, 1, 0, 0, 0, .int 0)) ok_X5_choose 72 rfl) rfl h
    · replace h := h.2 hc
      obtain ⟨o1, h⟩ := h
      refine ds_blk (ls2 := [some (.ref 14), g1, some (.int v2), some (.int v3), some (.int v4), some (.int (σ.1 17 v4.toNatClampNeg)), g6, g7]) (st2 := [.int (σ.1 17 v4.toNatClampNeg), .ref 14]) (σ2 := σ) ok_X5_choose 11 7 17 29 [ds_k Yc 14 5, ds_k Yc 17 10, vp_in v4 5] rfl rfl rfl rfl ⟨⟨by decide, rfl⟩, ⟨by decide, rfl⟩, o1, trivial⟩ ?_
      obtain ⟨o2, h⟩ := h
      refine ds_callV (z := mt_X5_choicesOf) (b := 14) (as := [.int (σ.1 17 v4.toNatClampNeg)]) (rest := []) (show decode mt_X5_choose.2.1 29 = .ok (.invokevirtual 111, 3) from ds_dec (i := (29, .invokevirtual 111, 3, 0, 0, 598, .int 0)) ok_X5_choose 18 rfl) (ds_E.mono (sp_X5_choicesOf (σ.1 17 v4.toNatClampNeg) σ o2) (fun r σ1 hr => ?_)) ⟨zw_X5_choicesOf.1, zw_X5_choicesOf.2.1, zw_X5_choicesOf.2.2, by decide, by decide⟩ (ds_wb_T (p := 598) (by decide +kernel)) zi_X5_choicesOf zs_X5_choicesOf (by decide) rfl ⟨_, rfl, rfl⟩ (Nat.le_of_ble_eq_true rfl)
      obtain ⟨x9, rfl, e8, e9⟩ := hr
      rw [e8, e9]
      show ds_X mt_X5_choose Yc 32 [some (.ref 14), g1, some (.int v2), some (.int v3), some (.int v4), some (.int (σ.1 17 v4.toNatClampNeg)), g6, g7] [.int (q_ch (σ.1 64 ((σ.1 17 v4.toNatClampNeg).toNatClampNeg)) (σ.1 14 6))] σ Q
      refine ds_blk (ls2 := [some (.ref 14), g1, some (.int v2), some (.int v3), some (.int v4), some (.int (σ.1 17 v4.toNatClampNeg)), some (.int (q_ch (σ.1 64 ((σ.1 17 v4.toNatClampNeg).toNatClampNeg)) (σ.1 14 6))), g7]) (st2 := [.int (q_ch (σ.1 64 ((σ.1 17 v4.toNatClampNeg).toNatClampNeg)) (σ.1 14 6))]) (σ2 := σ) ok_X5_choose 19 2 32 36 [] rfl rfl rfl rfl trivial ?_
      refine ds_if_le (show decode mt_X5_choose.2.1 36 = .ok (.ifCond .le 10, 3) from ds_dec (i := (36, .ifCond .le 10, 3, 0, 0, 0, .int 0)) ok_X5_choose 21 rfl) (t := 46) (by decide) (fun hc => ?_) (fun hc => ?_)
      · replace h := h.1 hc
        refine ds_blk (ls2 := [some (.ref 14), g1, some (.int v2), some (.int v3), some (.int v4), some (.int (σ.1 17 v4.toNatClampNeg)), some (.int (q_ch (σ.1 64 ((σ.1 17 v4.toNatClampNeg).toNatClampNeg)) (σ.1 14 6))), g7]) (st2 := [.int (0 : Int32)]) (σ2 := σ) ok_X5_choose 26 1 46 47 [] rfl rfl rfl rfl trivial ?_
        refine x_X5_choose_47 v2 v3 v4 (σ.1 17 v4.toNatClampNeg) (q_ch (σ.1 64 ((σ.1 17 v4.toNatClampNeg).toNatClampNeg)) (σ.1 14 6)) (0 : Int32) _ _ σ Q _ ?_ h
        · intro v2_2 v3_2 v4_2 g1_2 g5_2 g6_2 g7_2 σ2 h
          exact ih v2_2 v3_2 v4_2 _ _ _ _ σ2 Q h
      · replace h := h.2 hc
        obtain ⟨o3, h⟩ := h
        refine ds_blk (ls2 := [some (.ref 14), g1, some (.int v2), some (.int v3), some (.int v4), some (.int (σ.1 17 v4.toNatClampNeg)), some (.int (q_ch (σ.1 64 ((σ.1 17 v4.toNatClampNeg).toNatClampNeg)) (σ.1 14 6))), g7]) (st2 := [.int (v3 - v3 / (q_ch (σ.1 64 ((σ.1 17 v4.toNatClampNeg).toNatClampNeg)) (σ.1 14 6)) * (q_ch (σ.1 64 ((σ.1 17 v4.toNatClampNeg).toNatClampNeg)) (σ.1 14 6)))]) (σ2 := σ) ok_X5_choose 22 3 39 43 [¬ (q_ch (σ.1 64 ((σ.1 17 v4.toNatClampNeg).toNatClampNeg)) (σ.1 14 6)) = 0] rfl rfl rfl rfl ⟨o3, trivial⟩ ?_
        refine ds_goto (show decode mt_X5_choose.2.1 43 = .ok (.goto 4, 3) from ds_dec (i := (43, .goto 4, 3, 0, 0, 0, .int 0)) ok_X5_choose 25 rfl) (t := 47) (by decide) ?_
        refine x_X5_choose_47 v2 v3 v4 (σ.1 17 v4.toNatClampNeg) (q_ch (σ.1 64 ((σ.1 17 v4.toNatClampNeg).toNatClampNeg)) (σ.1 14 6)) (v3 - v3 / (q_ch (σ.1 64 ((σ.1 17 v4.toNatClampNeg).toNatClampNeg)) (σ.1 14 6)) * (q_ch (σ.1 64 ((σ.1 17 v4.toNatClampNeg).toNatClampNeg)) (σ.1 14 6))) _ _ σ Q _ ?_ h
        · intro v2_3 v3_3 v4_3 g1_3 g5_3 g6_3 g7_3 σ3 h
          exact ih v2_3 v3_3 v4_3 _ _ _ _ σ3 Q h
def w_X5_choose (a1 : Int32) (σ : ds_S) (Q : Option Value → ds_S → Prop) : Prop := ∃ n, w_X5_choose_12 n (0 : Int32) a1 ((σ.1 14 7) - (1 : Int32)) σ Q
theorem e_X5_choose (a1 : Int32) (σ : ds_S) (Q : Option Value → ds_S → Prop) (h : w_X5_choose a1 σ Q) : ds_E mt_X5_choose Yc [.ref 14, .int a1] σ Q := by
  refine ds_enter (by decide) (Nat.le_of_ble_eq_true rfl) ?_
  show ds_X mt_X5_choose Yc 0 [some (.ref 14), some (.int a1), none, none, none, none, none, none] [] σ Q
  unfold w_X5_choose at h
  refine ds_blk (ls2 := [some (.ref 14), some (.int a1), some (.int (0 : Int32)), some (.int a1), some (.int ((σ.1 14 7) - (1 : Int32))), none, none, none]) (st2 := []) (σ2 := σ) ok_X5_choose 0 9 0 12 [ds_k Yc 14 5] rfl rfl rfl rfl ⟨⟨by decide, rfl⟩, trivial⟩ ?_
  obtain ⟨n, h⟩ := h
  refine x_X5_choose_12 n (0 : Int32) a1 ((σ.1 14 7) - (1 : Int32)) _ _ _ _ σ Q h
def w_X5_isBetter_49 (v1 : Int32) (v2 : Int32) (v3 : Int32) (t0 : Int32) (σ : ds_S) (Q : Option Value → ds_S → Prop) (K17 : Int32 → Int32 → Int32 → ds_S → Prop) : Prop := ds_EV mt_X6_addNet Yc [.ref 12, .ref 18, .int t0, .int (σ.1 14 9), .ref 19] σ (fun σ1 => ((0 < (q_cmp ((σ1.2 19 0) * (σ1.1 16 1).toInt64) ((σ1.2 16 0) * (σ1.1 19 1).toInt64)) → Q (some (.int (0 : Int32))) (ds_wi σ1 14 10 t0)) ∧ (¬ 0 < (q_cmp ((σ1.2 19 0) * (σ1.1 16 1).toInt64) ((σ1.2 16 0) * (σ1.1 19 1).toInt64)) → ((¬ (q_cmp ((σ1.2 19 0) * (σ1.1 16 1).toInt64) ((σ1.2 16 0) * (σ1.1 19 1).toInt64)) = 0 → K17 v1 v2 (v3 + (1 : Int32)) σ1) ∧ ((q_cmp ((σ1.2 19 0) * (σ1.1 16 1).toInt64) ((σ1.2 16 0) * (σ1.1 19 1).toInt64)) = 0 → ((v1 < (σ1.1 14 3) → K17 v1 v2 (v3 + (1 : Int32)) σ1) ∧ (¬ v1 < (σ1.1 14 3) → Q (some (.int (0 : Int32))) (ds_wi σ1 14 10 t0))))))))
theorem x_X5_isBetter_49 (v1 : Int32) (v2 : Int32) (v3 : Int32) (t0 : Int32) (g4 : Option Value) (g5 : Option Value) (σ : ds_S) (Q : Option Value → ds_S → Prop) (K17 : Int32 → Int32 → Int32 → ds_S → Prop) (hK17 : ∀ (v1 : Int32) (v2 : Int32) (v3 : Int32) (g4 : Option Value) (g5 : Option Value) (σ2 : ds_S), K17 v1 v2 v3 σ2 → ds_X mt_X5_isBetter Yc 17 [some (.ref 14), some (.int v1), some (.int v2), some (.int v3), g4, g5] [] σ2 Q) (h : w_X5_isBetter_49 v1 v2 v3 t0 σ Q K17) : ds_X mt_X5_isBetter Yc 49 [some (.ref 14), some (.int v1), some (.int v2), some (.int v3), g4, g5] [.int t0] σ Q := by
  unfold w_X5_isBetter_49 at h
  refine ds_blk (ls2 := [some (.ref 14), some (.int v1), some (.int v2), some (.int v3), some (.int t0), g5]) (st2 := [.ref 19, .int (σ.1 14 9), .int t0, .ref 18, .ref 12]) (σ2 := σ) ok_X5_isBetter 29 10 49 69 [ds_k Yc 14 5, ds_k Yc 14 5, ds_k Yc 14 5, ds_k Yc 14 5] rfl rfl rfl rfl ⟨⟨by decide, rfl⟩, ⟨by decide, rfl⟩, ⟨by decide, rfl⟩, ⟨by decide, rfl⟩, trivial⟩ ?_
  refine ds_callV (z := mt_X6_addNet) (b := 12) (as := [.ref 18, .int t0, .int (σ.1 14 9), .ref 19]) (rest := []) (show decode mt_X5_isBetter.2.1 69 = .ok (.invokevirtual 120, 3) from ds_dec (i := (69, .invokevirtual 120, 3, 0, 0, 612, .int 0)) ok_X5_isBetter 39 rfl) (ds_E.mono h (fun r σ1 hr => ?_)) ⟨zw_X6_addNet.1, zw_X6_addNet.2.1, zw_X6_addNet.2.2, by decide, by decide⟩ (ds_wb_T (p := 612) (by decide +kernel)) zi_X6_addNet zs_X6_addNet (by decide) rfl ⟨_, rfl, rfl⟩ (Nat.le_of_ble_eq_true rfl)
  obtain ⟨rfl, h⟩ := hr
  show ds_X mt_X5_isBetter Yc 72 [some (.ref 14), some (.int v1), some (.int v2), some (.int v3), some (.int t0), g5] [] σ1 Q
  refine ds_blk (ls2 := [some (.ref 14), some (.int v1), some (.int v2), some (.int v3), some (.int t0), g5]) (st2 := [.ref 16, .ref 19]) (σ2 := σ1) ok_X5_isBetter 40 4 72 80 [ds_k Yc 14 5, ds_k Yc 14 5] rfl rfl rfl rfl ⟨⟨by decide, rfl⟩, ⟨by decide, rfl⟩, trivial⟩ ?_
  refine ds_callV (z := mt_X3_compareWith) (b := 19) (as := [.ref 16]) (rest := []) (show decode mt_X5_isBetter.2.1 80 = .ok (.invokevirtual 124, 3) from ds_dec (i := (80, .invokevirtual 124, 3, 0, 0, 613, .int 0)) ok_X5_isBetter 44 rfl) (ds_E.mono (sp_X3_compareWith 19 16 σ1 ⟨by decide, rfl⟩ ⟨by decide, rfl⟩) (fun r σ2 hr => ?_)) ⟨zw_X3_compareWith.1, zw_X3_compareWith.2.1, zw_X3_compareWith.2.2, by decide, by decide⟩ (ds_wb_T (p := 613) (by decide +kernel)) zi_X3_compareWith zs_X3_compareWith (by decide) rfl ⟨_, rfl, rfl⟩ (Nat.le_of_ble_eq_true rfl)
  obtain ⟨x9, rfl, e8, e9⟩ := hr
  rw [e8, e9]
  show ds_X mt_X5_isBetter Yc 83 [some (.ref 14), some (.int v1), some (.int v2), some (.int v3), some (.int t0), g5] [.int (q_cmp ((σ1.2 19 0) * (σ1.1 16 1).toInt64) ((σ1.2 16 0) * (σ1.1 19 1).toInt64))] σ1 Q
  refine ds_blk (ls2 := [some (.ref 14), some (.int v1), some (.int v2), some (.int v3), some (.int t0), some (.int (q_cmp ((σ1.2 19 0) * (σ1.1 16 1).toInt64) ((σ1.2 16 0) * (σ1.1 19 1).toInt64)))]) (st2 := [.int (q_cmp ((σ1.2 19 0) * (σ1.1 16 1).toInt64) ((σ1.2 16 0) * (σ1.1 19 1).toInt64))]) (σ2 := σ1) ok_X5_isBetter 45 2 83 87 [] rfl rfl rfl rfl trivial ?_
  refine ds_if_gt (show decode mt_X5_isBetter.2.1 87 = .ok (.ifCond .gt 16, 3) from ds_dec (i := (87, .ifCond .gt 16, 3, 0, 0, 0, .int 0)) ok_X5_isBetter 47 rfl) (t := 103) (by decide) (fun hc => ?_) (fun hc => ?_)
  · replace h := h.1 hc
    refine ds_blk (ls2 := [some (.ref 14), some (.int v1), some (.int v2), some (.int v3), some (.int t0), some (.int (q_cmp ((σ1.2 19 0) * (σ1.1 16 1).toInt64) ((σ1.2 16 0) * (σ1.1 19 1).toInt64)))]) (st2 := [.int (0 : Int32)]) (σ2 := (ds_wi σ1 14 10 t0)) ok_X5_isBetter 54 4 103 110 [ds_k Yc 14 5] rfl rfl rfl rfl ⟨⟨by decide, rfl⟩, trivial⟩ ?_
    exact ds_zret (show decode mt_X5_isBetter.2.1 110 = .ok (.ireturn, 1) from ds_dec (i := (110, .ireturn, 1, 0, 0, 0, .int 0)) ok_X5_isBetter 58 rfl) rfl (by decide) h
  · replace h := h.2 hc
    refine ds_blk (ls2 := [some (.ref 14), some (.int v1), some (.int v2), some (.int v3), some (.int t0), some (.int (q_cmp ((σ1.2 19 0) * (σ1.1 16 1).toInt64) ((σ1.2 16 0) * (σ1.1 19 1).toInt64)))]) (st2 := [.int (q_cmp ((σ1.2 19 0) * (σ1.1 16 1).toInt64) ((σ1.2 16 0) * (σ1.1 19 1).toInt64))]) (σ2 := σ1) ok_X5_isBetter 48 1 90 92 [] rfl rfl rfl rfl trivial ?_
    refine ds_if_ne (show decode mt_X5_isBetter.2.1 92 = .ok (.ifCond .ne 19, 3) from ds_dec (i := (92, .ifCond .ne 19, 3, 0, 0, 0, .int 0)) ok_X5_isBetter 49 rfl) (t := 111) (by decide) (fun hc => ?_) (fun hc => ?_)
    · replace h := h.1 hc
      refine ds_blk (ls2 := [some (.ref 14), some (.int v1), some (.int v2), some (.int (v3 + (1 : Int32))), some (.int t0), some (.int (q_cmp ((σ1.2 19 0) * (σ1.1 16 1).toInt64) ((σ1.2 16 0) * (σ1.1 19 1).toInt64)))]) (st2 := []) (σ2 := σ1) ok_X5_isBetter 59 1 111 114 [] rfl rfl rfl rfl trivial ?_
      refine ds_goto (show decode mt_X5_isBetter.2.1 114 = .ok (.goto (-97), 3) from ds_dec (i := (114, .goto (-97), 3, 0, 0, 0, .int 0)) ok_X5_isBetter 60 rfl) (t := 17) (by decide) ?_
      exact hK17 v1 v2 (v3 + (1 : Int32)) _ _ σ1 h
    · replace h := h.2 hc
      refine ds_blk (ls2 := [some (.ref 14), some (.int v1), some (.int v2), some (.int v3), some (.int t0), some (.int (q_cmp ((σ1.2 19 0) * (σ1.1 16 1).toInt64) ((σ1.2 16 0) * (σ1.1 19 1).toInt64)))]) (st2 := [.int (σ1.1 14 3), .int v1]) (σ2 := σ1) ok_X5_isBetter 50 3 95 100 [ds_k Yc 14 5] rfl rfl rfl rfl ⟨⟨by decide, rfl⟩, trivial⟩ ?_
      refine ds_ic_lt (show decode mt_X5_isBetter.2.1 100 = .ok (.if_icmp .lt 11, 3) from ds_dec (i := (100, .if_icmp .lt 11, 3, 0, 0, 0, .int 0)) ok_X5_isBetter 53 rfl) (t := 111) (by decide) (fun hc => ?_) (fun hc => ?_)
      · replace h := h.1 hc
        refine ds_blk (ls2 := [some (.ref 14), some (.int v1), some (.int v2), some (.int (v3 + (1 : Int32))), some (.int t0), some (.int (q_cmp ((σ1.2 19 0) * (σ1.1 16 1).toInt64) ((σ1.2 16 0) * (σ1.1 19 1).toInt64)))]) (st2 := []) (σ2 := σ1) ok_X5_isBetter 59 1 111 114 [] rfl rfl rfl rfl trivial ?_
        refine ds_goto (show decode mt_X5_isBetter.2.1 114 = .ok (.goto (-97), 3) from ds_dec (i := (114, .goto (-97), 3, 0, 0, 0, .int 0)) ok_X5_isBetter 60 rfl) (t := 17) (by decide) ?_
        exact hK17 v1 v2 (v3 + (1 : Int32)) _ _ σ1 h
      · replace h := h.2 hc
        refine ds_blk (ls2 := [some (.ref 14), some (.int v1), some (.int v2), some (.int v3), some (.int t0), some (.int (q_cmp ((σ1.2 19 0) * (σ1.1 16 1).toInt64) ((σ1.2 16 0) * (σ1.1 19 1).toInt64)))]) (st2 := [.int (0 : Int32)]) (σ2 := (ds_wi σ1 14 10 t0)) ok_X5_isBetter 54 4 103 110 [ds_k Yc 14 5] rfl rfl rfl rfl ⟨⟨by decide, rfl⟩, trivial⟩ ?_
        exact ds_zret (show decode mt_X5_isBetter.2.1 110 = .ok (.ireturn, 1) from ds_dec (i := (110, .ireturn, 1, 0, 0, 0, .int 0)) ok_X5_isBetter 58 rfl) rfl (by decide) h
def w_X5_isBetter_17 : Nat → (v1 : Int32) → (v2 : Int32) → (v3 : Int32) → (σ : ds_S) → (Q : Option Value → ds_S → Prop) → Prop
  | 0, _, _, _, _, _ => False
  | f + 1, v1, v2, v3, σ, Q => ((v2 ≤ v3 → Q (some (.int (1 : Int32))) σ) ∧ (¬ v2 ≤ v3 → ((v2 ≤ ((σ.1 14 10) + v3) → w_X5_isBetter_49 v1 v2 v3 (((σ.1 14 10) + v3) - v2) σ Q (fun v1_1 v2_1 v3_1 σ1 => w_X5_isBetter_17 f v1_1 v2_1 v3_1 σ1 Q)) ∧ (¬ v2 ≤ ((σ.1 14 10) + v3) → w_X5_isBetter_49 v1 v2 v3 ((σ.1 14 10) + v3) σ Q (fun v1_2 v2_2 v3_2 σ2 => w_X5_isBetter_17 f v1_2 v2_2 v3_2 σ2 Q)))))
theorem x_X5_isBetter_17 : ∀ (f : Nat) (v1 : Int32) (v2 : Int32) (v3 : Int32) (g4 : Option Value) (g5 : Option Value) (σ : ds_S) (Q : Option Value → ds_S → Prop), w_X5_isBetter_17 f v1 v2 v3 σ Q → ds_X mt_X5_isBetter Yc 17 [some (.ref 14), some (.int v1), some (.int v2), some (.int v3), g4, g5] [] σ Q := by
  intro f
  induction f with
  | zero => intro v1 v2 v3 g4 g5 σ Q h; exact False.elim h
  | succ f ih =>
    intro v1 v2 v3 g4 g5 σ Q h
    rw [w_X5_isBetter_17] at h
    refine ds_blk (ls2 := [some (.ref 14), some (.int v1), some (.int v2), some (.int v3), g4, g5]) (st2 := [.int v2, .int v3]) (σ2 := σ) ok_X5_isBetter 9 2 17 19 [] rfl rfl rfl rfl trivial ?_
    refine ds_ic_ge (show decode mt_X5_isBetter.2.1 19 = .ok (.if_icmp .ge 98, 3) from ds_dec (i := (19, .if_icmp .ge 98, 3, 0, 0, 0, .int 0)) ok_X5_isBetter 11 rfl) (t := 117) (by decide) (fun hc => ?_) (fun hc => ?_)
    · replace h := h.1 hc
      refine ds_blk (ls2 := [some (.ref 14), some (.int v1), some (.int v2), some (.int v3), g4, g5]) (st2 := [.int (1 : Int32)]) (σ2 := σ) ok_X5_isBetter 61 1 117 118 [] rfl rfl rfl rfl trivial ?_
      exact ds_zret (show decode mt_X5_isBetter.2.1 118 = .ok (.ireturn, 1) from ds_dec (i := (118, .ireturn, 1, 0, 0, 0, .int 0)) ok_X5_isBetter 62 rfl) rfl (by decide) h
    · replace h := h.2 hc
      refine ds_blk (ls2 := [some (.ref 14), some (.int v1), some (.int v2), some (.int v3), g4, g5]) (st2 := [.int v2, .int ((σ.1 14 10) + v3)]) (σ2 := σ) ok_X5_isBetter 12 5 22 29 [ds_k Yc 14 5] rfl rfl rfl rfl ⟨⟨by decide, rfl⟩, trivial⟩ ?_
      refine ds_ic_ge (show decode mt_X5_isBetter.2.1 29 = .ok (.if_icmp .ge 12, 3) from ds_dec (i := (29, .if_icmp .ge 12, 3, 0, 0, 0, .int 0)) ok_X5_isBetter 17 rfl) (t := 41) (by decide) (fun hc => ?_) (fun hc => ?_)
      · replace h := h.1 hc
        refine ds_blk (ls2 := [some (.ref 14), some (.int v1), some (.int v2), some (.int v3), g4, g5]) (st2 := [.int (((σ.1 14 10) + v3) - v2)]) (σ2 := σ) ok_X5_isBetter 23 6 41 49 [ds_k Yc 14 5] rfl rfl rfl rfl ⟨⟨by decide, rfl⟩, trivial⟩ ?_
        refine x_X5_isBetter_49 v1 v2 v3 (((σ.1 14 10) + v3) - v2) _ _ σ Q _ ?_ h
        · intro v1_1 v2_1 v3_1 g4_1 g5_1 σ1 h
          exact ih v1_1 v2_1 v3_1 _ _ σ1 Q h
      · replace h := h.2 hc
        refine ds_blk (ls2 := [some (.ref 14), some (.int v1), some (.int v2), some (.int v3), g4, g5]) (st2 := [.int ((σ.1 14 10) + v3)]) (σ2 := σ) ok_X5_isBetter 18 4 32 38 [ds_k Yc 14 5] rfl rfl rfl rfl ⟨⟨by decide, rfl⟩, trivial⟩ ?_
        refine ds_goto (show decode mt_X5_isBetter.2.1 38 = .ok (.goto 11, 3) from ds_dec (i := (38, .goto 11, 3, 0, 0, 0, .int 0)) ok_X5_isBetter 22 rfl) (t := 49) (by decide) ?_
        refine x_X5_isBetter_49 v1 v2 v3 ((σ.1 14 10) + v3) _ _ σ Q _ ?_ h
        · intro v1_2 v2_2 v3_2 g4_2 g5_2 σ2 h
          exact ih v1_2 v2_2 v3_2 _ _ σ2 Q h
def w_X5_isBetter (a1 : Int32) (σ : ds_S) (Q : Option Value → ds_S → Prop) : Prop := ds_EV mt_X3_clear Yc [.ref 19] σ (fun σ1 => ∃ n, w_X5_isBetter_17 n a1 (q_cn (σ1.1 12 2) (σ1.1 1 1)) (0 : Int32) σ1 Q)
theorem e_X5_isBetter (a1 : Int32) (σ : ds_S) (Q : Option Value → ds_S → Prop) (h : w_X5_isBetter a1 σ Q) : ds_E mt_X5_isBetter Yc [.ref 14, .int a1] σ Q := by
  refine ds_enter (by decide) (Nat.le_of_ble_eq_true rfl) ?_
  show ds_X mt_X5_isBetter Yc 0 [some (.ref 14), some (.int a1), none, none, none, none] [] σ Q
  unfold w_X5_isBetter at h
  refine ds_blk (ls2 := [some (.ref 14), some (.int a1), none, none, none, none]) (st2 := [.ref 19]) (σ2 := σ) ok_X5_isBetter 0 2 0 4 [ds_k Yc 14 5] rfl rfl rfl rfl ⟨⟨by decide, rfl⟩, trivial⟩ ?_
  refine ds_callV (z := mt_X3_clear) (b := 19) (as := []) (rest := []) (show decode mt_X5_isBetter.2.1 4 = .ok (.invokevirtual 114, 3) from ds_dec (i := (4, .invokevirtual 114, 3, 0, 0, 610, .int 0)) ok_X5_isBetter 2 rfl) (ds_E.mono h (fun r σ1 hr => ?_)) ⟨zw_X3_clear.1, zw_X3_clear.2.1, zw_X3_clear.2.2, by decide, by decide⟩ (ds_wb_T (p := 610) (by decide +kernel)) zi_X3_clear zs_X3_clear (by decide) rfl ⟨_, rfl, rfl⟩ (Nat.le_of_ble_eq_true rfl)
  obtain ⟨rfl, h⟩ := hr
  show ds_X mt_X5_isBetter Yc 7 [some (.ref 14), some (.int a1), none, none, none, none] [] σ1 Q
  refine ds_blk (ls2 := [some (.ref 14), some (.int a1), none, none, none, none]) (st2 := [.ref 12]) (σ2 := σ1) ok_X5_isBetter 3 2 7 11 [ds_k Yc 14 5] rfl rfl rfl rfl ⟨⟨by decide, rfl⟩, trivial⟩ ?_
  refine ds_callV (z := mt_X6_countNets) (b := 12) (as := []) (rest := []) (show decode mt_X5_isBetter.2.1 11 = .ok (.invokevirtual 117, 3) from ds_dec (i := (11, .invokevirtual 117, 3, 0, 0, 611, .int 0)) ok_X5_isBetter 5 rfl) (ds_E.mono (sp_X6_countNets  σ1 ) (fun r σ2 hr => ?_)) ⟨zw_X6_countNets.1, zw_X6_countNets.2.1, zw_X6_countNets.2.2, by decide, by decide⟩ (ds_wb_T (p := 611) (by decide +kernel)) zi_X6_countNets zs_X6_countNets (by decide) rfl ⟨_, rfl, rfl⟩ (Nat.le_of_ble_eq_true rfl)
  obtain ⟨x9, rfl, e8, e9⟩ := hr
  rw [e8, e9]
  show ds_X mt_X5_isBetter Yc 14 [some (.ref 14), some (.int a1), none, none, none, none] [.int (q_cn (σ1.1 12 2) (σ1.1 1 1))] σ1 Q
  refine ds_blk (ls2 := [some (.ref 14), some (.int a1), some (.int (q_cn (σ1.1 12 2) (σ1.1 1 1))), some (.int (0 : Int32)), none, none]) (st2 := []) (σ2 := σ1) ok_X5_isBetter 6 3 14 17 [] rfl rfl rfl rfl trivial ?_
  obtain ⟨n, h⟩ := h
  refine x_X5_isBetter_17 n a1 (q_cn (σ1.1 12 2) (σ1.1 1 1)) (0 : Int32) _ _ σ1 Q h
