/-! the law's start: what the tables say -/
theorem lj_over {A : Array Value} {s : State} (h : (Cond.arrayOver (.array .int)).before A s = true) : ∃ (q c : ClassId) (kA : Class), s.vm.findClass (FieldType.array .int).toString = some q ∧ s.vm.classes[c]? = some kA ∧ kA.kind = .array q (.array .int) ∧ s.vm.findClass ("[" ++ (FieldType.array .int).toString) = some c := by
  simp only [Cond.before, Cond.holds, Cond.value, beq_iff_eq] at h
  cases hq : s.vm.findClass (FieldType.array .int).toString with
  | none => rw [hq] at h; simp at h
  | some q =>
    rw [hq] at h
    simp only [Option.bind_some, Option.bind_eq_some_iff, Option.map_eq_some_iff] at h
    obtain ⟨c, g1, kA, g2, g3⟩ := h
    have g4 := (Array.findIdx?_eq_some_iff_getElem.mp g1).2.1
    have g5 := (Array.getElem?_eq_some_iff.mp g2).2
    rw [g5] at g4
    refine ⟨q, c, kA, rfl, g2, ?_⟩
    cases g6 : kA.kind with
    | array r ty =>
      rw [g6] at g3 g4
      simp only [Bool.and_eq_true, decide_eq_true_eq] at g3
      simp only [beq_iff_eq] at g4
      exact ⟨by rw [g3.1, g4], g3.2⟩
    | _ => rw [g6] at g3; simp at g3
theorem lj_arr {A : Array Value} {s : State} {ty : FieldType} (h : (Cond.arrayClass ty).before A s = true) : ∃ c : ClassId, ArrOfT s c ty ∧ s.vm.findClass ("[" ++ ty.toString) = some c := by
  obtain ⟨c, kA, q, g1, g2, g3⟩ := Cond.arrayClass_spec h
  exact ⟨c, fun n z => ⟨fun j hj => (by cases hj), kA, g2, q, g3⟩, g1⟩
set_option maxRecDepth 100000 in
theorem lj_nestC : ∀ q ∈ ds_N, Cond.methodLinkNest q.1 q.2.1 q.2.2 "WayWeights" ∈ tables_1 := by decide +kernel
set_option maxRecDepth 100000 in
theorem lj_nestD : ∀ q ∈ di_N, Cond.methodLinkNest q.1 q.2.1 q.2.2 "WayWeights" ∈ tables_1 := by decide +kernel
set_option maxRecDepth 100000 in
theorem lj_ovI : Cond.arrayOver (.array .int) ∈ tables_1 := by decide +kernel
set_option maxRecDepth 100000 in
theorem lj_ovW : Cond.arrayOver (.object "WayWeights$Ways") ∈ tables_1 := by decide +kernel
theorem lj_known {A : Array Value} {s : State} (hts : ∀ w ∈ lw_tbl, w.before A s = true) : ∃ (cy : Nat → ClassId) (dC : Nat → ClassId) (dI : Nat → Nat → Nat), va_K (dC, dI) vwCl (ds_ty cy) s ∧ di_Z cy s ∧ ds_nest s := by
  have hT : ∀ w ∈ ds_T, w.before A s = true := fun w h => hts w (List.mem_filter.mp h).1
  have h1 : ∀ w ∈ tables_1, w.before A s = true := fun w h => hts w (List.mem_append_right _ h)
  obtain ⟨c0, i0, k0⟩ := u_known (C := RX0) (T := TX0) (N := 2) (n := 2) hts inX0 (hT _ zt_X0)
  obtain ⟨c1, i1, k1⟩ := u_known (C := RX1) (T := TX1) (N := 8) (n := 8) hts inX1 (hT _ zt_X1)
  obtain ⟨c2, i2, k2⟩ := u_known (C := RX2) (T := TX2) (N := 5) (n := 5) hts inX2 (hT _ zt_X2)
  obtain ⟨c3, i3, k3⟩ := u_known (C := RX3) (T := TX3) (N := 6) (n := 6) hts inX3 (hT _ zt_X3)
  obtain ⟨c4, i4, k4⟩ := u_known (C := RX4) (T := TX4) (N := 1) (n := 1) hts inX4 (hT _ zt_X4)
  obtain ⟨c5, i5, k5⟩ := u_known (C := RX5) (T := TX5) (N := 13) (n := 13) hts inX5 (hT _ zt_X5)
  obtain ⟨c6, i6, k6⟩ := u_known (C := RX6) (T := TX6) (N := 6) (n := 6) hts inX6 (hT _ zt_X6)
  obtain ⟨c7, i7, k7⟩ := u_known (C := RX7) (T := TX7) (N := 6) (n := 6) hts inX7 (hT _ zt_X7)
  obtain ⟨c8, i8, k8⟩ := u_known (C := RX8) (T := TX8) (N := 9) (n := 9) hts inX8 (hT _ zt_X8)
  obtain ⟨c9, i9, k9⟩ := u_known (C := RX9) (T := TX9) (N := 33) (n := 33) hts inX9 (hT _ zt_X9)
  obtain ⟨aI, gI, fI⟩ := lj_arr (hT _ di_acI)
  obtain ⟨aL, gL, fL⟩ := lj_arr (hT _ di_acL)
  obtain ⟨aZ, gZ, fZ⟩ := lj_arr (hT _ di_acZ)
  obtain ⟨qW, aW, kW, w1, w2, w3, w4, w5⟩ := Cond.arrayOver_spec (h1 _ lj_ovW)
  obtain ⟨qA, aA, kA, v1, v2, v3, v4⟩ := lj_over (h1 _ lj_ovI)
  have eA : qA = aI := Option.some.inj (v1.symm.trans fI)
  subst eA
  refine ⟨fun j => if j = 10 then qA else if j = 11 then aL else if j = 12 then aZ else if j = 13 then aW else aA, fun j => ([c0, c1, c2, c3, c4, c5, c6, c7, c8, c9] : List ClassId).getD j c0, fun j => ([i0, i1, i2, i3, i4, i5, i6, i7, i8, i9] : List (Nat → Nat)).getD j i0, ⟨fun j q hq => ?_, fun j q hq => ?_⟩, ⟨fun q hq => va_Nw.of rfl (h1 _ (lj_nestD q hq)), va_AO.of (h1 _ lj_ovW), ⟨kA, v2, v3⟩⟩, fun q hq => va_Nw.of rfl (h1 _ (lj_nestC q hq))⟩
  · match j, hq with
    | 0, hq => cases hq; exact k0
    | 1, hq => cases hq; exact k1
    | 2, hq => cases hq; exact k2
    | 3, hq => cases hq; exact k3
    | 4, hq => cases hq; exact k4
    | 5, hq => cases hq; exact k5
    | 6, hq => cases hq; exact k6
    | 7, hq => cases hq; exact k7
    | 8, hq => cases hq; exact k8
    | 9, hq => cases hq; exact k9
    | j + 10, hq => simp [vwCl] at hq
  · match j, hq with
    | 0, hq => cases hq; exact ⟨gI, fI⟩
    | 1, hq => cases hq; exact ⟨gL, fL⟩
    | 2, hq => cases hq; exact ⟨gZ, fZ⟩
    | 3, hq => cases hq; exact ⟨fun n z => ⟨fun j hj => (by cases hj), kW, w3, qW, w4⟩, kW, qW, w3, w4, w1, w5⟩
    | 4, hq => cases hq; exact ⟨fun n z => ⟨fun j hj => (by cases hj), kA, v2, qA, v3⟩, v4⟩
    | j + 5, hq => simp [ds_ty] at hq
