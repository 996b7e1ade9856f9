theorem news_two {N : Nt} (hN : Nok N) {σC σM : ds_S} (hC : RepC N σC) (hM : RepM N σM) (a b : Int32) : (∃ r : Int32, (r = -1 ∨ r = -2 ∨ r = -3) ∧ (∀ K : Int32 → ds_S → Prop, K r σC → ds_EI mt_X8_refusalOfNews Yc [.ref 0, .int a, .int b] σC K) ∧ (∀ K : Int32 → ds_S → Prop, K r σM → ds_EI mt_X9_whyNot Ym [.ref 0, .int a, .int b] σM K)) ∨ (∃ l u, a = nI l ∧ b = nI u ∧ l < N 0 7 ∧ 1 ≤ u ∧ u ≤ 20 ∧ (∀ K : Int32 → ds_S → Prop, K 0 σC → ds_EI mt_X8_refusalOfNews Yc [.ref 0, .int a, .int b] σC K) ∧ (∀ K : Int32 → ds_S → Prop, K 0 σM → ds_EI mt_X9_whyNot Ym [.ref 0, .int a, .int b] σM K)) := by
  have m10 := hN.2.1
  have c1 := hC.2.1
  have bl : q_bx a (σM.1 0 7) = q_rng a 0 (nI (N 0 7)) := by rw [hM.2.1, q_bx_rng (by omega)]
  rcases rc0 (hi := N 0 7) (by omega) a with h1 | ⟨h1, l, hl, rfl⟩
  · left
    refine ⟨-1, Or.inl rfl, fun K hK => ?_, fun K hK => ?_⟩
    · exact e_X8_refusalOfNews a b σC _ ⟨fun h => absurd (by rw [c1]; exact h1) h, fun _ => ⟨_, rfl, hK⟩⟩
    · exact e_X9_whyNot a b σM _ ⟨fun h => absurd (by rw [bl]; exact h1) h, fun _ => ⟨_, rfl, hK⟩⟩
  · have x1 : ¬ q_rng (nI l) 0 (σC.1 1 1) = 0 := by rw [c1, h1]; decide
    have x2 : ¬ q_bx (nI l) (σM.1 0 7) = 0 := by rw [bl, h1]; decide
    have eb : q_in b.toInt64 1 20 = q_rng b 1 21 := q_in_1_20 b
    rcases rcl 1 21 (by decide) (by decide) b with h2 | ⟨h2, u, hu1, hu2, rfl⟩
    · left
      refine ⟨-2, Or.inr (Or.inl rfl), fun K hK => ?_, fun K hK => ?_⟩
      · exact e_X8_refusalOfNews (nI l) b σC _ ⟨fun _ => ⟨fun h => absurd h2 h, fun _ => ⟨_, rfl, hK⟩⟩, fun h => absurd h x1⟩
      · exact e_X9_whyNot (nI l) b σM _ ⟨fun _ => ⟨fun h => absurd (by rw [eb]; exact h2) h, fun _ => ⟨_, rfl, hK⟩⟩, fun h => absurd h x2⟩
    · have x3 : ¬ q_rng (nI u) 1 21 = 0 := by rw [show q_rng (nI u) 1 21 = 1 from h2]; decide
      have x4 : ¬ q_in (nI u).toInt64 1 20 = 0 := by rw [eb]; exact x3
      have s6 : ∀ l, l < N 0 7 → N 6 l ≤ 1 := fun l h => (hN.2.2.1 l h).2.2.2.2.2.2.2.2
      have q6 : q_bit (σC.1 1 7) (nI l) = nI (N 6 l) := by rw [hC.2.2.2.2.1]; exact bitl m10 s6 hl
      have m6 : σM.1 6 l = nI (N 6 l) := (hM.2.2.1 l hl).2.2.2.2.2
      have a6 := s6 l hl
      have vl : vp_in (nI l) 10 := vp_in_nI (by omega) (by decide)
      rcases (show N 6 l = 0 ∨ N 6 l = 1 by omega) with z | z
      · right
        refine ⟨l, u, rfl, rfl, hl, hu1, by omega, fun K hK => ?_, fun K hK => ?_⟩
        · exact e_X8_refusalOfNews (nI l) (nI u) σC _ ⟨fun _ => ⟨fun _ => ⟨fun _ => ⟨_, rfl, hK⟩, fun h => absurd h (by rw [q6, z]; decide)⟩, fun h => absurd h x3⟩, fun h => absurd h x1⟩
        · refine e_X9_whyNot (nI l) (nI u) σM _ ⟨fun _ => ⟨fun _ => ⟨vl, ?_⟩, fun h => absurd h x4⟩, fun h => absurd h x2⟩
          rw [nI_clamp (n := l) (by omega), m6, z]
          exact ⟨fun _ => ⟨_, rfl, hK⟩, fun h => absurd rfl h⟩
      · left
        refine ⟨-3, Or.inr (Or.inr rfl), fun K hK => ?_, fun K hK => ?_⟩
        · exact e_X8_refusalOfNews (nI l) (nI u) σC _ ⟨fun _ => ⟨fun _ => ⟨fun h => absurd (by rw [q6, z]; rfl) h, fun _ => ⟨_, rfl, hK⟩⟩, fun h => absurd h x3⟩, fun h => absurd h x1⟩
        · refine e_X9_whyNot (nI l) (nI u) σM _ ⟨fun _ => ⟨fun _ => ⟨vl, ?_⟩, fun h => absurd h x4⟩, fun h => absurd h x2⟩
          rw [nI_clamp (n := l) (by omega), m6, z]
          exact ⟨fun h => absurd h (by decide), fun _ => ⟨_, rfl, hK⟩⟩
theorem neg_no {r : Int32} (h : r = -1 ∨ r = -2 ∨ r = -3) : ¬ r = 0 ∧ ¬ 0 ≤ r := by
  rcases h with rfl | rfl | rfl <;> decide
theorem pub_ring (a b : Int32) : Pub mt_X8_ring mt_X9_ring [.int a, .int b] := by
  intro σC σM ⟨N, hN, hC, hM⟩
  have m10 := hN.2.1
  have hB : Both σC σM := ⟨N, hN, hC, hM⟩
  rcases news_two hN hC hM a b with ⟨r, hr, h1, h2⟩ | ⟨l, u, rfl, rfl, hl, hu1, hu, h1, h2⟩
  · obtain ⟨n1, n2⟩ := neg_no hr
    refine e_X8_ring a b σC _ (h1 _ ⟨fun h => absurd h n1, fun _ => ?_⟩)
    exact e_X9_ring a b σM _ (h2 _ ⟨fun h => absurd h n2, fun _ => ⟨rfl, hB⟩⟩)
  · have h4 := hN.w4 l hl
    have vl : vp_in (nI l) 10 := vp_in_nI (by omega) (by decide)
    refine e_X8_ring (nI l) (nI u) σC _ (h1 _ ⟨fun _ => ?_, fun h => absurd rfl h⟩)
    refine e_X2_firstRing (nI l) (nI u) σC _ ⟨vl, ?_⟩
    rw [nI_clamp (n := l) (by omega), (hC.2.2.1 l hl).2.2.2]
    refine ev_learn hN hC.rc hl h4.1 h4.2 fun s1 hk1 hL1 _ => ev_learn hN (hC.rc.n hk1) hl hu1 hu fun s2 hk2 hL2 hL2' => ?_
    have hk := hk1.trans hk2
    have hLn : lsN N l (N 4 l) s2 := by
      by_cases e : N 4 l = u
      · rw [e]; exact hL2
      · exact hL2' _ h4.2 e hL1
    refine ev_leastRing hN (hC.rc.n hk).1 h4.1 h4.2 hu1 hu hLn hL2 fun r hr => ⟨_, rfl, ?_⟩
    refine e_X9_ring (nI l) (nI u) σM _ (h2 _ ⟨fun _ => ⟨vl, ?_⟩, fun h => absurd (by decide) h⟩)
    rw [nI_clamp (n := l) (by omega), (hM.2.2.1 l hl).2.2.2.1]
    refine ev_ringOf hN hM.sm hl h4.1 h4.2 hu1 hu fun r' s' hk' hr' => ?_
    rw [RF_uniq hr' hr]
    exact ⟨rfl, N, hN, hC.n hk.n9, hM.n ((kR7.refl _).r hk')⟩
theorem pub_between (a b : Int32) : Pub mt_X8_between mt_X9_between [.int a, .int b] := by
  intro σC σM ⟨N, hN, hC, hM⟩
  have m10 := hN.2.1
  have hB : Both σC σM := ⟨N, hN, hC, hM⟩
  rcases news_two hN hC hM a b with ⟨r, hr, h1, h2⟩ | ⟨l, u, rfl, rfl, hl, hu1, hu, h1, h2⟩
  · obtain ⟨n1, n2⟩ := neg_no hr
    refine e_X8_between a b σC _ (h1 _ ⟨fun h => absurd h n1, fun _ => ?_⟩)
    exact e_X9_between a b σM _ (h2 _ ⟨fun h => absurd h n2, fun _ => ⟨rfl, hB⟩⟩)
  · have h4 := hN.w4 l hl
    have vl : vp_in (nI l) 10 := vp_in_nI (by omega) (by decide)
    have v21 : vp_in (nI (N 4 l)) 21 := vp_in_nI (by omega) (by decide)
    refine e_X8_between (nI l) (nI u) σC _ (h1 _ ⟨fun _ => ?_, fun h => absurd rfl h⟩)
    refine e_X2_countChanges (nI l) (nI u) σC _ ?_
    unfold w_X2_countChanges
    refine ev_measure hN hC.rc hl hu1 hu fun s1 c hk1 hL1 hc hd hend => ?_
    have hC1 := hC.n hk1
    rw [nI_clamp (n := l) (by omega), (hC1.2.2.1 l hl).2.2.2, nI_clamp (n := N 4 l) (by omega)]
    refine ⟨vl, v21, _, rfl, ?_⟩
    refine e_X9_between (nI l) (nI u) σM _ (h2 _ ⟨fun _ => ?_, fun h => absurd (by decide) h⟩)
    refine ev_findOff hN hM.sm hl hu1 hu fun s2 hk2 hd2 => ?_
    have hBB : Both s1 s2 := ⟨N, hN, hC1, hM.n hk2⟩
    rw [nI_clamp (n := l) (by omega), ((hM.n hk2).2.2.1 l hl).2.2.2.1, nI_clamp (n := N 4 l) (by omega)]
    refine ⟨vl, v21, ?_⟩
    rcases hend with hE | ⟨rfl, hw⟩
    · rw [(dM_lv Fok2 hc (dA_M hd) h4.1 h4.2 (Nat.le_refl _)).mpr hE, (dM_lv Fok1 (Nat.le_refl _) (dA_M hd2) h4.1 h4.2 hc).mpr hE]
      exact pk_le 1000000 c (fun h => by omega) (fun h => ⟨rfl, hBB⟩)
    · rw [(hd _ h4.1 h4.2).2 hw, (hd2 _ h4.1 h4.2).2 hw]
      exact ⟨fun _ => ⟨rfl, hBB⟩, fun h => absurd (by decide) h⟩
theorem pub_value (a b i : Int32) : Pub mt_X8_value mt_X9_value [.int a, .int b, .int i] := by
  intro σC σM ⟨N, hN, hC, hM⟩
  have m10 := hN.2.1
  have hB : Both σC σM := ⟨N, hN, hC, hM⟩
  rcases news_two hN hC hM a b with ⟨r, hr, h1, h2⟩ | ⟨l, u, rfl, rfl, hl, hu1, hu, h1, h2⟩
  · obtain ⟨n1, n2⟩ := neg_no hr
    refine e_X8_value a b i σC _ (h1 _ ⟨fun h => absurd h n1, fun _ => ?_⟩)
    exact e_X9_value a b i σM _ (h2 _ ⟨fun h => absurd h n2, fun _ => ⟨rfl, hB⟩⟩)
  · have h4 := hN.w4 l hl
    have vl : vp_in (nI l) 10 := vp_in_nI (by omega) (by decide)
    have v21 : vp_in (nI (N 4 l)) 21 := vp_in_nI (by omega) (by decide)
    refine e_X8_value (nI l) (nI u) i σC _ (h1 _ ⟨fun _ => ?_, fun h => absurd rfl h⟩)
    refine e_X2_valueAt (nI l) (nI u) i σC _ ?_
    unfold w_X2_valueAt
    refine ev_measure hN hC.rc hl hu1 hu fun s1 c hk1 hL1 hc hd hend => ?_
    have hC1 := hC.n hk1
    rw [nI_clamp (n := l) (by omega), (hC1.2.2.1 l hl).2.2.2, nI_clamp (n := N 4 l) (by omega)]
    refine ⟨vl, ?_⟩
    -- what the reference does
    have mm : ∀ (r : Option Value) (C : Prop), ((∀ s2, kR7 σM s2 → dA (okN N l) u 1000000 20 (s2.1 17) → ((s2.1 17 (N 4 l) = 1000000 → some (Value.int (-6)) = r) ∧ (¬ s2.1 17 (N 4 l) = 1000000 → ((¬ (q_in i.toInt64 (0 : Int64) ((s2.1 17 (N 4 l) - 1).toInt64)) = 0 → ∃ n, w_X9_value_67 n (nI l) i (nI (N 4 l)) (0 : Int32) s2 (fun r' s' => r' = r ∧ Both s1 s')) ∧ ((q_in i.toInt64 (0 : Int64) ((s2.1 17 (N 4 l) - 1).toInt64)) = 0 → some (Value.int (-6)) = r))))) → ds_E mt_X9_value Ym [.ref 0, .int (nI l), .int (nI u), .int i] σM (fun r' σM' => r' = r ∧ Both s1 σM')) := by
      intro r _ hh
      refine e_X9_value (nI l) (nI u) i σM _ (h2 _ ⟨fun _ => ?_, fun h => absurd (by decide) h⟩)
      refine ev_findOff hN hM.sm hl hu1 hu fun s2 hk2 hd2 => ?_
      have hBB : Both s1 s2 := ⟨N, hN, hC1, hM.n hk2⟩
      obtain ⟨q1, q2⟩ := hh s2 hk2 hd2
      rw [nI_clamp (n := l) (by omega), ((hM.n hk2).2.2.1 l hl).2.2.2.1, nI_clamp (n := N 4 l) (by omega)]
      exact ⟨vl, v21, fun h => ⟨q1 h, hBB⟩, fun h => ⟨v21, (q2 h).1, fun h3 => ⟨(q2 h).2 h3, hBB⟩⟩⟩
    have in0 : ∀ x : Int64, q_in i.toInt64 0 x = 0 ↔ ¬ (0 ≤ i.toInt64 ∧ i.toInt64 ≤ x) := fun x => by
      unfold q_in
      by_cases z : 0 ≤ i.toInt64 ∧ i.toInt64 ≤ x
      · rw [if_pos z]; exact ⟨fun h => absurd h (by decide), fun h => absurd z h⟩
      · rw [if_neg z]; exact ⟨fun _ => z, fun _ => rfl⟩
    have w0 : (0 ≤ i.toInt64) ↔ (0 : Int32) ≤ i := fa_wide_le 0 i
    rcases hend with hE | ⟨rfl, hw⟩
    · have ec : s1.1 59 (N 4 l) = nI c := (dM_lv Fok2 hc (dA_M hd) h4.1 h4.2 (Nat.le_refl _)).mpr hE
      rw [ec]
      have m17 : ∀ s2 : ds_S, dA (okN N l) u 1000000 20 (s2.1 17) → s2.1 17 (N 4 l) = nI c := fun s2 h => (dM_lv Fok1 (Nat.le_refl _) (dA_M h) h4.1 h4.2 hc).mpr hE
      have nfar : ¬ nI c = (1000000 : Int32) := fun e => Fok1 c (by omega) e.symm
      refine ⟨fun hneg => ⟨_, rfl, mm _ True fun s2 hk2 hd2 => ?_⟩, fun hnn => ⟨v21, fun hlt => ?_, fun hge => ⟨_, rfl, mm _ True fun s2 hk2 hd2 => ?_⟩⟩⟩
      · rw [m17 s2 hd2]
        refine ⟨fun h => absurd h nfar, fun _ => ⟨fun h => absurd ((in0 _).mpr fun z => ?_) h, fun _ => rfl⟩⟩
        exact absurd (w0.mp z.1) (nle32.mpr hneg)
      · -- a value there is
        obtain ⟨j, hj, rfl⟩ : ∃ j, j < c ∧ i = nI j := by
          rcases pk_ix i (n := c) (by omega) with z | z | z
          · exact absurd z hnn
          · exact absurd hlt (nlt32.mpr z)
          · exact z
        generalize hQ : (fun r σC' => ∃ x, r = some (Value.int x) ∧ ds_E mt_X9_value Ym [.ref 0, .int (nI l), .int (nI u), .int (nI j)] σM (fun r' σM' => r' = some (.int x) ∧ Both σC' σM')) = Q
        have hq : ∀ v, PT (okN N l) u c (N 4 l) (j + 1) v → Q (some (.int (nI v))) s1 := by
          intro v hv
          rw [← hQ]
          refine ⟨_, rfl, mm _ True fun s2 hk2 hd2 => ?_⟩
          rw [m17 s2 hd2]
          refine ⟨fun h => absurd h nfar, fun _ => ⟨fun _ => value_M hN (hk2.sm hM.sm) hl hd2 hc hj hE h4.1 h4.2 fun v' s' hk' hv' => ?_, fun h => absurd ⟨?_, ?_⟩ ((in0 _).mp h)⟩⟩
          · rw [PT_uniq hv' hv]
            exact ⟨rfl, N, hN, hC1, hM.n (hk2.r hk')⟩
          · exact w0.mpr (nI_pos' (by omega))
          · obtain ⟨d, rfl⟩ : ∃ d, c = d + 1 := ⟨c - 1, by omega⟩
            rw [nI_pred, fa_wide_le]
            exact nI_le (by omega) (by omega)
        clear hQ
        refine pk_loop (σ := Int32) (fun fu s v4 => w_X2_valueAt_38 fu (nI j) v4 (nI s) s1 Q) (fun s v4 => ∃ v, v4 = nI v ∧ PT (okN N l) u c (N 4 l) s v) (j + 1) 0 _ (by omega) ⟨N 4 l, rfl, rfl⟩ ?_ ?_
        · rintro fu v4 ⟨v, rfl, hp⟩
          rw [w_X2_valueAt_38]
          exact ⟨fun _ => hq v hp, fun h => absurd (nI_lt (by omega) (by omega)) h⟩
        · rintro fu st v4 hst ⟨v, rfl, hp⟩ hnext
          rw [w_X2_valueAt_38, nI_1]
          have ha := PT_rg h4.1 h4.2 hp
          have hEa := PT_ex hE hp (by omega)
          refine ⟨fun h => absurd h (nI_nlt (by omega) (by omega)), fun _ => ev_leastNearer hN hC1.1 hc (k := c - st) (by omega) (by omega) ha.1 ha.2 hL1 hd hEa fun v' hv' => hnext _ ⟨v', rfl, v, hp, hv'⟩⟩
      · rw [m17 s2 hd2]
        refine ⟨fun h => absurd h nfar, fun _ => ⟨fun h => absurd ((in0 _).mpr fun z => ?_) h, fun _ => rfl⟩⟩
        have z2 := z.2
        rw [fa_wide_le] at z2
        rcases Nat.eq_zero_or_pos c with e | e
        · rw [e] at z2
          have : i < 0 := fa_trans (b := nI 0 - 1) (by exact Int32.lt_of_le_of_ne z2 (by
            intro q
            have := w0.mp z.1
            rw [q] at this
            exact absurd this (by decide))) (by decide)
          exact hnn this
        · obtain ⟨d, rfl⟩ : ∃ d, c = d + 1 := ⟨c - 1, by omega⟩
          rw [nI_pred] at z2
          apply hge
          rw [fa_le, nI_toInt (by omega)] at z2
          rw [fa_lt, nI_toInt (by omega)]
          omega
    · have ec : s1.1 59 (N 4 l) = -6 := (hd _ h4.1 h4.2).2 hw
      rw [ec]
      have m17 : ∀ s2 : ds_S, dA (okN N l) u 1000000 20 (s2.1 17) → s2.1 17 (N 4 l) = 1000000 := fun s2 h => (h _ h4.1 h4.2).2 hw
      have fin : ds_E mt_X9_value Ym [.ref 0, .int (nI l), .int (nI u), .int i] σM (fun r' σM' => r' = some (.int (-6)) ∧ Both s1 σM') := mm _ True fun s2 hk2 hd2 => by
        rw [m17 s2 hd2]
        exact ⟨fun _ => rfl, fun h => absurd rfl h⟩
      refine ⟨fun _ => ⟨_, rfl, fin⟩, fun hnn => ⟨v21, fun hlt => ?_, fun _ => ⟨_, rfl, fin⟩⟩⟩
      exfalso
      apply hnn
      exact fa_trans hlt (by decide)
