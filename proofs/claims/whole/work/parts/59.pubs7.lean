theorem ev_findPeak {N : Nt} (hN : Nok N) {σ : ds_S} (hC : RepC N σ) {t : Nat} (ht : t < 3) {K : ds_S → Prop} (hK : ∀ s, kC σ s → PS 11 (wsN N (N 4) 99 (fun i => N 7 (36 * t + i))) s → K s) : ds_EV mt_X8_findPeak Yc [.ref 0, .int (nI t)] σ K := by
  refine e_X8_findPeak (nI t) σ _ ?_
  unfold w_X8_findPeak
  obtain ⟨w1, w2, w3⟩ := row_at ht
  refine ev_findAllC hN hC.rc 99 fun s1 hs1 hW => ⟨vp_in_nI ht (by decide), ?_⟩
  rw [w1]
  have hC1 := hC.k hs1.k
  have bon : ∀ k, k < 2 * N 0 7 → onN N (N 4) 99 (fun i => N 7 (36 * t + i)) k ≤ 36 * 50 * 151200 := fun k hk => onN_le hN hN.w4 (fun i hi => hN.ld ht hi) hk
  refine ev_sendTable hN hC1.rc hN.w4 (mo := 99) w2 w3 (row3 hC1.rc ht) (fun i hi => by have := hN.ld ht hi; omega) (fun t ht _ => hW t ht) fun s2 hs2 hov => ?_
  have hC2 := hC1.k hs2.k
  refine ev_clear (Or.inl rfl) fun s3 g1 g2 g3 _ _ => ?_
  refine ev_climb (Or.inl rfl) hN.2.1 (B := 36 * 50 * 151200) (by decide) (by rw [g1 1 (by decide)]; exact hC2.2.1) (fun l hl => by rw [g1 63 (by decide)]; exact (hC2.2.2.1 l hl).2.2.1) hN.rm (fun k hk => ⟨by rw [g2 10 (by decide)]; exact hov k hk, bon k hk⟩) g3 fun s4 hk4 hP4 => ⟨rfl, hK s4 ?_ hP4⟩
  refine (hs1.k.trans hs2.k).trans ⟨fun c hc => ?_, fun c h1 h2 h3 h4 h5 => ?_⟩
  · rw [hk4.row (by omega), g1 c (by omega)]
  · rw [hk4.2 c h3, g2 c h3]
theorem pub_worst (a b : Int32) : Pub mt_X8_worst mt_X9_worst [.int a, .int b] := by
  intro σC σM ⟨N, hN, hC, hM⟩
  have m10 := hN.2.1
  have hB : Both σC σM := ⟨N, hN, hC, hM⟩
  have bt : q_bx a 3 = q_rng a 0 3 := q_bx_rng (n := 3) (by decide) a
  rcases rc0 (hi := 3) (by decide) a with h1 | ⟨h1, t, ht, rfl⟩
  · refine e_X8_worst a b σC _ ⟨fun h => absurd h1 h, fun _ => ?_⟩
    exact e_X9_worst a b σM _ ⟨fun h => absurd (by rw [bt]; exact h1) h, fun _ => ⟨rfl, hB⟩⟩
  have x1 : ¬ q_rng (nI t) 0 3 = 0 := by rw [show q_rng (nI t) 0 3 = 1 from h1]; decide
  have x2 : ¬ q_bx (nI t) 3 = 0 := by rw [bt]; exact x1
  rcases rc0 (hi := 4) (by decide) b with h2 | ⟨h2, v, hv, rfl⟩
  · have hM' : ds_E mt_X9_worst Ym [.ref 0, .int (nI t), .int b] σM (fun r' σM' => r' = some (.long (-1000000000000000002)) ∧ Both σC σM') := e_X9_worst (nI t) b σM _ ⟨fun _ => ⟨fun h => absurd (by rw [q_in_0_3]; exact h2) h, fun _ => ⟨rfl, hB⟩⟩, fun h => absurd h x2⟩
    have nd := q_rng_0.mp (show q_rng b 0 4 = 0 from h2)
    refine e_X8_worst (nI t) b σC _ ⟨fun _ => ⟨fun _ => hM', fun k1 => ⟨fun k2 => absurd ⟨nlt32.mp k1, ?_⟩ nd, fun _ => hM'⟩⟩, fun h => absurd h x1⟩
    have e1 : (3 : Int32).toInt = 3 := rfl
    have e2 : (4 : Int32).toInt = 4 := rfl
    rw [fa_le, e1] at k2
    rw [fa_lt, e2]
    omega
  have x3 : ¬ nI v < (0 : Int32) := nI_pos (by omega)
  have x4 : nI v ≤ (3 : Int32) := nI_le (b := 3) (by omega) (by decide)
  have x5 : ¬ q_in (nI v).toInt64 0 3 = 0 := by rw [q_in_0_3, show q_rng (nI v) 0 4 = 1 from h2]; decide
  have wok := wsN_ok (mo := 99) (x := fun i => N 7 (36 * t + i)) hN hN.w4 (fun i hi => hN.ld ht hi)
  refine e_X8_worst (nI t) (nI v) σC _ ⟨fun _ => ⟨fun h => absurd h x3, fun _ => ⟨fun _ => ev_findPeak hN hC ht fun s1 hs1 hP => ?_, fun h => absurd x4 h⟩⟩, fun h => absurd h x1⟩
  have hMM : ∀ r, (∀ s, kM σM s → WR (wsN N (N 4) 99 (fun i => N 7 (36 * t + i))) s → (((2 : Int32) ≤ nI v → ((0 ≤ (s.1 0 21) → ((¬ nI v = (2 : Int32) → (some (.long (((s.1 0 21) - (s.1 0 21) / (2 : Int32) * (2 : Int32)).toInt64))) = r) ∧ (nI v = (2 : Int32) → (some (.long (((s.1 0 21) / (2 : Int32)).toInt64))) = r))) ∧ (¬ 0 ≤ (s.1 0 21) → (some (.long (-6 : Int64))) = r))) ∧ (¬ (2 : Int32) ≤ nI v → ((¬ nI v = 0 → (some (.long (s.2 0 20))) = r) ∧ (nI v = 0 → (some (.long (s.2 0 19))) = r))))) → ds_E mt_X9_worst Ym [.ref 0, .int (nI t), .int (nI v)] σM (fun r' σM' => r' = r ∧ Both s1 σM') := by
    intro r hr
    refine e_X9_worst (nI t) (nI v) σM _ ⟨fun _ => ⟨fun _ => ev_findWorst hN hN.w4 hM.sm ht (fun i hi => by have := hN.ld ht hi; omega) fun s hk hW => ?_, fun h => absurd h x5⟩, fun h => absurd h x2⟩
    obtain ⟨q1, q2⟩ := hr s hk hW
    have hBB : Both s1 s := Both.k hN hC hM hs1 hk
    exact ⟨fun h => ⟨fun h2 => ⟨fun h3 => ⟨((q1 h).1 h2).1 h3, hBB⟩, fun h3 => ⟨((q1 h).1 h2).2 h3, hBB⟩⟩, fun h2 => ⟨(q1 h).2 h2, hBB⟩⟩, fun h => ⟨fun h2 => ⟨(q2 h).1 h2, hBB⟩, fun h2 => ⟨(q2 h).2 h2, hBB⟩⟩⟩
  generalize hp : wsN N (N 4) 99 (fun i => N 7 (36 * t + i)) = p at *
  obtain ⟨p1, p2, p3, p4⟩ := hP
  obtain ⟨w1, w2, w3, w4⟩ := wok
  have er : (151200 : Int64) * (nI p.2.1).toInt64 = lN (151200 * p.2.1) := by rw [nI_l (by omega), show (151200 : Int64) = lN 151200 from rfl, lN_mul]
  rw [p1, p2, p3, p4, er]
  have lt5 : lN (151200 * p.2.1) < 562949953421312 := by
    rw [show (562949953421312 : Int64) = lN 562949953421312 from rfl, pk_lLT (by omega) (by decide)]
    omega
  have frac : ∀ y, y ≤ 1 → v = y → ds_E mt_X9_worst Ym [.ref 0, .int (nI t), .int (nI v)] σM (fun r' σM' => r' = some (.long (q_low0 (lN p.1) (lN (151200 * p.2.1)) (nI v))) ∧ Both s1 σM') := by
    intro y hy hvy
    refine hMM _ fun s hk hW => ?_
    obtain ⟨⟨U, L, u1, u2, u3⟩, u4⟩ := hW
    obtain ⟨l1, l2⟩ := q_low0_red u3 (by omega) (by omega) (by omega)
    rw [u1, u2]
    refine ⟨fun h => absurd h (nI_ge (a := v) (b := 2) (by omega) (by decide)), fun _ => ?_⟩
    rcases (show v = 0 ∨ v = 1 by omega) with rfl | rfl
    · exact ⟨fun h => absurd rfl h, fun _ => by rw [show (nI 0) = (0 : Int32) from rfl, l1]⟩
    · exact ⟨fun _ => by rw [show (nI 1) = (1 : Int32) from rfl, l2], fun h => absurd h (by decide)⟩
  have place : ∀ y, v = y → 2 ≤ y → ds_E mt_X9_worst Ym [.ref 0, .int (nI t), .int (nI v)] σM (fun r' σM' => r' = some (.long (if v = 2 then (if p.2.2 = 99 then (-6 : Int32) else nI (p.2.2 / 2)) else (if p.2.2 = 99 then (-6 : Int32) else nI (p.2.2 % 2))).toInt64) ∧ Both s1 σM') := by
    intro y hvy hy
    refine hMM _ fun s hk hW => ?_
    obtain ⟨-, u4⟩ := hW
    rw [u4]
    refine ⟨fun _ => ?_, fun h => absurd (nI_le (a := 2) (b := v) (by omega) (by omega)) h⟩
    by_cases q : p.2.2 = 99
    · simp only [q, if_true]
      refine ⟨fun h => absurd h (by decide), fun _ => ?_⟩
      simp
    · have hq20 : p.2.2 < 20 := by omega
      simp only [q, if_false]
      refine ⟨fun _ => pk_ne v 2 (fun h => ?_) (fun h => ?_), fun h => absurd (nI_pos' (by omega)) h⟩
      · rw [if_neg h, show (2 : Int32) = nI 2 from rfl, pk_rem (by omega) (by decide) (by decide)]
      · rw [if_pos h, show (2 : Int32) = nI 2 from rfl, pk_div (by omega) (by decide) (by decide)]
  refine pk_ne v 2 (fun h => pk_ne v 3 (fun h3 => ⟨nn64 (by omega), nn64 (by omega), lt5, frac v (by omega) rfl⟩) (fun h3 => ?_)) (fun h => ?_)
  · have := place v rfl (by omega)
    rwa [if_neg h] at this
  · have := place v rfl (by omega)
    rwa [if_pos h] at this
theorem red_swap {o r U L : Nat} (h : Red o r U L) (ho : 0 < o) (hr : 0 < r) : Red r o L U := by
  obtain ⟨c, l0, e⟩ := h
  refine ⟨c.symm, ?_, e.symm⟩
  rcases Nat.eq_zero_or_pos U with q | q
  · rw [q, Nat.mul_zero] at e
    have := Nat.mul_pos ho l0
    omega
  · exact q
theorem pub_grow (a b : Int32) : Pub mt_X8_grow mt_X9_grow [.int a, .int b] := by
  intro σC σM ⟨N, hN, hC, hM⟩
  have m10 := hN.2.1
  have hB : Both σC σM := ⟨N, hN, hC, hM⟩
  have bt : q_bx a 3 = q_rng a 0 3 := q_bx_rng (n := 3) (by decide) a
  rcases rc0 (hi := 3) (by decide) a with h1 | ⟨h1, t, ht, rfl⟩
  · refine e_X8_grow a b σC _ ⟨fun h => absurd h1 h, fun _ => ?_⟩
    exact e_X9_grow a b σM _ ⟨fun h => absurd (by rw [bt]; exact h1) h, fun _ => ⟨rfl, hB⟩⟩
  have x1 : ¬ q_rng (nI t) 0 3 = 0 := by rw [show q_rng (nI t) 0 3 = 1 from h1]; decide
  have x2 : ¬ q_bx (nI t) 3 = 0 := by rw [bt]; exact x1
  rcases rc0 (hi := 2) (by decide) b with h2 | ⟨h2, v, hv, rfl⟩
  · refine e_X8_grow (nI t) b σC _ ⟨fun _ => ⟨fun h => absurd h2 h, fun _ => ?_⟩, fun h => absurd h x1⟩
    exact e_X9_grow (nI t) b σM _ ⟨fun _ => ⟨fun h => absurd (by rw [q_in_0_1]; exact h2) h, fun _ => ⟨rfl, hB⟩⟩, fun h => absurd h x2⟩
  have x3 : ¬ q_rng (nI v) 0 2 = 0 := by rw [show q_rng (nI v) 0 2 = 1 from h2]; decide
  have x5 : ¬ q_in (nI v).toInt64 0 1 = 0 := q_in_yes (by omega)
  have wok := wsN_ok (mo := 99) (x := fun i => N 7 (36 * t + i)) hN hN.w4 (fun i hi => hN.ld ht hi)
  refine e_X8_grow (nI t) (nI v) σC _ ⟨fun _ => ⟨fun _ => ev_findPeak hN hC ht fun s1 hs1 hP => ?_, fun h => absurd h x3⟩, fun h => absurd h x1⟩
  have hMM : ∀ r, (∀ U L, Red (wsN N (N 4) 99 (fun i => N 7 (36 * t + i))).1 (151200 * (wsN N (N 4) 99 (fun i => N 7 (36 * t + i))).2.1) U L → (¬ U = 0 → (some (Value.long (lN (if v = 0 then L else U)))) = r) ∧ (U = 0 → (some (Value.long (-1000000000000000006 : Int64))) = r)) → ds_E mt_X9_grow Ym [.ref 0, .int (nI t), .int (nI v)] σM (fun r' σM' => r' = r ∧ Both s1 σM') := by
    intro r hr
    refine e_X9_grow (nI t) (nI v) σM _ ⟨fun _ => ⟨fun _ => ev_findWorst hN hN.w4 hM.sm ht (fun i hi => by have := hN.ld ht hi; omega) fun s hk hW => ?_, fun h => absurd h x5⟩, fun h => absurd h x2⟩
    obtain ⟨⟨U, L, u1, u2, u3⟩, u4⟩ := hW
    have rl := red_le u3 (by omega)
    have hBB : Both s1 s := Both.k hN hC hM hs1 hk
    obtain ⟨q1, q2⟩ := hr U L u3
    rw [u1, u2, lg_cmp_eq, pk_lNe0 (by omega)]
    refine ⟨fun h => ?_, fun h => ⟨q2 h, hBB⟩⟩
    have q3 := q1 h
    rcases (show v = 0 ∨ v = 1 by omega) with rfl | rfl
    · exact ⟨fun h => absurd rfl h, fun _ => ⟨q3, hBB⟩⟩
    · exact ⟨fun _ => ⟨q3, hBB⟩, fun h => absurd h (by decide)⟩
  generalize hp : wsN N (N 4) 99 (fun i => N 7 (36 * t + i)) = p at *
  obtain ⟨p1, p2, p3, p4⟩ := hP
  obtain ⟨w1, w2, w3, w4⟩ := wok
  have er : (151200 : Int64) * (nI p.2.1).toInt64 = lN (151200 * p.2.1) := by rw [nI_l (by omega), show (151200 : Int64) = lN 151200 from rfl, lN_mul]
  have lt5 : lN p.1 < 562949953421312 := by
    rw [show (562949953421312 : Int64) = lN 562949953421312 from rfl, pk_lLT (by omega) (by decide)]
    omega
  rw [p1, p2, er, lg_cmp_eq, pk_lNe0 (by omega)]
  refine ⟨fun h => ⟨nn64 (by omega), nn64 (by omega), lt5, hMM _ fun U L hr => ?_⟩, fun h => hMM _ fun U L hr => ?_⟩
  · have sw := red_swap hr (by omega) (by omega)
    have hU := sw.2.1
    obtain ⟨l1, l2⟩ := q_low0_red sw (by omega) (by omega) (by omega)
    refine ⟨fun _ => ?_, fun h => by omega⟩
    rcases (show v = 0 ∨ v = 1 by omega) with rfl | rfl
    · rw [show (nI 0) = (0 : Int32) from rfl, l1]; rfl
    · rw [show (nI 1) = (1 : Int32) from rfl, l2]; rfl
  · have hU : U = 0 := by
      have := hr.2.2
      rw [h, Nat.zero_mul] at this
      rcases Nat.eq_zero_or_pos U with q | q
      · exact q
      · have := Nat.mul_pos (show 0 < 151200 * p.2.1 by omega) q
        omega
    exact ⟨fun h => absurd hU h, fun _ => rfl⟩
