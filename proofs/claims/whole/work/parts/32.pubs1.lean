theorem pub_weigh (a b : Int32) : Pub mt_X8_weigh mt_X9_weigh [.int a, .int b] := by
  intro σC σM ⟨N, hN, hC, hM⟩
  obtain ⟨⟨n2, n6⟩, m10, hl, hld, hg, hs, hsw⟩ := id hN
  obtain ⟨c0, c1, cl, c6, c7, cld, c12, c14, csk⟩ := id hC
  obtain ⟨m0, m7, ml, mld, m9, mS, mm, msk⟩ := id hM
  have hB : Both σC σM := ⟨N, hN, hC, hM⟩
  have b1 : q_bx a (σM.1 0 7) = q_rng a 0 (nI (N 0 7)) := by rw [m7, q_bx_rng (by omega)]
  have b2 : q_in b.toInt64 1 20 = q_rng b 1 21 := q_in_1_20 b
  rcases rc0 (hi := N 0 7) (by omega) a with h1 | ⟨h1, l, hlm, rfl⟩
  · refine e_X8_weigh a b σC _ ⟨fun h => absurd (by rw [c1]; exact h1) h, fun _ => ?_⟩
    exact e_X9_weigh a b σM _ ⟨fun h => absurd (by rw [b1]; exact h1) h, fun _ => ⟨rfl, hB⟩⟩
  · have y0 : ¬ q_rng (nI l) 0 (σC.1 1 1) = 0 := by rw [c1, h1]; decide
    have y1 : ¬ q_bx (nI l) (σM.1 0 7) = 0 := by rw [b1, h1]; decide
    have vi : vp_in (nI l) 10 := vp_in_nI (by omega) (by decide)
    have cla := nI_clamp (n := l) (by omega)
    rcases rcl 1 21 (by decide) (by decide) b with g1 | ⟨g1, w, hw1, hw2, rfl⟩
    · refine e_X8_weigh (nI l) b σC _ ⟨fun _ => ⟨fun h => absurd g1 h, fun _ => ?_⟩, fun h => absurd h y0⟩
      exact e_X9_weigh (nI l) b σM _ ⟨fun _ => ⟨fun h => absurd (by rw [b2]; exact g1) h, fun _ => ⟨rfl, hB⟩⟩, fun h => absurd h y1⟩
    · have gg : ¬ q_rng (nI w) 1 21 = 0 := by rw [show q_rng (nI w) 1 21 = 1 from g1]; decide
      have s5 : ∀ l, l < N 0 7 → N 5 l ≤ 1 := fun l h => (hl l h).2.2.2.2.2.2.2.1
      have q5 : q_bit (σC.1 1 6) (nI l) = nI (N 5 l) := by rw [c6]; exact bitl m10 s5 hlm
      obtain ⟨x1, x2, x3, x4⟩ := cl l hlm
      obtain ⟨z1, z2, z3, z4, z5, z6⟩ := ml l hlm
      by_cases st : N 5 l = 1
      · refine e_X8_weigh (nI l) (nI w) σC _ ⟨fun _ => ⟨fun _ => ⟨fun h => absurd (by rw [q5, st]; rfl) h, fun _ => ?_⟩, fun h => absurd h gg⟩, fun h => absurd h y0⟩
        exact e_X9_weigh (nI l) (nI w) σM _ ⟨fun _ => ⟨fun _ => ⟨vi, fun h => absurd h (by rw [cla, z5, st]; decide), fun _ => ⟨rfl, hB⟩⟩, fun h => absurd h (by rw [b2]; exact gg)⟩, fun h => absurd h y1⟩
      · have s0 : N 5 l = 0 := by have := s5 l hlm; omega
        refine e_X8_weigh (nI l) (nI w) σC _ ⟨fun _ => ⟨fun _ => ⟨fun _ => ⟨vi, vi, ev_forget ?_⟩, fun h => absurd h (by rw [q5, s0]; decide)⟩, fun h => absurd h gg⟩, fun h => absurd h y0⟩
        refine e_X9_weigh (nI l) (nI w) σM _ ⟨fun _ => ⟨fun _ => ⟨vi, fun _ => ⟨vi, vi, ?_, ?_⟩, fun h => absurd (by rw [cla, z5, s0]; rfl) h⟩, fun h => absurd h (by rw [b2]; exact gg)⟩, fun h => absurd h y1⟩
        · rw [cla, z4, x4]
        · rw [cla]
          refine ⟨nu (nu N 4 l w) 0 10 0, ⟨⟨n2, n6⟩, m10, fun j hj => ?_, hld, hg, Nat.zero_le _, fun h => no01 h⟩, ⟨c0, c1, fun j hj => ?_, c6, c7, ?_, c12, rfl, fun h => no01 h⟩, ⟨m0, m7, fun j hj => ?_, mld, m9, rfl, mm, fun h => no01 h⟩⟩
          · obtain ⟨p1, p2, p3, p4, p5, p6, p7, p8, p9⟩ := hl j hj
            refine ⟨p1, p2, p3, p4, p5, ?_, ?_, p8, p9⟩
            · show 1 ≤ nu (nu N 4 l w) 0 10 0 4 j
              rw [nu_at, if_neg (by omega), nu_at]
              split <;> omega
            · show nu (nu N 4 l w) 0 10 0 4 j ≤ 20
              rw [nu_at, if_neg (by omega), nu_at]
              split <;> omega
          · obtain ⟨p1, p2, p3, p4⟩ := cl j hj
            refine ⟨p1, p2, p3, ?_⟩
            show (ds_wi (ds_wi σC 64 l (nI w)) 14 2 0).1 64 j = nI (nu (nu N 4 l w) 0 10 0 4 j)
            simp only [ds_wi_1, nu_at]
            by_cases e : j = l
            · simp [e]
            · simp [e, p4]
          · intro t i h1 h2
            rw [ds_wi_1, if_neg (by omega), ds_wi_1, if_neg (by omega)]
            exact cld t i h1 h2
          · obtain ⟨p1, p2, p3, p4, p5, p6⟩ := ml j hj
            refine ⟨p1, p2, p3, ?_, p5, p6⟩
            show (ds_wi (ds_wi σM 4 l (nI w)) 0 10 0).1 4 j = nI (nu (nu N 4 l w) 0 10 0 4 j)
            simp only [ds_wi_1, nu_at]
            by_cases e : j = l
            · simp [e]
            · simp [e, p4]
/-- a bit is written -/
theorem wb_up {f : Nat → Nat} {m l v : Nat} (hm : m ≤ 10) (h : ∀ l, l < m → f l ≤ 1) (hl : l < m) (hv : v ≤ 1) : q_wb (nI (bitsOf f m)) (nI l) (nI v) = nI (bitsOf (fun j => if j = l then v else f j) m) := by
  have h1 := bitsOf_up (f := f) (v := v) hl
  have h0 := bitsOf_up (f := f) (v := 0) hl
  have hb := bitm hm h
  have ha := bitsOf_at h hl
  rcases (show v = 0 ∨ v = 1 by omega) with rfl | rfl
  · rw [show nI 0 = (0 : Int32) from rfl, q_wb_0 _ hb _ (by omega), ha]
    congr 1
    omega
  · rw [show nI 1 = (1 : Int32) from rfl, q_wb_1 _ hb _ (by omega), ha]
    congr 1
    omega
theorem vp_bool {v : Nat} (h : v ≤ 1) : vp_nar .boolean (nI v) = nI v := by
  rcases (show v = 0 ∨ v = 1 by omega) with rfl | rfl <;> rfl
theorem pub_mark (a b c : Int32) (hc : c = 0 ∨ c = 1) : Pub mt_X8_mark mt_X9_mark [.int a, .int b, .int c] := by
  intro σC σM ⟨N, hN, hC, hM⟩
  obtain ⟨⟨n2, n6⟩, m10, hl, hld, hg, hs, hsw⟩ := id hN
  obtain ⟨c0, c1, cl, c6, c7, cld, c12, c14, csk⟩ := id hC
  obtain ⟨m0, m7, ml, mld, m9, mS, mm, msk⟩ := id hM
  obtain ⟨v, hv, rfl⟩ : ∃ v, v ≤ 1 ∧ c = nI v := by
    rcases hc with rfl | rfl
    · exact ⟨0, by omega, rfl⟩
    · exact ⟨1, by omega, rfl⟩
  have hB : Both σC σM := ⟨N, hN, hC, hM⟩
  have b1 : q_bx a (σM.1 0 7) = q_rng a 0 (nI (N 0 7)) := by rw [m7, q_bx_rng (by omega)]
  have b2 : q_in b.toInt64 0 1 = q_rng b 0 2 := q_in_0_1 b
  rcases rc0 (hi := N 0 7) (by omega) a with h1 | ⟨h1, l, hlm, rfl⟩
  · refine e_X8_mark a b (nI v) σC _ ⟨fun h => absurd (by rw [c1]; exact h1) h, fun _ => ?_⟩
    exact e_X9_mark a b (nI v) σM _ ⟨fun h => absurd (by rw [b1]; exact h1) h, fun _ => ⟨rfl, hB⟩⟩
  · have y0 : ¬ q_rng (nI l) 0 (σC.1 1 1) = 0 := by rw [c1, h1]; decide
    have y1 : ¬ q_bx (nI l) (σM.1 0 7) = 0 := by rw [b1, h1]; decide
    have vi : vp_in (nI l) 10 := vp_in_nI (by omega) (by decide)
    have cla := nI_clamp (n := l) (by omega)
    have s5 : ∀ l, l < N 0 7 → N 5 l ≤ 1 := fun l h => (hl l h).2.2.2.2.2.2.2.1
    have s6 : ∀ l, l < N 0 7 → N 6 l ≤ 1 := fun l h => (hl l h).2.2.2.2.2.2.2.2
    have q5 : q_bit (σC.1 1 6) (nI l) = nI (N 5 l) := by rw [c6]; exact bitl m10 s5 hlm
    have q6 : q_bit (σC.1 1 7) (nI l) = nI (N 6 l) := by rw [c7]; exact bitl m10 s6 hlm
    obtain ⟨z1, z2, z3, z4, z5, z6⟩ := ml l hlm
    have n5 : ∀ t : Nat, t ≤ 1 → (nI t = 0 → (some (Value.int 0)) = some (.int (nI t))) ∧ (¬ nI t = 0 → (some (Value.int 1)) = some (.int (nI t))) := by
      intro t ht
      rcases (show t = 0 ∨ t = 1 by omega) with rfl | rfl
      · exact ⟨fun _ => rfl, fun h => absurd rfl h⟩
      · exact ⟨fun h => absurd h (by decide), fun _ => rfl⟩
    rcases rc0 (hi := 2) (by decide) b with g1 | ⟨g1, w, hw, rfl⟩
    · refine e_X8_mark (nI l) b (nI v) σC _ ⟨fun _ => ⟨fun h => absurd g1 h, fun _ => ?_⟩, fun h => absurd h y0⟩
      exact e_X9_mark (nI l) b (nI v) σM _ ⟨fun _ => ⟨fun h => absurd (by rw [b2]; exact g1) h, fun _ => ⟨rfl, hB⟩⟩, fun h => absurd h y1⟩
    · have gg : ¬ q_rng (nI w) 0 2 = 0 := by rw [show q_rng (nI w) 0 2 = 1 from g1]; decide
      rcases (show w = 0 ∨ w = 1 by omega) with rfl | rfl
      · have w0 : nI 0 = (0 : Int32) := rfl
        have hB2 : Both (ds_wi (ds_wi σC 1 6 (q_wb (σC.1 1 6) (nI l) (nI v))) 14 2 0) (ds_wi (ds_wi σM 5 l (nI v)) 0 10 0) := by
          refine ⟨nu (nu N 5 l v) 0 10 0, ⟨⟨n2, n6⟩, m10, fun j hj => ?_, hld, hg, Nat.zero_le _, fun h => no01 h⟩, ⟨c0, c1, cl, ?_, c7, ?_, c12, rfl, fun h => no01 h⟩, ⟨m0, m7, fun j hj => ?_, mld, m9, rfl, mm, fun h => no01 h⟩⟩
          · obtain ⟨p1, p2, p3, p4, p5, p6, p7, p8, p9⟩ := hl j hj
            refine ⟨p1, p2, p3, p4, p5, p6, p7, ?_, p9⟩
            show nu (nu N 5 l v) 0 10 0 5 j ≤ 1
            rw [nu_at, if_neg (by omega), nu_at]
            split <;> omega
          · show q_wb (σC.1 1 6) (nI l) (nI v) = nI (bitsOf (nu (nu N 5 l v) 0 10 0 5) (N 0 7))
            rw [c6, wb_up m10 s5 hlm hv]
            congr 1
            apply bitsOf_cong
            intro j hj
            simp [nu_at]
          · intro t i h1 h2
            rw [ds_wi_1, if_neg (by omega), ds_wi_1, if_neg (by omega)]
            exact cld t i h1 h2
          · obtain ⟨p1, p2, p3, p4, p5, p6⟩ := ml j hj
            refine ⟨p1, p2, p3, p4, ?_, p6⟩
            show (ds_wi (ds_wi σM 5 l (nI v)) 0 10 0).1 5 j = nI (nu (nu N 5 l v) 0 10 0 5 j)
            simp only [ds_wi_1, nu_at]
            by_cases e : j = l
            · simp [e]
            · simp [e, p5]
        have fin : ∀ t : Int32, t = nI (N 5 l) → w_X9_mark_53 (nI l) 0 (nI v) t σM (fun r' σM' => r' = some (.int (nI (N 5 l))) ∧ Both (ds_wi (ds_wi σC 1 6 (q_wb (σC.1 1 6) (nI l) (nI v))) 14 2 0) σM') := by
          intro t ht
          refine ⟨fun h => absurd rfl h, fun _ => ⟨vi, by rw [ht], ?_⟩⟩
          rw [cla, vp_bool hv]
          exact hB2
        refine e_X8_mark (nI l) 0 (nI v) σC _ ⟨fun _ => ⟨fun _ => ⟨fun h => absurd rfl h, fun _ => ⟨fun h => absurd rfl h, fun _ => ev_forget ?_⟩⟩, fun h => absurd h gg⟩, fun h => absurd h y0⟩
        rw [q5]
        refine e_X9_mark (nI l) 0 (nI v) σM _ ⟨fun _ => ⟨fun _ => ⟨fun h => absurd rfl h, fun _ => ⟨vi, fun h => fin 0 ?_, fun h => fin 1 ?_⟩⟩, fun h => absurd h (by rw [q_in_0_1]; exact gg)⟩, fun h => absurd h y1⟩
        · rw [cla, z5] at h; rw [h]
        · rw [cla, z5] at h; exact Value.int.inj (Option.some.inj ((n5 _ (s5 l hlm)).2 h))
      · have hB2 : Both (ds_wi (ds_wi σC 1 7 (q_wb (σC.1 1 7) (nI l) (nI v))) 14 2 0) (ds_wi (ds_wi σM 6 l (nI v)) 0 10 0) := by
          refine ⟨nu (nu N 6 l v) 0 10 0, ⟨⟨n2, n6⟩, m10, fun j hj => ?_, hld, hg, Nat.zero_le _, fun h => no01 h⟩, ⟨c0, c1, cl, c6, ?_, ?_, c12, rfl, fun h => no01 h⟩, ⟨m0, m7, fun j hj => ?_, mld, m9, rfl, mm, fun h => no01 h⟩⟩
          · obtain ⟨p1, p2, p3, p4, p5, p6, p7, p8, p9⟩ := hl j hj
            refine ⟨p1, p2, p3, p4, p5, p6, p7, p8, ?_⟩
            show nu (nu N 6 l v) 0 10 0 6 j ≤ 1
            rw [nu_at, if_neg (by omega), nu_at]
            split <;> omega
          · show q_wb (σC.1 1 7) (nI l) (nI v) = nI (bitsOf (nu (nu N 6 l v) 0 10 0 6) (N 0 7))
            rw [c7, wb_up m10 s6 hlm hv]
            congr 1
            apply bitsOf_cong
            intro j hj
            simp [nu_at]
          · intro t i h1 h2
            rw [ds_wi_1, if_neg (by omega), ds_wi_1, if_neg (by omega)]
            exact cld t i h1 h2
          · obtain ⟨p1, p2, p3, p4, p5, p6⟩ := ml j hj
            refine ⟨p1, p2, p3, p4, p5, ?_⟩
            show (ds_wi (ds_wi σM 6 l (nI v)) 0 10 0).1 6 j = nI (nu (nu N 6 l v) 0 10 0 6 j)
            simp only [ds_wi_1, nu_at]
            by_cases e : j = l
            · simp [e]
            · simp [e, p6]
        have fin : ∀ t : Int32, t = nI (N 6 l) → w_X9_mark_53 (nI l) 1 (nI v) t σM (fun r' σM' => r' = some (.int (nI (N 6 l))) ∧ Both (ds_wi (ds_wi σC 1 7 (q_wb (σC.1 1 7) (nI l) (nI v))) 14 2 0) σM') := by
          intro t ht
          refine ⟨fun _ => ⟨vi, by rw [ht], ?_⟩, fun h => absurd h (by decide)⟩
          rw [cla, vp_bool hv]
          exact hB2
        refine e_X8_mark (nI l) 1 (nI v) σC _ ⟨fun _ => ⟨fun _ => ⟨fun _ => ⟨fun _ => ev_forget ?_, fun h => absurd h (by decide)⟩, fun h => absurd h (by decide)⟩, fun h => absurd h gg⟩, fun h => absurd h y0⟩
        rw [q6]
        refine e_X9_mark (nI l) 1 (nI v) σM _ ⟨fun _ => ⟨fun _ => ⟨fun _ => ⟨vi, fun h => fin 0 ?_, fun h => fin 1 ?_⟩, fun h => absurd h (by decide)⟩, fun h => absurd h (by rw [q_in_0_1]; exact gg)⟩, fun h => absurd h y1⟩
        · rw [cla, z6] at h; rw [h]
        · rw [cla, z6] at h; exact Value.int.inj (Option.some.inj ((n5 _ (s6 l hlm)).2 h))
