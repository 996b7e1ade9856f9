theorem row_at {t : Nat} (h : t < 3) : Yc.2.2.2 2 (nI t).toNatClampNeg = 3 + t ∧ ds_k Yc (3 + t) 10 ∧ Yc.2.2.1 (3 + t) = 36 := by
  rcases (show t = 0 ∨ t = 1 ∨ t = 2 by omega) with rfl | rfl | rfl
  · exact ⟨rfl, ⟨by decide, rfl⟩, rfl⟩
  · exact ⟨rfl, ⟨by decide, rfl⟩, rfl⟩
  · exact ⟨rfl, ⟨by decide, rfl⟩, rfl⟩
theorem q_pair_nI {n : Nat} (h : n < 2 ^ 31) (a b : Int32) : (q_pair a b (nI n) = 0 ∧ (q_rng a 0 (nI n) = 0 ∨ q_rng b 0 (nI n) = 0 ∨ a = b)) ∨ (q_pair a b (nI n) = 1 ∧ ∃ i j, i < n ∧ j < n ∧ i ≠ j ∧ a = nI i ∧ b = nI j ∧ q_rng a 0 (nI n) = 1 ∧ q_rng b 0 (nI n) = 1) := by
  rcases rc0 h a with h1 | ⟨h1, i, hi, rfl⟩
  · left
    exact ⟨if_neg fun q => q_rng_0.mp h1 ⟨q.1, q.2.1⟩, Or.inl h1⟩
  · rcases rc0 h b with h2 | ⟨h2, j, hj, rfl⟩
    · left
      exact ⟨if_neg fun q => q_rng_0.mp h2 ⟨q.2.2.1, q.2.2.2.1⟩, Or.inr (Or.inl h2)⟩
    · by_cases e : i = j
      · left
        subst e
        exact ⟨if_neg fun q => q.2.2.2.2 rfl, Or.inr (Or.inr rfl)⟩
      · right
        have g1 := Classical.not_not.mp (fun q => absurd (q_rng_0.mpr q) (by rw [h1]; decide))
        have g2 := Classical.not_not.mp (fun q => absurd (q_rng_0.mpr q) (by rw [h2]; decide))
        refine ⟨if_pos ⟨g1.1, g1.2, g2.1, g2.2, fun q => e ((nI_eq (by omega) (by omega)).mp q)⟩, i, j, hi, hj, e, rfl, rfl, h1, h2⟩
theorem pub_load (a b c d : Int32) : Pub mt_X8_load mt_X9_load [.int a, .int b, .int c, .int d] := by
  intro σC σM ⟨N, hN, hC, hM⟩
  obtain ⟨⟨n2, n6⟩, m10, hl, hld, hg, hs, hsw⟩ := id hN
  obtain ⟨c0, c1, cl, c6, c7, cld, c12, c14, csk⟩ := id hC
  obtain ⟨m0, m7, ml, mld, m9, mS, mm, msk⟩ := id hM
  have hB : Both σC σM := ⟨N, hN, hC, hM⟩
  have bb : ∀ x, q_bx x (σM.1 0 0) = q_rng x 0 (nI (N 0 0)) := fun x => by rw [m0, q_bx_rng (by omega)]
  have b3 : q_bx a 3 = q_rng a 0 3 := q_bx_rng (n := 3) (by decide) a
  rcases rc0 (hi := 3) (by decide) a with h1 | ⟨h1, t, ht, rfl⟩
  · refine e_X8_load a b c d σC _ ⟨fun _ => ?_, fun h => absurd h1 h⟩
    exact e_X9_load a b c d σM _ ⟨fun _ => ⟨rfl, hB⟩, fun h => absurd (by rw [b3]; exact h1) h⟩
  · have ga : ¬ q_rng (nI t) 0 3 = 0 := by rw [show q_rng (nI t) 0 3 = 1 from h1]; decide
    have gb : ¬ q_bx (nI t) 3 = 0 := by rw [b3]; exact ga
    rcases q_pair_nI (n := N 0 0) (by omega) b c with ⟨h2, h3⟩ | ⟨h2, i, j, hi, hj, hij, rfl, rfl, r1, r2⟩
    · refine e_X8_load (nI t) b c d σC _ ⟨fun h => absurd h ga, fun _ => ⟨fun h => absurd (by rw [c0]; exact h2) h, fun _ => ?_⟩⟩
      refine e_X9_load (nI t) b c d σM _ ⟨fun h => absurd h gb, fun _ => ⟨fun _ => ⟨rfl, hB⟩, fun k1 => ⟨fun _ => ⟨rfl, hB⟩, fun k2 => ⟨fun k3 => ?_, fun _ => ⟨rfl, hB⟩⟩⟩⟩⟩
      rw [bb] at k1 k2
      rcases h3 with h3 | h3 | h3
      · exact absurd h3 k1
      · exact absurd h3 k2
      · exact absurd h3 k3
    · have gp : ¬ q_pair (nI i) (nI j) (σC.1 1 0) = 0 := by rw [c0, h2]; decide
      have gi : ¬ q_bx (nI i) (σM.1 0 0) = 0 := by rw [bb, r1]; decide
      have gj : ¬ q_bx (nI j) (σM.1 0 0) = 0 := by rw [bb, r2]; decide
      have gij : ¬ nI i = nI j := fun q => hij ((nI_eq (by omega) (by omega)).mp q)
      have d50 : q_in d.toInt64 0 50 = q_rng d 0 51 := q_in_0_50 d
      rcases rc0 (hi := 51) (by decide) d with h4 | ⟨h4, v, hv, rfl⟩
      · have hM' : ds_E mt_X9_load Ym [.ref 0, .int (nI t), .int (nI i), .int (nI j), .int d] σM (fun r' σM' => r' = some (.int (-2)) ∧ Both σC σM') := e_X9_load (nI t) (nI i) (nI j) d σM _ ⟨fun h => absurd h gb, fun _ => ⟨fun h => absurd h gi, fun _ => ⟨fun h => absurd h gj, fun _ => ⟨fun _ => ⟨fun h => absurd (by rw [d50]; exact h4) h, fun _ => ⟨rfl, hB⟩⟩, fun h => absurd h gij⟩⟩⟩⟩
        have nd := q_rng_0.mp (show q_rng d 0 51 = 0 from h4)
        refine e_X8_load (nI t) (nI i) (nI j) d σC _ ⟨fun h => absurd h ga, fun _ => ⟨fun _ => ⟨fun _ => hM', fun k1 => ⟨fun k2 => ?_, fun _ => hM'⟩⟩, fun h => absurd h gp⟩⟩
        exfalso
        apply nd
        refine ⟨nlt32.mp k1, ?_⟩
        have e1 : (50 : Int32).toInt = 50 := rfl
        have e2 : (51 : Int32).toInt = 51 := rfl
        rw [fa_le, e1] at k2
        rw [fa_lt, e2]
        omega
      · obtain ⟨w1, w2, w3⟩ := row_at ht
        have ix : ((nI i * (6 : Int32)) + nI j) = nI (i * 6 + j) := by rw [show (6 : Int32) = nI 6 from rfl, pk_mul, nI_add]
        have iy : (((36 : Int32) * nI t) + ((6 : Int32) * nI i)) + nI j = nI (36 * t + (6 * i + j)) := by rw [show (36 : Int32) = nI 36 from rfl, show (6 : Int32) = nI 6 from rfl, pk_mul, pk_mul, nI_add, nI_add, Nat.add_assoc]
        have px : 6 * i + j < 36 := by omega
        have py : 36 * t + (6 * i + j) < 108 := by omega
        have e6 : i * 6 + j = 6 * i + j := by omega
        have vi : vp_in (nI t) 3 := vp_in_nI ht (by decide)
        have vx : vp_in (nI i * 6 + nI j) (Yc.2.2.1 (Yc.2.2.2 2 (nI t).toNatClampNeg)) := by rw [w1, w3, ix]; exact vp_in_nI (by omega) (by decide)
        have vk : ds_k Yc (Yc.2.2.2 2 (nI t).toNatClampNeg) 10 := by rw [w1]; exact w2
        have vy : vp_in ((((36 : Int32) * nI t) + ((6 : Int32) * nI i)) + nI j) 108 := by rw [iy]; exact vp_in_nI py (by decide)
        have v0 : ¬ nI v < 0 := nI_pos (by omega)
        have v50 : nI v ≤ (50 : Int32) := nI_le (b := 50) (by omega) (by decide)
        have v51 : ¬ q_in (nI v).toInt64 0 50 = 0 := by rw [d50, show q_rng (nI v) 0 51 = 1 from h4]; decide
        refine e_X8_load (nI t) (nI i) (nI j) (nI v) σC _ ⟨fun h => absurd h ga, fun _ => ⟨fun _ => ⟨fun h => absurd h v0, fun _ => ⟨fun _ => ⟨vi, vk, vx, vi, vk, vx, ev_forget ?_⟩, fun h => absurd v50 h⟩⟩, fun h => absurd h gp⟩⟩
        refine e_X9_load (nI t) (nI i) (nI j) (nI v) σM _ ⟨fun h => absurd h gb, fun _ => ⟨fun h => absurd h gi, fun _ => ⟨fun h => absurd h gj, fun _ => ⟨fun _ => ⟨fun _ => ⟨vy, vy, ?_, ?_⟩, fun h => absurd h v51⟩, fun h => absurd h gij⟩⟩⟩⟩
        · rw [w1, iy, ix, nI_clamp (by omega), nI_clamp (by omega), mld _ py, e6, cld t _ ht px]
        · rw [w1, iy, ix, nI_clamp (by omega), nI_clamp (by omega), e6]
          refine ⟨nu (nu N 7 (36 * t + (6 * i + j)) v) 0 10 0, ⟨⟨n2, n6⟩, m10, hl, fun q hq => ?_, hg, Nat.zero_le _, fun h => no01 h⟩, ⟨?_, ?_, ?_, ?_, ?_, ?_, ?_, rfl, fun h => no01 h⟩, ⟨m0, m7, ml, fun q hq => ?_, m9, rfl, mm, fun h => no01 h⟩⟩
          · show nu (nu N 7 (36 * t + (6 * i + j)) v) 0 10 0 7 q ≤ 50
            have := hld q hq
            simp only [nu_at]
            by_cases e : q = 36 * t + (6 * i + j)
            · simp [e]; omega
            · simp [e]; exact this
          · simp only [ds_wi_1]; rw [if_neg (by omega), if_neg (by omega)]; exact c0
          · simp only [ds_wi_1]; rw [if_neg (by omega), if_neg (by omega)]; exact c1
          · intro q hq
            simp only [ds_wi_1]
            have := cl q hq
            simp only [nu_at]
            simp only [show ∀ k, ¬ (61 = 14 ∧ k = 2) from fun k => by omega, show ∀ k, ¬ (62 = 14 ∧ k = 2) from fun k => by omega, show ∀ k, ¬ (63 = 14 ∧ k = 2) from fun k => by omega, show ∀ k, ¬ (64 = 14 ∧ k = 2) from fun k => by omega, show ¬ (61 = 3 + t ∧ q = 6 * i + j) from by omega, show ¬ (62 = 3 + t ∧ q = 6 * i + j) from by omega, show ¬ (63 = 3 + t ∧ q = 6 * i + j) from by omega, show ¬ (64 = 3 + t ∧ q = 6 * i + j) from by omega, if_false]
            simpa using this
          · simp only [ds_wi_1]; rw [if_neg (by omega), if_neg (by omega)]; exact c6
          · simp only [ds_wi_1]; rw [if_neg (by omega), if_neg (by omega)]; exact c7
          · intro t' i' ht' hi'
            have := cld t' i' ht' hi'
            simp only [ds_wi_1, nu_at]
            have x1 : ¬ (3 + t' = 14 ∧ i' = 2) := by omega
            by_cases e : t' = t ∧ i' = 6 * i + j
            · have x2 : 3 + t' = 3 + t ∧ i' = 6 * i + j := ⟨by omega, e.2⟩
              have x3 : 36 * t' + i' = 36 * t + (6 * i + j) := by omega
              rw [if_neg x1, if_pos x2]
              simp [x3]
            · have x2 : ¬ (3 + t' = 3 + t ∧ i' = 6 * i + j) := fun q => e ⟨by omega, q.2⟩
              have x3 : ¬ (36 * t' + i' = 36 * t + (6 * i + j)) := fun q => e ⟨by omega, by omega⟩
              rw [if_neg x1, if_neg x2]
              simp [x3, this]
          · simp only [ds_wi_1]; rw [if_neg (by omega), if_neg (by omega)]; exact c12
          · have := mld q hq
            simp only [ds_wi_1, nu_at]
            by_cases e : q = 36 * t + (6 * i + j)
            · simp [e]
            · simp [e, this]
theorem pub_sought (a : Int32) : Pub mt_X8_sought mt_X9_sought [.int a] := by
  intro σC σM ⟨N, hN, hC, hM⟩
  obtain ⟨⟨n2, n6⟩, m10, hl, hld, hg, hs, hsw⟩ := id hN
  obtain ⟨c0, c1, cl, c6, c7, cld, c12, c14, csk⟩ := id hC
  obtain ⟨m0, m7, ml, mld, m9, mS, mm, msk⟩ := id hM
  have hB : Both σC σM := ⟨N, hN, hC, hM⟩
  have b1 : q_bx a (σM.1 0 7) = q_rng a 0 (nI (N 0 7)) := by rw [m7, q_bx_rng (by omega)]
  by_cases hd : N 0 10 = 1
  · have d1 : ¬ σC.1 14 2 = 0 := by rw [c14, hd]; decide
    have d2 : ¬ σM.1 0 10 = 0 := by rw [mS, hd]; decide
    rcases rc0 (hi := N 0 7) (by omega) a with h1 | ⟨h1, l, hlm, rfl⟩
    · refine e_X8_sought a σC _ ⟨fun _ => ⟨fun h => absurd (by rw [c1]; exact h1) h, fun _ => ?_⟩, fun h => absurd h d1⟩
      exact e_X9_sought a σM _ ⟨fun _ => ⟨fun h => absurd (by rw [b1]; exact h1) h, fun _ => ⟨rfl, hB⟩⟩, fun h => absurd h d2⟩
    · have vi : vp_in (nI l) 10 := vp_in_nI (by omega) (by decide)
      have cla := nI_clamp (n := l) (by omega)
      refine e_X8_sought (nI l) σC _ ⟨fun _ => ⟨fun _ => ⟨vi, ?_⟩, fun h => absurd h (by rw [c1, h1]; decide)⟩, fun h => absurd h d1⟩
      refine e_X9_sought (nI l) σM _ ⟨fun _ => ⟨fun _ => ⟨vi, ?_, hB⟩, fun h => absurd h (by rw [b1, h1]; decide)⟩, fun h => absurd h d2⟩
      rw [cla, (csk hd).1 l hlm, (msk hd).1 l hlm]
  · have h0 : N 0 10 = 0 := by omega
    have d1 : σC.1 14 2 = 0 := by rw [c14, h0]; rfl
    have d2 : σM.1 0 10 = 0 := by rw [mS, h0]; rfl
    exact e_X8_sought a σC _ ⟨fun h => absurd d1 h, fun _ => e_X9_sought a σM _ ⟨fun h => absurd d2 h, fun _ => ⟨rfl, hB⟩⟩⟩
/-- lowest terms, as the class makes them -/
theorem low_q {o r u v : Nat} (h : Low o r u v) : 0 ≤ lN o ∧ 0 ≤ (151200 : Int64) * (nI r).toInt64 ∧ (151200 : Int64) * (nI r).toInt64 < 562949953421312 ∧ q_low0 (lN o) ((151200 : Int64) * (nI r).toInt64) 0 = lN u ∧ q_low0 (lN o) ((151200 : Int64) * (nI r).toInt64) 1 = lN v := by
  obtain ⟨⟨r1, r2⟩, ho, e1, e2⟩ := h
  have er : (151200 : Int64) * (nI r).toInt64 = lN (151200 * r) := by rw [nI_l (by omega), show (151200 : Int64) = lN 151200 from rfl, lN_mul]
  have hg : q_gcd (lN o) (lN (151200 * r)) = lN (Nat.gcd o (151200 * r)) := by
    unfold q_gcd
    rw [pk_lT (by omega), pk_lT (by omega)]
    rfl
  have g0 : 0 < Nat.gcd o (151200 * r) := Nat.gcd_pos_of_pos_right _ (by omega)
  have gl : Nat.gcd o (151200 * r) ≤ 151200 * r := Nat.gcd_le_right _ (by omega)
  have gp : (0 : Int64) < lN (Nat.gcd o (151200 * r)) := by rw [show (0 : Int64) = lN 0 from rfl, pk_lLT (by decide) (by omega)]; exact g0
  rw [er]
  have nn : ∀ k : Nat, k < 2 ^ 63 → (0 : Int64) ≤ lN k := fun k hk => by rw [show (0 : Int64) = lN 0 from rfl, pk_lLE (by decide) hk]; omega
  refine ⟨nn _ (by omega), nn _ (by omega), ?_, ?_, ?_⟩
  · rw [show (562949953421312 : Int64) = lN 562949953421312 from rfl, pk_lLT (by omega) (by decide)]
    omega
  · unfold q_low0
    rw [if_pos rfl, hg, if_pos gp, pk_lDiv (by omega) g0 (by omega)]
    congr 1
    exact Nat.div_eq_of_eq_mul_left g0 e1
  · unfold q_low0
    rw [if_neg (by decide), hg, if_pos gp, pk_lDiv (by omega) g0 (by omega)]
    congr 1
    exact Nat.div_eq_of_eq_mul_left g0 e2
theorem pub_better (a : Int32) : Pub mt_X8_better mt_X9_better [.int a] := by
  intro σC σM ⟨N, hN, hC, hM⟩
  obtain ⟨⟨n2, n6⟩, m10, hl, hld, hg, hs, hsw⟩ := id hN
  obtain ⟨c0, c1, cl, c6, c7, cld, c12, c14, csk⟩ := id hC
  obtain ⟨m0, m7, ml, mld, m9, mS, mm, msk⟩ := id hM
  have hB : Both σC σM := ⟨N, hN, hC, hM⟩
  by_cases hd : N 0 10 = 1
  · have d1 : ¬ σC.1 14 2 = 0 := by rw [c14, hd]; decide
    have d2 : ¬ σM.1 0 10 = 0 := by rw [mS, hd]; decide
    obtain ⟨-, -, o, r, o1, o2, o3⟩ := csk hd
    obtain ⟨-, p1, p2⟩ := msk hd
    obtain ⟨q1, q2, q3, q4, q5⟩ := low_q o3
    rcases rc0 (hi := 2) (by decide) a with h1 | ⟨h1, w, hw, rfl⟩
    · have na := q_rng_0.mp (show q_rng a 0 2 = 0 from h1)
      have na0 : ¬ a = 0 := fun e => na (le1.mpr (Or.inl e))
      have na1 : ¬ a = 1 := fun e => na (le1.mpr (Or.inr e))
      exact e_X8_better a σC _ ⟨fun _ => ⟨fun h => absurd h1 h, fun _ => e_X9_better a σM _ ⟨fun _ => ⟨fun _ => ⟨fun _ => ⟨rfl, hB⟩, fun h => absurd h na1⟩, fun h => absurd h na0⟩, fun h => absurd h d2⟩⟩, fun h => absurd h d1⟩
    · have gg : ¬ q_rng (nI w) 0 2 = 0 := by rw [show q_rng (nI w) 0 2 = 1 from h1]; decide
      rcases (show w = 0 ∨ w = 1 by omega) with rfl | rfl
      · refine e_X8_better 0 σC _ ⟨fun _ => ⟨fun _ => ⟨by rw [o1]; exact q1, by rw [o2]; exact q2, by rw [o2]; exact q3, ?_⟩, fun h => absurd h gg⟩, fun h => absurd h d1⟩
        refine e_X9_better 0 σM _ ⟨fun _ => ⟨fun h => absurd rfl h, fun _ => ⟨?_, hB⟩⟩, fun h => absurd h d2⟩
        rw [o1, o2, q4, p1]
      · refine e_X8_better 1 σC _ ⟨fun _ => ⟨fun _ => ⟨by rw [o1]; exact q1, by rw [o2]; exact q2, by rw [o2]; exact q3, ?_⟩, fun h => absurd h gg⟩, fun h => absurd h d1⟩
        refine e_X9_better 1 σM _ ⟨fun _ => ⟨fun _ => ⟨fun h => absurd rfl h, fun _ => ⟨?_, hB⟩⟩, fun h => absurd h (by decide)⟩, fun h => absurd h d2⟩
        rw [o1, o2, q5, p2]
  · have h0 : N 0 10 = 0 := by omega
    have d1 : σC.1 14 2 = 0 := by rw [c14, h0]; rfl
    have d2 : σM.1 0 10 = 0 := by rw [mS, h0]; rfl
    exact e_X8_better a σC _ ⟨fun h => absurd d1 h, fun _ => e_X9_better a σM _ ⟨fun h => absurd d2 h, fun _ => ⟨rfl, hB⟩⟩⟩
