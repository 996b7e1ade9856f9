theorem kL.k {σ s : ds_S} (h : kL 10 9 σ s) : kC σ s := ⟨fun c _ => by rw [h.1], fun c a b _ _ _ => h.2 c b a⟩
theorem row3 {N : Nt} {σ : ds_S} (hC : RC N σ) {t : Nat} (ht : t < 3) : ∀ i, i < 36 → σ.1 (3 + t) i = nI (N 7 (36 * t + i)) := fun i hi => hC.2.2.2.2.2.1 t i ht hi
theorem Nok.ld {N : Nt} (h : Nok N) {t i : Nat} (ht : t < 3) (hi : i < 36) : N 7 (36 * t + i) ≤ 50 := h.2.2.2.1 _ (by omega)
theorem pub_share (a b c d e : Int32) : Pub mt_X8_share mt_X9_share [.int a, .int b, .int c, .int d, .int e] := by
  intro σC σM ⟨N, hN, hC, hM⟩
  have n6 := hN.1.2
  have m10 := hN.2.1
  have hB : Both σC σM := ⟨N, hN, hC, hM⟩
  have c0 := hC.1
  have c1 := hC.2.1
  have bb : ∀ x, q_bx x (σM.1 0 0) = q_rng x 0 (nI (N 0 0)) := fun x => by rw [hM.1, q_bx_rng (by omega)]
  have bl : ∀ x, q_bx x (σM.1 0 7) = q_rng x 0 (nI (N 0 7)) := fun x => by rw [hM.2.1, q_bx_rng (by omega)]
  rcases rc0 (hi := N 0 0) (by omega) a with h1 | ⟨h1, i, hi, rfl⟩
  · refine e_X8_share a b c d e σC _ ⟨fun _ => ?_, fun h => absurd (by rw [c0]; exact h1) h⟩
    exact e_X9_share a b c d e σM _ ⟨fun _ => ⟨rfl, hB⟩, fun h => absurd (by rw [bb]; exact h1) h⟩
  have x1 : ¬ q_rng (nI i) 0 (σC.1 1 0) = 0 := by rw [c0, h1]; decide
  have x2 : ¬ q_bx (nI i) (σM.1 0 0) = 0 := by rw [bb, h1]; decide
  rcases rc0 (hi := N 0 0) (by omega) b with h2 | ⟨h2, j, hj, rfl⟩
  · refine e_X8_share (nI i) b c d e σC _ ⟨fun h => absurd h x1, fun _ => ⟨fun _ => ?_, fun h => absurd (by rw [c0]; exact h2) h⟩⟩
    exact e_X9_share (nI i) b c d e σM _ ⟨fun h => absurd h x2, fun _ => ⟨fun _ => ⟨rfl, hB⟩, fun h => absurd (by rw [bb]; exact h2) h⟩⟩
  have x3 : ¬ q_rng (nI j) 0 (σC.1 1 0) = 0 := by rw [c0, h2]; decide
  have x4 : ¬ q_bx (nI j) (σM.1 0 0) = 0 := by rw [bb, h2]; decide
  rcases rc0 (hi := N 0 7) (by omega) c with h3 | ⟨h3, l, hl, rfl⟩
  · refine e_X8_share (nI i) (nI j) c d e σC _ ⟨fun h => absurd h x1, fun _ => ⟨fun h => absurd h x3, fun _ => ⟨fun h => absurd (by rw [c1]; exact h3) h, fun _ => ?_⟩⟩⟩
    exact e_X9_share (nI i) (nI j) c d e σM _ ⟨fun h => absurd h x2, fun _ => ⟨fun h => absurd h x4, fun _ => ⟨fun h => absurd (by rw [bl]; exact h3) h, fun _ => ⟨rfl, hB⟩⟩⟩⟩
  have x5 : ¬ q_rng (nI l) 0 (σC.1 1 1) = 0 := by rw [c1, h3]; decide
  have x6 : ¬ q_bx (nI l) (σM.1 0 7) = 0 := by rw [bl, h3]; decide
  have ed : q_in d.toInt64 0 1 = q_rng d 0 2 := q_in_0_1 d
  have ee : q_in e.toInt64 0 1 = q_rng e 0 2 := q_in_0_1 e
  rcases rc0 (hi := 2) (by decide) d with h4 | ⟨h4, y, hy, rfl⟩
  · refine e_X8_share (nI i) (nI j) (nI l) d e σC _ ⟨fun h => absurd h x1, fun _ => ⟨fun h => absurd h x3, fun _ => ⟨fun _ => ⟨fun _ => ?_, fun h => absurd h4 h⟩, fun h => absurd h x5⟩⟩⟩
    exact e_X9_share (nI i) (nI j) (nI l) d e σM _ ⟨fun h => absurd h x2, fun _ => ⟨fun h => absurd h x4, fun _ => ⟨fun _ => ⟨fun _ => ⟨rfl, hB⟩, fun h => absurd (by rw [ed]; exact h4) h⟩, fun h => absurd h x6⟩⟩⟩
  have x7 : ¬ q_rng (nI y) 0 2 = 0 := by rw [show q_rng (nI y) 0 2 = 1 from h4]; decide
  have x8 : ¬ q_in (nI y).toInt64 0 1 = 0 := by rw [ed]; exact x7
  rcases rc0 (hi := 2) (by decide) e with h5 | ⟨h5, p, hp, rfl⟩
  · refine e_X8_share (nI i) (nI j) (nI l) (nI y) e σC _ ⟨fun h => absurd h x1, fun _ => ⟨fun h => absurd h x3, fun _ => ⟨fun _ => ⟨fun h => absurd h x7, fun _ => ⟨fun h => absurd h5 h, fun _ => ?_⟩⟩, fun h => absurd h x5⟩⟩⟩
    exact e_X9_share (nI i) (nI j) (nI l) (nI y) e σM _ ⟨fun h => absurd h x2, fun _ => ⟨fun h => absurd h x4, fun _ => ⟨fun _ => ⟨fun h => absurd h x8, fun _ => ⟨fun h => absurd (by rw [ee]; exact h5) h, fun _ => ⟨rfl, hB⟩⟩⟩, fun h => absurd h x6⟩⟩⟩
  have x9 : ¬ q_rng (nI p) 0 2 = 0 := by rw [show q_rng (nI p) 0 2 = 1 from h5]; decide
  refine e_X8_share (nI i) (nI j) (nI l) (nI y) (nI p) σC _ ⟨fun h => absurd h x1, fun _ => ⟨fun h => absurd h x3, fun _ => ⟨fun _ => ⟨fun h => absurd h x7, fun _ => ⟨fun _ => ?_, fun h => absurd h x9⟩⟩, fun h => absurd h x5⟩⟩⟩
  refine ev_findOne hN hC.rc hj fun s1 hs1 hW => ev_sendOne hN (hC.k hs1.k).rc hN.w4 hj hi hW fun s2 hs2 hov => ?_
  have ix : (2 : Int32) * nI l + nI y = nI (2 * l + y) := by rw [show (2 : Int32) = nI 2 from rfl, pk_mul, nI_add]
  have hov' : s2.2 10 (2 * l + y) = lN (shN N (N 4) 99 i j (2 * l + y)) := hov _ (by omega)
  have bsh := shN_le (mo := 99) (i := i) (j := j) (k := 2 * l + y) hN hN.w4 (by omega)
  rw [ix, nI_clamp (n := 2 * l + y) (by omega), hov', show (151200 : Int64) = lN 151200 from rfl]
  refine ⟨vp_in_nI (by omega) (by decide), nn64 (by omega), ?_⟩
  refine (ev_shareM hN hN.w4 hM.sm hi hj hl (y := y) (p := p) (by omega) (by omega) (K := fun x s => x = q_low0 (lN (shN N (N 4) 99 i j (2 * l + y))) (lN 151200) (nI p) ∧ Both s2 s) ?_).mono ?_
  · intro s a b hk hr
    have ql := q_low0_red hr (by decide) (by omega) (by decide)
    refine ⟨?_, Both.k hN hC hM (hs1.k.trans hs2.k) hk⟩
    rcases (show p = 0 ∨ p = 1 by omega) with rfl | rfl
    · rw [show (nI 0) = (0 : Int32) from rfl, ql.1]; rfl
    · rw [show (nI 1) = (1 : Int32) from rfl, ql.2]; rfl
  · rintro r s ⟨x, rfl, rfl, hBB⟩
    exact ⟨rfl, hBB⟩
theorem pub_on (a b c d : Int32) : Pub mt_X8_on mt_X9_on [.int a, .int b, .int c, .int d] := by
  intro σC σM ⟨N, hN, hC, hM⟩
  have n6 := hN.1.2
  have m10 := hN.2.1
  have hB : Both σC σM := ⟨N, hN, hC, hM⟩
  have c1 := hC.2.1
  have bt : q_bx a 3 = q_rng a 0 3 := q_bx_rng (n := 3) (by decide) a
  have bl : ∀ x, q_bx x (σM.1 0 7) = q_rng x 0 (nI (N 0 7)) := fun x => by rw [hM.2.1, q_bx_rng (by omega)]
  rcases rc0 (hi := 3) (by decide) a with h1 | ⟨h1, t, ht, rfl⟩
  · refine e_X8_on a b c d σC _ ⟨fun _ => ?_, fun h => absurd h1 h⟩
    exact e_X9_on a b c d σM _ ⟨fun _ => ⟨rfl, hB⟩, fun h => absurd (by rw [bt]; exact h1) h⟩
  have x1 : ¬ q_rng (nI t) 0 3 = 0 := by rw [show q_rng (nI t) 0 3 = 1 from h1]; decide
  have x2 : ¬ q_bx (nI t) 3 = 0 := by rw [bt]; exact x1
  rcases rc0 (hi := N 0 7) (by omega) b with h3 | ⟨h3, l, hl, rfl⟩
  · refine e_X8_on (nI t) b c d σC _ ⟨fun h => absurd h x1, fun _ => ⟨fun h => absurd (by rw [c1]; exact h3) h, fun _ => ?_⟩⟩
    exact e_X9_on (nI t) b c d σM _ ⟨fun h => absurd h x2, fun _ => ⟨fun h => absurd (by rw [bl]; exact h3) h, fun _ => ⟨rfl, hB⟩⟩⟩
  have x5 : ¬ q_rng (nI l) 0 (σC.1 1 1) = 0 := by rw [c1, h3]; decide
  have x6 : ¬ q_bx (nI l) (σM.1 0 7) = 0 := by rw [bl, h3]; decide
  have ed : q_in c.toInt64 0 1 = q_rng c 0 2 := q_in_0_1 c
  have ee : q_in d.toInt64 0 1 = q_rng d 0 2 := q_in_0_1 d
  rcases rc0 (hi := 2) (by decide) c with h4 | ⟨h4, y, hy, rfl⟩
  · refine e_X8_on (nI t) (nI l) c d σC _ ⟨fun h => absurd h x1, fun _ => ⟨fun _ => ⟨fun _ => ?_, fun h => absurd h4 h⟩, fun h => absurd h x5⟩⟩
    exact e_X9_on (nI t) (nI l) c d σM _ ⟨fun h => absurd h x2, fun _ => ⟨fun _ => ⟨fun _ => ⟨rfl, hB⟩, fun h => absurd (by rw [ed]; exact h4) h⟩, fun h => absurd h x6⟩⟩
  have x7 : ¬ q_rng (nI y) 0 2 = 0 := by rw [show q_rng (nI y) 0 2 = 1 from h4]; decide
  have x8 : ¬ q_in (nI y).toInt64 0 1 = 0 := by rw [ed]; exact x7
  rcases rc0 (hi := 2) (by decide) d with h5 | ⟨h5, p, hp, rfl⟩
  · refine e_X8_on (nI t) (nI l) (nI y) d σC _ ⟨fun h => absurd h x1, fun _ => ⟨fun _ => ⟨fun h => absurd h x7, fun _ => ⟨fun h => absurd h5 h, fun _ => ?_⟩⟩, fun h => absurd h x5⟩⟩
    exact e_X9_on (nI t) (nI l) (nI y) d σM _ ⟨fun h => absurd h x2, fun _ => ⟨fun _ => ⟨fun h => absurd h x8, fun _ => ⟨fun h => absurd (by rw [ee]; exact h5) h, fun _ => ⟨rfl, hB⟩⟩⟩, fun h => absurd h x6⟩⟩
  have x9 : ¬ q_rng (nI p) 0 2 = 0 := by rw [show q_rng (nI p) 0 2 = 1 from h5]; decide
  have x10 : ¬ q_in (nI p).toInt64 0 1 = 0 := by rw [ee]; exact x9
  obtain ⟨w1, w2, w3⟩ := row_at ht
  have ix : (2 : Int32) * nI l + nI y = nI (2 * l + y) := by rw [show (2 : Int32) = nI 2 from rfl, pk_mul, nI_add]
  have v20 : vp_in (nI (2 * l + y)) 20 := vp_in_nI (by omega) (by decide)
  refine e_X8_on (nI t) (nI l) (nI y) (nI p) σC _ ⟨fun h => absurd h x1, fun _ => ⟨fun _ => ⟨fun h => absurd h x7, fun _ => ⟨fun _ => ?_, fun h => absurd h x9⟩⟩, fun h => absurd h x5⟩⟩
  refine ev_findAllC hN hC.rc 99 fun s1 hs1 hW => ⟨vp_in_nI ht (by decide), ?_⟩
  rw [w1]
  have hC1 := hC.k hs1.k
  refine ev_sendTable hN hC1.rc hN.w4 (mo := 99) w2 w3 (row3 hC1.rc ht) (fun i hi => by have := hN.ld ht hi; omega) (fun t ht _ => hW t ht) fun s2 hs2 hov => ?_
  have bon := onN_le (mo := 99) hN hN.w4 (x := fun i => N 7 (36 * t + i)) (c := 50) (k := 2 * l + y) (fun i hi => hN.ld ht hi) (by omega)
  rw [ix, nI_clamp (n := 2 * l + y) (by omega), hov _ (by omega), show (151200 : Int64) = lN 151200 from rfl]
  refine ⟨v20, nn64 (by omega), ?_⟩
  refine e_X9_on (nI t) (nI l) (nI y) (nI p) σM _ ⟨fun h => absurd h x2, fun _ => ⟨fun _ => ⟨fun h => absurd h x8, fun _ => ⟨fun _ => ?_, fun h => absurd h x10⟩⟩, fun h => absurd h x6⟩⟩
  refine ev_findOn hN hN.w4 hM.sm ht (fun i hi => by have := hN.ld ht hi; omega) fun s3 hs3 hO => ?_
  obtain ⟨a, b, qa, qb, hr⟩ := hO (2 * l + y) (by omega)
  have ql := q_low0_red hr (by decide) (by omega) (by decide)
  rw [ix, nI_clamp (n := 2 * l + y) (by omega), qa, qb]
  have hBB := Both.k hN hC hM (hs1.k.trans hs2.k) hs3
  rcases (show p = 0 ∨ p = 1 by omega) with rfl | rfl
  · exact ⟨fun h => absurd rfl h, fun _ => ⟨v20, by rw [show (nI 0) = (0 : Int32) from rfl, ql.1], hBB⟩⟩
  · exact ⟨fun _ => ⟨v20, by rw [show (nI 1) = (1 : Int32) from rfl, ql.2], hBB⟩, fun h => absurd h (by decide)⟩
