theorem pub_line (a b c d : Int32) : Pub mt_X8_line mt_X9_line [.int a, .int b, .int c, .int d] := by
  intro σC σM ⟨N, hN, hC, hM⟩
  obtain ⟨⟨n2, n6⟩, m10, hl, hld, hg, hs, hsw⟩ := id hN
  obtain ⟨c0, c1, cl, c6, c7, cld, c12, c14, csk⟩ := id hC
  obtain ⟨m0, m7, ml, mld, m9, mS, mm, msk⟩ := id hM
  have hB : Both σC σM := ⟨N, hN, hC, hM⟩
  have bb : ∀ x, q_bx x (σM.1 0 0) = q_rng x 0 (nI (N 0 0)) := fun x => by rw [m0, q_bx_rng (by omega)]
  have ec : q_in c.toInt64 1 100 = q_rng c 1 101 := q_in_1_100 c
  have ed : q_in d.toInt64 1 20 = q_rng d 1 21 := q_in_1_20 d
  rcases q_pair_nI (n := N 0 0) (by omega) a b with ⟨h2, h3⟩ | ⟨h2, i, j, hi, hj, hij, rfl, rfl, r1, r2⟩
  · refine e_X8_line a b c d σC _ ⟨fun h => absurd (by rw [c0]; exact h2) h, fun _ => ?_⟩
    refine e_X9_line a b c d σM _ ⟨fun _ => ⟨rfl, hB⟩, fun k1 => ⟨fun _ => ⟨rfl, hB⟩, fun k2 => ⟨fun k3 => ?_, fun _ => ⟨rfl, hB⟩⟩⟩⟩
    rw [bb] at k1 k2
    rcases h3 with h3 | h3 | h3
    · exact absurd h3 k1
    · exact absurd h3 k2
    · exact absurd h3 k3
  · have gp : ¬ q_pair (nI i) (nI j) (σC.1 1 0) = 0 := by rw [c0, h2]; decide
    have gi : ¬ q_bx (nI i) (σM.1 0 0) = 0 := by rw [bb, r1]; decide
    have gj : ¬ q_bx (nI j) (σM.1 0 0) = 0 := by rw [bb, r2]; decide
    have gij : ¬ nI i = nI j := fun q => hij ((nI_eq (by omega) (by omega)).mp q)
    rcases rcl 1 101 (by decide) (by decide) c with h4 | ⟨h4, r, hr1, hr2, rfl⟩
    · have hM' : ds_E mt_X9_line Ym [.ref 0, .int (nI i), .int (nI j), .int c, .int d] σM (fun r' σM' => r' = some (.int (-2)) ∧ Both σC σM') := e_X9_line (nI i) (nI j) c d σM _ ⟨fun h => absurd h gi, fun _ => ⟨fun h => absurd h gj, fun _ => ⟨fun _ => ⟨fun _ => ⟨rfl, hB⟩, fun h => absurd (by rw [ec]; exact h4) h⟩, fun h => absurd h gij⟩⟩⟩
      have nd := q_rng_0.mp (show q_rng c 1 101 = 0 from h4)
      refine e_X8_line (nI i) (nI j) c d σC _ ⟨fun _ => ⟨fun _ => hM', fun k1 => ⟨fun _ => hM', fun k2 => ?_⟩⟩, fun h => absurd h gp⟩
      exfalso
      apply nd
      refine ⟨nlt32.mp k1, ?_⟩
      have e1 : (100 : Int32).toInt = 100 := rfl
      have e2 : (101 : Int32).toInt = 101 := rfl
      rw [fa_lt, e1] at k2
      rw [fa_lt, e2]
      omega
    · have x1 : ¬ nI r < (1 : Int32) := nI_nlt (a := r) (b := 1) hr1 (by omega)
      have x2 : ¬ (100 : Int32) < nI r := nI_nlt (a := 100) (b := r) (by omega) (by decide)
      have x3 : ¬ q_in (nI r).toInt64 1 100 = 0 := by rw [ec, show q_rng (nI r) 1 101 = 1 from h4]; decide
      rcases rcl 1 21 (by decide) (by decide) d with h5 | ⟨h5, w, hw1, hw2, rfl⟩
      · refine e_X8_line (nI i) (nI j) (nI r) d σC _ ⟨fun _ => ⟨fun h => absurd h x1, fun _ => ⟨fun h => absurd h x2, fun _ => ⟨fun h => absurd h5 h, fun _ => ?_⟩⟩⟩, fun h => absurd h gp⟩
        exact e_X9_line (nI i) (nI j) (nI r) d σM _ ⟨fun h => absurd h gi, fun _ => ⟨fun h => absurd h gj, fun _ => ⟨fun _ => ⟨fun h => absurd h x3, fun _ => ⟨fun h => absurd (by rw [ed]; exact h5) h, fun _ => ⟨rfl, hB⟩⟩⟩, fun h => absurd h gij⟩⟩⟩
      · have x4 : ¬ q_rng (nI w) 1 21 = 0 := by rw [show q_rng (nI w) 1 21 = 1 from h5]; decide
        have x5 : ¬ q_in (nI w).toInt64 1 20 = 0 := by rw [ed]; exact x4
        by_cases hm : N 0 7 = 10
        · refine e_X8_line (nI i) (nI j) (nI r) (nI w) σC _ ⟨fun _ => ⟨fun h => absurd h x1, fun _ => ⟨fun h => absurd h x2, fun _ => ⟨fun _ => ⟨fun h => absurd h (by rw [c1, hm]; decide), fun _ => ?_⟩, fun h => absurd h x4⟩⟩⟩, fun h => absurd h gp⟩
          exact e_X9_line (nI i) (nI j) (nI r) (nI w) σM _ ⟨fun h => absurd h gi, fun _ => ⟨fun h => absurd h gj, fun _ => ⟨fun _ => ⟨fun h => absurd h x3, fun _ => ⟨fun _ => ⟨fun h => absurd (by rw [m7, hm]; rfl) h, fun _ => ⟨rfl, hB⟩⟩, fun h => absurd h x5⟩⟩, fun h => absurd h gij⟩⟩⟩
        · have hlt : N 0 7 < 10 := by omega
          have y1 : nI (N 0 7) < (10 : Int32) := nI_lt (b := 10) hlt (by decide)
          have y2 : ¬ nI (N 0 7) = (10 : Int32) := fun e => hm ((nI_eq (b := 10) (by omega) (by decide)).mp e)
          have vi : vp_in (nI (N 0 7)) 10 := vp_in_nI hlt (by decide)
          have cla := nI_clamp (n := N 0 7) (by omega)
          have sub : nI (N 0 7) + 1 - 1 = nI (N 0 7) := by rw [nI_1, nI_pred]
          refine e_X8_line (nI i) (nI j) (nI r) (nI w) σC _ ⟨fun _ => ⟨fun h => absurd h x1, fun _ => ⟨fun h => absurd h x2, fun _ => ⟨fun _ => ⟨fun _ => ev_forget ?_, fun h => absurd (by rw [c1]; exact y1) h⟩, fun h => absurd h x4⟩⟩⟩, fun h => absurd h gp⟩
          have e11 : (ds_wi σC 14 2 0).1 1 1 = nI (N 0 7) := c1
          refine e_X1_join (nI i) (nI j) (nI r) (nI w) _ _ ⟨by rw [e11]; exact vi, by rw [e11]; exact vi, by rw [e11]; exact vi, by rw [e11]; exact vi, _, rfl, ?_⟩
          refine e_X9_line (nI i) (nI j) (nI r) (nI w) σM _ ⟨fun h => absurd h gi, fun _ => ⟨fun h => absurd h gj, fun _ => ⟨fun _ => ⟨fun h => absurd h x3, fun _ => ⟨fun _ => ⟨fun _ => ?_, fun h => absurd h (by rw [m7]; exact y2)⟩, fun h => absurd h x5⟩⟩, fun h => absurd h gij⟩⟩⟩
          rw [m7]
          refine ⟨vi, vi, vi, vi, vi, vi, by rw [e11], ?_⟩
          rw [e11, cla, nI_1]
          have s5 : ∀ l, l < N 0 7 → N 5 l ≤ 1 := fun l h => (hl l h).2.2.2.2.2.2.2.1
          refine ⟨nu (nu (nu (nu (nu (nu (nu (nu N 1 (N 0 7) i) 2 (N 0 7) j) 3 (N 0 7) r) 4 (N 0 7) w) 5 (N 0 7) 0) 6 (N 0 7) 0) 0 7 (N 0 7 + 1)) 0 10 0, ⟨⟨n2, n6⟩, hlt, fun l hj' => ?_, hld, hg, Nat.zero_le _, fun h => no01 h⟩, ⟨c0, rfl, fun l hj' => ?_, ?_, ?_, ?_, c12, rfl, fun h => no01 h⟩, ⟨m0, rfl, fun l hj' => ?_, mld, m9, rfl, mm, fun h => no01 h⟩⟩
          · have hj2 : l < N 0 7 + 1 := hj'
            by_cases e : l = N 0 7
            · subst e
              simp only [nu_at]
              simp
              omega
            · have := hl l (by omega)
              simp only [nu_at]
              simp [e]
              simpa using this
          · have hj2 : l < N 0 7 + 1 := hj'
            by_cases e : l = N 0 7
            · subst e
              simp only [nu_at, ds_wi_1]
              simp
            · have := cl l (by omega)
              simp only [nu_at, ds_wi_1]
              simp [e]
              simpa using this
          · show σC.1 1 6 = nI (bitsOf _ (N 0 7 + 1))
            rw [c6]
            show nI (bitsOf (N 5) (N 0 7)) = nI (bitsOf _ (N 0 7) + _ * 2 ^ (N 0 7))
            congr 1
            simp only [nu_at]
            simp
            apply bitsOf_cong
            intro l hl'
            simp [nu_at, show l ≠ N 0 7 by omega]
          · show σC.1 1 7 = nI (bitsOf _ (N 0 7 + 1))
            rw [c7]
            show nI (bitsOf (N 6) (N 0 7)) = nI (bitsOf _ (N 0 7) + _ * 2 ^ (N 0 7))
            congr 1
            simp only [nu_at]
            simp
            apply bitsOf_cong
            intro l hl'
            simp [nu_at, show l ≠ N 0 7 by omega]
          · intro t q h1 h2
            have := cld t q h1 h2
            simp only [ds_wi_1]
            rw [if_neg (by omega), if_neg (by omega), if_neg (by omega), if_neg (by omega), if_neg (by omega), if_neg (by omega)]
            exact this
          · have hj2 : l < N 0 7 + 1 := hj'
            by_cases e : l = N 0 7
            · subst e
              simp only [nu_at, ds_wi_1]
              simp
              exact rfl
            · have := ml l (by omega)
              simp only [nu_at, ds_wi_1]
              simp [e]
              simpa using this
/-! Arrays.fill -/
theorem ev_fill {c : Nat} {v : Int32} {σ : ds_S} {K : ds_S → Prop} (hk : ds_k Yc c 10) (hn : Yc.2.2.1 c < 2 ^ 31) (h : K (ds_si σ c (fun k => if k < Yc.2.2.1 c then v else σ.1 c k))) : ds_EV mt_J7_fill_53178 Yc [.ref c, .int v] σ K := by
  refine e_J7_fill_53178 c v σ _ ⟨hk, Yc.2.2.1 c + 1, ?_⟩
  generalize hQ : (fun r σ' => r = none ∧ K σ') = Q
  have hq : Q none (ds_si σ c (fun k => if k < Yc.2.2.1 c then v else σ.1 c k)) := by rw [← hQ]; exact ⟨rfl, h⟩
  have key : ∀ (d k : Nat), k + d = Yc.2.2.1 c → w_J7_fill_53178_5 (d + 1) c v (nI k) (Int32.ofNat (Yc.2.2.1 c)) (ds_si σ c (fun j => if j < k then v else σ.1 c j)) Q := by
    intro d
    induction d with
    | zero =>
      intro k hk'
      obtain rfl : k = Yc.2.2.1 c := by omega
      rw [w_J7_fill_53178_5]
      exact ⟨fun _ => hq, fun h => absurd (nI_le (Nat.le_refl _) hn) h⟩
    | succ d ih =>
      intro k hk'
      rw [w_J7_fill_53178_5]
      refine ⟨fun h => absurd h (nI_ge (by omega) hn), fun _ => ⟨hk, vp_in_nI (by omega) hn, ?_⟩⟩
      rw [nI_1, nI_clamp (by omega), ds_wi_si]
      have e : upd (fun j => if j < k then v else σ.1 c j) k v = (fun j => if j < k + 1 then v else σ.1 c j) := by
        funext j
        unfold upd
        by_cases h1 : j = k
        · simp [h1]
        · by_cases h2 : j < k
          · rw [if_neg h1]; dsimp only; rw [if_pos h2, if_pos (by omega)]
          · rw [if_neg h1]; dsimp only; rw [if_neg h2, if_neg (by omega)]
      rw [e]
      exact ih (k + 1) (by omega)
  have := key (Yc.2.2.1 c) 0 (by omega)
  have e0 : ds_si σ c (fun j => if j < 0 then v else σ.1 c j) = σ := by
    have : (fun j => if j < 0 then v else σ.1 c j) = σ.1 c := by funext j; simp
    rw [this, ds_si_self]
  rw [e0] at this
  exact this
theorem pub_boxes (a : Int32) : Pub mt_X8_boxes mt_X9_boxes [.int a] := by
  intro σC σM ⟨N, hN, hC, hM⟩
  obtain ⟨⟨n2, n6⟩, m10, hl, hld, hg, hs, hsw⟩ := id hN
  obtain ⟨c0, c1, cl, c6, c7, cld, c12, c14, csk⟩ := id hC
  obtain ⟨m0, m7, ml, mld, m9, mS, mm, msk⟩ := id hM
  have hB : Both σC σM := ⟨N, hN, hC, hM⟩
  have ea : q_in a.toInt64 2 6 = q_rng a 2 7 := q_in_2_6 a
  rcases rcl 2 7 (by decide) (by decide) a with h1 | ⟨h1, n, hn1, hn2, rfl⟩
  · have hM' : ds_E mt_X9_boxes Ym [.ref 0, .int a] σM (fun r' σM' => r' = some (.int (-2)) ∧ Both σC σM') := e_X9_boxes a σM _ ⟨fun h => absurd (by rw [ea]; exact h1) h, fun _ => ⟨rfl, hB⟩⟩
    have nd := q_rng_0.mp (show q_rng a 2 7 = 0 from h1)
    refine e_X8_boxes a σC _ ⟨fun _ => hM', fun k1 => ⟨fun k2 => ?_, fun _ => hM'⟩⟩
    exfalso
    apply nd
    refine ⟨nlt32.mp k1, ?_⟩
    have e1 : (6 : Int32).toInt = 6 := rfl
    have e2 : (7 : Int32).toInt = 7 := rfl
    rw [fa_le, e1] at k2
    rw [fa_lt, e2]
    omega
  · have x1 : ¬ nI n < (2 : Int32) := nI_nlt (a := n) (b := 2) hn1 (by omega)
    have x2 : nI n ≤ (6 : Int32) := nI_le (b := 6) (by omega) (by decide)
    have x3 : ¬ q_in (nI n).toInt64 2 6 = 0 := by rw [ea, show q_rng (nI n) 2 7 = 1 from h1]; decide
    refine e_X8_boxes (nI n) σC _ ⟨fun h => absurd h x1, fun _ => ⟨fun _ => ?_, fun h => absurd x2 h⟩⟩
    refine e_X1_renew (nI n) σC _ ⟨rfl, 4, ?_⟩
    have last : ∀ σ', (∀ t i, t < 3 → i < 36 → σ'.1 (3 + t) i = 0) → σ'.1 1 0 = nI n → σ'.1 1 1 = 0 → σ'.1 1 6 = 0 → σ'.1 1 7 = 0 → σ'.1 12 2 = σC.1 12 2 → ds_E mt_X9_boxes Ym [.ref 0, .int (nI n)] σM (fun r' σM' => r' = some (.int (σC.1 1 0)) ∧ Both (ds_wi σ' 14 2 0) σM') := by
      intro σ' l1 l2 l3 l4 l5 l6
      refine e_X9_boxes (nI n) σM _ ⟨fun _ => ⟨109, ?_⟩, fun h => absurd h x3⟩
      have fin : ∀ τ : ds_S, τ.1 0 0 = nI n → τ.1 0 7 = 0 → (∀ i, i < 108 → τ.1 7 i = 0) → τ.1 0 9 = σM.1 0 9 → τ.1 0 13 = -6 → Both (ds_wi σ' 14 2 0) (ds_wi τ 0 10 0) := by
        intro τ t1 t2 t3 t4 t5
        refine ⟨fun c k => if c = 7 then 0 else nu (nu (nu N 0 0 n) 0 7 0) 0 10 0 c k, ⟨⟨hn1, by show n ≤ 6; omega⟩, Nat.zero_le _, fun l hl' => absurd hl' (Nat.not_lt_zero l), fun i _ => Nat.zero_le _, hg, Nat.zero_le _, fun h => no01 h⟩, ⟨l2, l3, fun l hl' => absurd hl' (Nat.not_lt_zero l), l4, l5, ?_, ?_, rfl, fun h => no01 h⟩, ⟨t1, t2, fun l hl' => absurd hl' (Nat.not_lt_zero l), t3, ?_, rfl, t5, fun h => no01 h⟩⟩
        · intro t i ht hi
          rw [ds_wi_1, if_neg (by omega)]
          exact l1 t i ht hi
        · show σ'.1 12 2 = nI (N 0 9)
          rw [l6, c12]
        · show τ.1 0 9 = nI (N 0 9)
          rw [t4, m9]
      generalize hQ : (fun r' σM' => r' = some (Value.int (σC.1 1 0)) ∧ Both (ds_wi σ' 14 2 0) σM') = Q
      have hq : ∀ τ : ds_S, τ.1 0 0 = nI n → τ.1 0 7 = 0 → (∀ i, i < 108 → τ.1 7 i = 0) → τ.1 0 9 = σM.1 0 9 → τ.1 0 13 = -6 → Q (some (.int (σM.1 0 0))) (ds_wi τ 0 10 0) := by
        intro τ t1 t2 t3 t4 t5
        rw [← hQ]
        exact ⟨by rw [m0, c0], fin τ t1 t2 t3 t4 t5⟩
      have key : ∀ (d k : Nat) (τ : ds_S), k + d = 108 → τ.1 0 0 = nI n → τ.1 0 7 = 0 → (∀ i, i < k → τ.1 7 i = 0) → τ.1 0 9 = σM.1 0 9 → τ.1 0 13 = -6 → w_X9_boxes_34 (d + 1) (σM.1 0 0) (nI k) τ Q := by
        intro d
        induction d with
        | zero =>
          intro k τ hk t1 t2 t3 t4 t5
          obtain rfl : k = 108 := by omega
          rw [w_X9_boxes_34]
          exact ⟨fun _ => hq τ t1 t2 t3 t4 t5, fun h => absurd (nI_le (a := 108) (b := 108) (by omega) (by decide)) h⟩
        | succ d ih =>
          intro k τ hk t1 t2 t3 t4 t5
          rw [w_X9_boxes_34]
          refine ⟨fun h => absurd h (nI_ge (b := 108) (by omega) (by decide)), fun _ => ⟨vp_in_nI (by omega) (by decide), ?_⟩⟩
          rw [nI_1, nI_clamp (by omega)]
          refine ih (k + 1) _ (by omega) t1 t2 (fun i hi => ?_) t4 t5
          rw [ds_wi_1]
          by_cases e : i = k
          · simp [e]
          · rw [if_neg (fun q => e q.2)]
            exact t3 i (by omega)
      exact key 108 0 _ rfl rfl rfl (fun i hi => absurd hi (Nat.not_lt_zero i)) rfl mm
    have step : ∀ (t : Nat) (h : t < 3) (σ : ds_S) (K : ds_S → Prop), K (ds_si σ (3 + t) (fun k => if k < 36 then 0 else σ.1 (3 + t) k)) → ds_EV mt_J7_fill_53178 Yc [.ref (Yc.2.2.2 2 (nI t).toNatClampNeg), .int 0] σ K := by
      intro t h σ K hK
      obtain ⟨w1, w2, w3⟩ := row_at h
      rw [w1]
      refine ev_fill w2 (by rw [w3]; decide) ?_
      rw [w3]
      exact hK
    rw [w_X8_boxes_32]
    refine ⟨fun h => absurd h (by decide), fun _ => ⟨vp_in_nI (n := 0) (N := 3) (by decide) (by decide), step 0 (by decide) _ _ ?_⟩⟩
    rw [w_X8_boxes_32]
    refine ⟨fun h => absurd h (by decide), fun _ => ⟨vp_in_nI (n := 1) (N := 3) (by decide) (by decide), step 1 (by decide) _ _ ?_⟩⟩
    rw [w_X8_boxes_32]
    refine ⟨fun h => absurd h (by decide), fun _ => ⟨vp_in_nI (n := 2) (N := 3) (by decide) (by decide), step 2 (by decide) _ _ ?_⟩⟩
    rw [w_X8_boxes_32]
    refine ⟨fun _ => ev_forget (last _ ?_ rfl rfl rfl rfl rfl), fun h => absurd (by decide) h⟩
    intro t i ht hi
    rcases (show t = 0 ∨ t = 1 ∨ t = 2 by omega) with rfl | rfl | rfl
    · show (if i < 36 then (0 : Int32) else _) = 0
      rw [if_pos hi]
    · show (if i < 36 then (0 : Int32) else _) = 0
      rw [if_pos hi]
    · show (if i < 36 then (0 : Int32) else _) = 0
      rw [if_pos hi]
theorem or_bit : ∀ k, k < 10 → ∀ b, b < 2 ^ k → nI b ||| ((1 : Int32) <<< (nI k &&& 31)) = nI (b + 2 ^ k) := by decide +kernel
theorem or_0 : ∀ b, b < 1024 → nI b ||| (0 : Int32) = nI b := by decide +kernel
def sumI (f : Nat → Nat) : Nat → Int32
  | 0 => 0
  | k + 1 => sumI f k + nI (f k)
theorem sp_sum {N : Nt} {σC : ds_S} {t : Nat} (ht : t < 3) (cld : ∀ t i, t < 3 → i < 36 → σC.1 (3 + t) i = nI (N 7 (36 * t + i))) {K : Int32 → ds_S → Prop} (h : K (sumI (fun i => N 7 (36 * t + i)) 36) σC) : ds_EI mt_X8_sumOfLoads Yc [.ref 0, .int (nI t)] σC K := by
  refine e_X8_sumOfLoads (nI t) σC _ ⟨37, ?_⟩
  generalize hQ : (fun r σ' => ∃ x, r = some (Value.int x) ∧ K x σ') = Q
  have hq : Q (some (.int (sumI (fun i => N 7 (36 * t + i)) 36))) σC := by rw [← hQ]; exact ⟨_, rfl, h⟩
  obtain ⟨w1, w2, w3⟩ := row_at ht
  have key : ∀ (d k : Nat), k + d = 36 → w_X8_sumOfLoads_4 (d + 1) (nI t) (sumI (fun i => N 7 (36 * t + i)) k) (nI k) σC Q := by
    intro d
    induction d with
    | zero =>
      intro k hk
      obtain rfl : k = 36 := by omega
      rw [w_X8_sumOfLoads_4]
      exact ⟨fun _ => hq, fun h => absurd (nI_le (a := 36) (b := 36) (by omega) (by decide)) h⟩
    | succ d ih =>
      intro k hk
      rw [w_X8_sumOfLoads_4]
      refine ⟨fun h => absurd h (nI_ge (b := 36) (by omega) (by decide)), fun _ => ⟨vp_in_nI ht (by decide), by rw [w1]; exact w2, by rw [w1, w3]; exact vp_in_nI (by omega) (by decide), ?_⟩⟩
      rw [w1, nI_1, nI_clamp (by omega), cld t k ht (by omega)]
      exact ih (k + 1) (by omega)
  exact key 36 0 (by omega)
theorem pub_told (a : Int32) : Pub mt_X8_told mt_X9_told [.int a] := by
  intro σC σM ⟨N, hN, hC, hM⟩
  obtain ⟨⟨n2, n6⟩, m10, hl, hld, hg, hs, hsw⟩ := id hN
  obtain ⟨c0, c1, cl, c6, c7, cld, c12, c14, csk⟩ := id hC
  obtain ⟨m0, m7, ml, mld, m9, mS, mm, msk⟩ := id hM
  have hB : Both σC σM := ⟨N, hN, hC, hM⟩
  have s5 : ∀ l, l < N 0 7 → N 5 l ≤ 1 := fun l h => (hl l h).2.2.2.2.2.2.2.1
  have s6 : ∀ l, l < N 0 7 → N 6 l ≤ 1 := fun l h => (hl l h).2.2.2.2.2.2.2.2
  have T48 : ∀ (Q : Option Value → ds_S → Prop), Q (some (.int (nI (bitsOf (N 5) (N 0 7))))) σM → ∀ (d k : Nat), k + d = N 0 7 → w_X9_told_48 (d + 1) (nI (bitsOf (N 5) k)) (nI k) σM Q := by
    intro Q hq d
    induction d with
    | zero =>
      intro k hk
      obtain rfl : k = N 0 7 := by omega
      rw [w_X9_told_48, m7]
      exact ⟨fun _ => hq, fun h => absurd (nI_le (Nat.le_refl _) (by omega)) h⟩
    | succ d ih =>
      intro k hk
      rw [w_X9_told_48, m7]
      have hb := bitsOf_lt (f := N 5) (m := k) fun l h => s5 l (by omega)
      have hb2 : bitsOf (N 5) k < 1024 := bitm (by omega) fun l h => s5 l (by omega)
      refine ⟨fun h => absurd h (nI_ge (by omega) (by omega)), fun _ => ⟨vp_in_nI (by omega) (by decide), fun h => ?_, fun h => ?_⟩⟩
      · rw [nI_clamp (by omega), (ml k (by omega)).2.2.2.2.1] at h
        have e : N 5 k = 0 := (nI01 (s5 k (by omega))).1.mp h
        have := ih (k + 1) (by omega)
        rw [show bitsOf (N 5) (k + 1) = bitsOf (N 5) k + N 5 k * 2 ^ k from rfl, e, Nat.zero_mul, Nat.add_zero] at this
        rw [nI_1, or_0 _ hb2]
        exact this
      · rw [nI_clamp (by omega), (ml k (by omega)).2.2.2.2.1] at h
        have e : N 5 k = 1 := by
          rcases (show N 5 k = 0 ∨ N 5 k = 1 by have := s5 k (by omega); omega) with e | e
          · exact absurd ((nI01 (s5 k (by omega))).1.mpr e) h
          · exact e
        have := ih (k + 1) (by omega)
        rw [show bitsOf (N 5) (k + 1) = bitsOf (N 5) k + N 5 k * 2 ^ k from rfl, e, Nat.one_mul] at this
        rw [nI_1, or_bit k (by omega) _ hb]
        exact this
  have T85 : ∀ (Q : Option Value → ds_S → Prop), Q (some (.int (nI (bitsOf (N 6) (N 0 7))))) σM → ∀ (d k : Nat), k + d = N 0 7 → w_X9_told_85 (d + 1) (nI (bitsOf (N 6) k)) (nI k) σM Q := by
    intro Q hq d
    induction d with
    | zero =>
      intro k hk
      obtain rfl : k = N 0 7 := by omega
      rw [w_X9_told_85, m7]
      exact ⟨fun _ => hq, fun h => absurd (nI_le (Nat.le_refl _) (by omega)) h⟩
    | succ d ih =>
      intro k hk
      rw [w_X9_told_85, m7]
      have hb := bitsOf_lt (f := N 6) (m := k) fun l h => s6 l (by omega)
      have hb2 : bitsOf (N 6) k < 1024 := bitm (by omega) fun l h => s6 l (by omega)
      refine ⟨fun h => absurd h (nI_ge (by omega) (by omega)), fun _ => ⟨vp_in_nI (by omega) (by decide), fun h => ?_, fun h => ?_⟩⟩
      · rw [nI_clamp (by omega), (ml k (by omega)).2.2.2.2.2] at h
        have e : N 6 k = 0 := (nI01 (s6 k (by omega))).1.mp h
        have := ih (k + 1) (by omega)
        rw [show bitsOf (N 6) (k + 1) = bitsOf (N 6) k + N 6 k * 2 ^ k from rfl, e, Nat.zero_mul, Nat.add_zero] at this
        rw [nI_1, or_0 _ hb2]
        exact this
      · rw [nI_clamp (by omega), (ml k (by omega)).2.2.2.2.2] at h
        have e : N 6 k = 1 := by
          rcases (show N 6 k = 0 ∨ N 6 k = 1 by have := s6 k (by omega); omega) with e | e
          · exact absurd ((nI01 (s6 k (by omega))).1.mpr e) h
          · exact e
        have := ih (k + 1) (by omega)
        rw [show bitsOf (N 6) (k + 1) = bitsOf (N 6) k + N 6 k * 2 ^ k from rfl, e, Nat.one_mul] at this
        rw [nI_1, or_bit k (by omega) _ hb]
        exact this
  have T157 : ∀ (t : Nat), t < 3 → ∀ (Q : Option Value → ds_S → Prop), Q (some (.int (sumI (fun i => N 7 (36 * t + i)) 36))) σM → ∀ (d k : Nat), k + d = 36 → w_X9_told_157 (d + 1) (nI (t + 5)) (sumI (fun i => N 7 (36 * t + i)) k) (nI (36 * t + k)) σM Q := by
    intro t ht Q hq d
    have e5 : nI (t + 5) - (5 : Int32) = nI t := by rw [show (5 : Int32) = nI 5 from rfl, pk_sub (by omega)]; congr 1
    have e36 : ((36 : Int32) * (nI (t + 5) - 5)) + 36 = nI (36 * t + 36) := by rw [e5, show (36 : Int32) = nI 36 from rfl, pk_mul, nI_add]
    induction d with
    | zero =>
      intro k hk
      obtain rfl : k = 36 := by omega
      rw [w_X9_told_157, e36]
      exact ⟨fun _ => hq, fun h => absurd (nI_le (Nat.le_refl _) (by omega)) h⟩
    | succ d ih =>
      intro k hk
      rw [w_X9_told_157, e36]
      refine ⟨fun h => absurd h (nI_ge (by omega) (by omega)), fun _ => ⟨vp_in_nI (by omega) (by decide), ?_⟩⟩
      rw [nI_1, nI_clamp (by omega), mld _ (by omega)]
      exact ih (k + 1) (by omega)
  have big : ∀ t, t < 3 → ∀ (r : Option Value), r = some (.int (sumI (fun i => N 7 (36 * t + i)) 36)) → ds_E mt_X9_told Ym [.ref 0, .int (nI (t + 5))] σM (fun r' σM' => r' = r ∧ Both σC σM') := by
    intro t ht r hr
    have e5 : nI (t + 5) - (5 : Int32) = nI t := by rw [show (5 : Int32) = nI 5 from rfl, pk_sub (by omega)]; congr 1
    have ti : (nI (t + 5)).toInt = (t : Int) + 5 := by rw [nI_toInt (by omega)]; omega
    have ne : ∀ k : Nat, k < 5 → ¬ nI (t + 5) = nI k := fun k hk e => by have := (nI_eq (by omega) (by omega)).mp e; omega
    refine e_X9_told (nI (t + 5)) σM _ ⟨fun _ => ⟨fun _ => ⟨37, ?_⟩, fun h => absurd h ?_⟩, fun e => absurd e (ne 0 (by omega)), fun e => absurd e (ne 1 (by omega)), fun e => absurd e (ne 2 (by omega)), fun e => absurd e (ne 3 (by omega)), fun e => absurd e (ne 4 (by omega))⟩
    · have := T157 t ht (fun r' σM' => r' = r ∧ Both σC σM') ⟨hr.symm, hB⟩ 36 0 (by omega)
      rw [e5, show (36 : Int32) = nI 36 from rfl, pk_mul]
      exact this
    · rw [q_in_5_7, show (5 : Int32) = nI 5 from rfl, show (8 : Int32) = nI 8 from rfl, q_rng_in (lo := 5) (hi := 8) (by omega) (by omega) (by decide)]
      decide
  have sm : ∀ (k : Nat), k < 5 → ∀ (r : Option Value), ((k = 0 → r = some (.int (σM.1 0 0))) ∧ (k = 1 → r = some (.int (σM.1 0 7))) ∧ (k = 2 → r = some (.int (nI (bitsOf (N 5) (N 0 7))))) ∧ (k = 3 → r = some (.int (nI (bitsOf (N 6) (N 0 7))))) ∧ (k = 4 → r = some (.int (nI (N 0 9))))) → ds_E mt_X9_told Ym [.ref 0, .int (nI k)] σM (fun r' σM' => r' = r ∧ Both σC σM') := by
    intro k hk r ⟨r0, r1, r2, r3, r4⟩
    have ti : (nI k).toInt = (k : Int) := nI_toInt (by omega)
    refine e_X9_told (nI k) σM _ ⟨fun h => by rw [ti] at h; omega, fun e => ⟨(r0 ((nI_eq (b := 0) (by omega) (by decide)).mp e)).symm, hB⟩, fun e => ⟨(r1 ((nI_eq (b := 1) (by omega) (by decide)).mp e)).symm, hB⟩, fun e => ⟨N 0 7 + 1, ?_⟩, fun e => ⟨N 0 7 + 1, ?_⟩, fun e => ⟨fun h => ⟨?_, hB⟩, fun h => ⟨?_, hB⟩⟩⟩
    · exact T48 _ ⟨(r2 ((nI_eq (b := 2) (by omega) (by decide)).mp e)).symm, hB⟩ (N 0 7) 0 (by omega)
    · exact T85 _ ⟨(r3 ((nI_eq (b := 3) (by omega) (by decide)).mp e)).symm, hB⟩ (N 0 7) 0 (by omega)
    · rw [r4 ((nI_eq (b := 4) (by omega) (by decide)).mp e), ← m9, h]
    · rw [r4 ((nI_eq (b := 4) (by omega) (by decide)).mp e)]
      rw [m9] at h
      have : N 0 9 = 1 := by
        rcases (show N 0 9 = 0 ∨ N 0 9 = 1 by omega) with e | e
        · exact absurd ((nI01 hg).1.mpr e) h
        · exact e
      rw [this]
      rfl
  refine e_X8_told a σC _ ⟨fun h => ?_, fun e => ?_, fun e => ?_, fun e => ?_, fun e => ?_, fun e => ⟨fun h => ?_, fun h => ?_⟩, fun e => ?_, fun e => ?_, fun e => ?_⟩
  · have ne : ∀ k : Nat, k < 8 → ¬ a = nI k := fun k hk e => by rw [e, nI_toInt (by omega)] at h; omega
    refine e_X9_told a σM _ ⟨fun _ => ⟨fun h2 => ?_, fun _ => ⟨rfl, hB⟩⟩, fun e => absurd e (ne 0 (by omega)), fun e => absurd e (ne 1 (by omega)), fun e => absurd e (ne 2 (by omega)), fun e => absurd e (ne 3 (by omega)), fun e => absurd e (ne 4 (by omega))⟩
    exfalso
    rcases rcl 5 8 (by decide) (by decide) a with g | ⟨_, j, _, j2, rfl⟩
    · exact h2 (by rw [q_in_5_7]; exact g)
    · exact ne j j2 rfl
  · subst e
    exact sm 0 (by decide) _ ⟨fun _ => by rw [c0, m0], by omega, by omega, by omega, by omega⟩
  · subst e
    exact sm 1 (by decide) _ ⟨by omega, fun _ => by rw [c1, m7], by omega, by omega, by omega⟩
  · subst e
    exact sm 2 (by decide) _ ⟨by omega, by omega, fun _ => by rw [c6], by omega, by omega⟩
  · subst e
    exact sm 3 (by decide) _ ⟨by omega, by omega, by omega, fun _ => by rw [c7], by omega⟩
  · subst e
    exact sm 4 (by decide) _ ⟨by omega, by omega, by omega, by omega, fun _ => by rw [← c12, h]⟩
  · subst e
    refine sm 4 (by decide) _ ⟨by omega, by omega, by omega, by omega, fun _ => ?_⟩
    rw [c12] at h
    have : N 0 9 = 1 := by
      rcases (show N 0 9 = 0 ∨ N 0 9 = 1 by omega) with e | e
      · exact absurd ((nI01 hg).1.mpr e) h
      · exact e
    rw [this]
    rfl
  · subst e
    exact sp_sum (t := 0) (by decide) cld (big 0 (by decide) _ rfl)
  · subst e
    exact sp_sum (t := 1) (by decide) cld (big 1 (by decide) _ rfl)
  · subst e
    exact sp_sum (t := 2) (by decide) cld (big 2 (by decide) _ rfl)
theorem cntL_le (f g : Nat → Nat) (k : Nat) : cntL f g k ≤ k := by
  induction k with
  | zero => exact Nat.le_refl _
  | succ k ih =>
    show cntL f g k + (if f k = g k then 0 else 1) ≤ k + 1
    split <;> omega
theorem pub_take : Pub mt_X8_take mt_X9_take [] := by
  intro σC σM ⟨N, hN, hC, hM⟩
  obtain ⟨⟨n2, n6⟩, m10, hl, hld, hg, hs, hsw⟩ := id hN
  obtain ⟨c0, c1, cl, c6, c7, cld, c12, c14, csk⟩ := id hC
  obtain ⟨m0, m7, ml, mld, m9, mS, mm, msk⟩ := id hM
  have hB : Both σC σM := ⟨N, hN, hC, hM⟩
  by_cases hd : N 0 10 = 1
  · have d1 : ¬ σC.1 14 2 = 0 := by rw [c14, hd]; decide
    have d2 : ¬ σM.1 0 10 = 0 := by rw [mS, hd]; decide
    obtain ⟨k1, k2, -⟩ := csk hd
    obtain ⟨p0, -, -⟩ := msk hd
    have sw := hsw hd
    refine e_X8_take σC _ ⟨fun _ => ev_forget ?_, fun h => absurd h d1⟩
    have e3 : (ds_wi (ds_cp σC 15 64 10) 14 2 0).1 14 3 = nI (cntL (N 4) (N 8) (N 0 7)) := k2
    refine e_X9_take σM _ ⟨fun _ => ⟨N 0 7 + 1, ?_⟩, fun h => absurd h d2⟩
    rw [e3]
    generalize hQ : (fun r' σM' => r' = some (Value.int (nI (cntL (N 4) (N 8) (N 0 7)))) ∧ Both (ds_wi (ds_cp σC 15 64 10) 14 2 0) σM') = Q
    have hq : Q (some (.int (nI (cntL (N 4) (N 8) (N 0 7))))) (ds_wi (ds_si σM 4 (fun j => if j < N 0 7 then σM.1 8 j else σM.1 4 j)) 0 10 0) := by
      rw [← hQ]
      refine ⟨rfl, fun c k => if c = 4 then N 8 k else nu N 0 10 0 c k, ⟨⟨n2, n6⟩, m10, fun l hl' => ?_, hld, hg, Nat.zero_le _, fun h => no01 h⟩, ⟨c0, c1, fun l hl' => ?_, c6, c7, ?_, c12, rfl, fun h => no01 h⟩, ⟨m0, m7, fun l hl' => ?_, mld, m9, rfl, mm, fun h => no01 h⟩⟩
      · obtain ⟨q1, q2, q3, q4, q5, q6, q7, q8, q9⟩ := hl l hl'
        exact ⟨q1, q2, q3, q4, q5, (sw l hl').1, (sw l hl').2, q8, q9⟩
      · obtain ⟨q1, q2, q3, q4⟩ := cl l hl'
        have hl2 : l < N 0 7 := hl'
        refine ⟨q1, q2, q3, ?_⟩
        show (ds_wi (ds_cp σC 15 64 10) 14 2 0).1 64 l = nI (N 8 l)
        rw [ds_wi_1, if_neg (by omega), ds_cp_1, if_pos rfl, if_pos (by omega)]
        exact k1 l hl'
      · intro t i h1 h2
        rw [ds_wi_1, if_neg (by omega), ds_cp_1, if_neg (by omega)]
        exact cld t i h1 h2
      · obtain ⟨q1, q2, q3, q4, q5, q6⟩ := ml l hl'
        have hl2 : l < N 0 7 := hl'
        refine ⟨q1, q2, q3, ?_, q5, q6⟩
        show (ds_si σM 4 (fun j => if j < N 0 7 then σM.1 8 j else σM.1 4 j)).1 4 l = nI (N 8 l)
        rw [ds_si_1, if_pos rfl, if_pos hl2]
        exact p0 l hl'
    have key : ∀ (d k : Nat), k + d = N 0 7 → w_X9_take_14 (d + 1) (nI (cntL (N 4) (N 8) k)) (nI k) (ds_si σM 4 (fun j => if j < k then σM.1 8 j else σM.1 4 j)) Q := by
      intro d
      induction d with
      | zero =>
        intro k hk
        obtain rfl : k = N 0 7 := by omega
        rw [w_X9_take_14]
        exact ⟨fun _ => hq, fun h => absurd (by rw [show (ds_si σM 4 (fun j => if j < N 0 7 then σM.1 8 j else σM.1 4 j)).1 0 7 = nI (N 0 7) from m7]; exact nI_le (Nat.le_refl _) (by omega)) h⟩
      | succ d ih =>
        intro k hk
        have e7 : (ds_si σM 4 (fun j => if j < k then σM.1 8 j else σM.1 4 j)).1 0 7 = nI (N 0 7) := m7
        have e4 : (ds_si σM 4 (fun j => if j < k then σM.1 8 j else σM.1 4 j)).1 4 k = nI (N 4 k) := by rw [ds_si_1, if_pos rfl, if_neg (by omega)]; exact (ml k (by omega)).2.2.2.1
        have e8 : (ds_si σM 4 (fun j => if j < k then σM.1 8 j else σM.1 4 j)).1 8 k = nI (N 8 k) := p0 k (by omega)
        have vi : vp_in (nI k) 10 := vp_in_nI (by omega) (by decide)
        have b1 : N 4 k ≤ 20 := (hl k (by omega)).2.2.2.2.2.2.1
        have b2 : N 8 k ≤ 20 := (sw k (by omega)).2
        have nx : ds_wi (ds_si σM 4 (fun j => if j < k then σM.1 8 j else σM.1 4 j)) 4 k (nI (N 8 k)) = ds_si σM 4 (fun j => if j < k + 1 then σM.1 8 j else σM.1 4 j) := by
          rw [ds_wi_si]
          congr 1
          funext j
          unfold upd
          by_cases h1 : j = k
          · rw [if_pos h1, if_pos (by omega), h1]; exact (p0 k (by omega)).symm
          · by_cases h2 : j < k
            · rw [if_neg h1]; dsimp only; rw [if_pos h2, if_pos (by omega)]
            · rw [if_neg h1]; dsimp only; rw [if_neg h2, if_neg (by omega)]
        rw [w_X9_take_14, e7]
        refine ⟨fun h => absurd h (nI_ge (by omega) (by omega)), fun _ => ⟨vi, vi, fun h => ⟨vi, vi, ?_⟩, fun h => ⟨vi, vi, ?_⟩⟩⟩
        · rw [nI_clamp (by omega), e4, e8] at h
          have ne : ¬ N 4 k = N 8 k := fun q => h (by rw [q])
          rw [nI_clamp (by omega), e8, nx, nI_1, nI_1]
          have := ih (k + 1) (by omega)
          rw [show cntL (N 4) (N 8) (k + 1) = cntL (N 4) (N 8) k + (if N 4 k = N 8 k then 0 else 1) from rfl, if_neg ne] at this
          exact this
        · rw [nI_clamp (by omega), e4, e8] at h
          have ne : N 4 k = N 8 k := (nI_eq (by omega) (by omega)).mp h
          rw [nI_clamp (by omega), e8, nx, nI_1]
          have := ih (k + 1) (by omega)
          rw [show cntL (N 4) (N 8) (k + 1) = cntL (N 4) (N 8) k + (if N 4 k = N 8 k then 0 else 1) from rfl, if_pos ne] at this
          rw [show (0 : Int32) = nI 0 from rfl, nI_add]
          exact this
    have := key (N 0 7) 0 (by omega)
    have e0 : ds_si σM 4 (fun j => if j < 0 then σM.1 8 j else σM.1 4 j) = σM := by
      have : (fun j => if j < 0 then σM.1 8 j else σM.1 4 j) = σM.1 4 := by funext j; simp
      rw [this, ds_si_self]
    rw [e0] at this
    exact this
  · have h0 : N 0 10 = 0 := by omega
    have d1 : σC.1 14 2 = 0 := by rw [c14, h0]; rfl
    have d2 : σM.1 0 10 = 0 := by rw [mS, h0]; rfl
    exact e_X8_take σC _ ⟨fun h => absurd d1 h, fun _ => e_X9_take σM _ ⟨fun h => absurd d2 h, fun _ => ⟨rfl, hB⟩⟩⟩
