theorem red_eqV {p q : Nat × Nat × Nat × Nat} {U L U' L' : Nat} (hp : 0 < p.2.1) (hq : 0 < q.2.1) (h : Red p.1 (151200 * p.2.1) U L) (h' : Red q.1 (151200 * q.2.1) U' L') : (U = U' ∧ L = L') ↔ eqV p q := by
  constructor
  · rintro ⟨rfl, rfl⟩
    obtain ⟨-, l0, e⟩ := h
    obtain ⟨-, -, e'⟩ := h'
    unfold eqV
    apply Nat.eq_of_mul_eq_mul_right (Nat.mul_pos (show 0 < 151200 by decide) l0)
    calc p.1 * q.2.1 * (151200 * L) = (p.1 * L) * (151200 * q.2.1) := by simp only [Nat.mul_assoc, Nat.mul_comm, Nat.mul_left_comm]
      _ = 151200 * p.2.1 * U * (151200 * q.2.1) := by rw [e]
      _ = (151200 * q.2.1 * U) * (151200 * p.2.1) := by simp only [Nat.mul_assoc, Nat.mul_comm, Nat.mul_left_comm]
      _ = q.1 * L * (151200 * p.2.1) := by rw [e']
      _ = q.1 * p.2.1 * (151200 * L) := by simp only [Nat.mul_assoc, Nat.mul_comm, Nat.mul_left_comm]
  · intro e
    refine red_uniq (by omega) (by omega) h h' ?_
    unfold eqV at e
    rw [Nat.mul_left_comm, e, Nat.mul_left_comm]
theorem seek_M {N : Nt} (hN : Nok N) {σ : ds_S} (hM : RepM N σ) {sp k : Nat} (hsp1 : 1 ≤ sp) (hsp : sp ≤ 2) (hk10 : k ≤ 10) {Q : Option Value → ds_S → Prop}
    (hQ : ∀ s b U L, kK σ s → isBest N sp k b → (∀ l, l < N 0 7 → s.1 4 l = nI (N 4 l)) → (∀ l, l < N 0 7 → s.1 8 l = nI (b l)) → s.2 0 28 = lN U → s.2 0 29 = lN L → Red (avN N b).1 (151200 * (avN N b).2.1) U L → Q (some (.int (nI (chN N b)))) (ds_wi s 0 10 1)) : ∃ n, w_X9_seek_32 n (nI sp) (nI k) (0 : Int32) (0 : Int32) σ Q (fun v1_3 v2_3 v3_3 σ3 => ∃ n, w_X9_seek_103 n v1_3 v2_3 v3_3 (1 : Int32) (0 : Int32) σ3 Q (fun v1_4 v2_4 v3_4 v4_4 σ4 => ∃ n, w_X9_seek_129 n v1_4 v2_4 v3_4 v4_4 (-1 : Int32) (0 : Int32) σ4 Q (fun v5_5 σ5 => ∃ n, w_X9_seek_383 n v5_5 (0 : Int32) σ5 Q))) := by
  have hm := hN.2.1
  have c5 := fcN_le N
  have hsm := hM.sm
  have s5 : ∀ l, l < N 0 7 → N 5 l ≤ 1 := fun l h => (hN.2.2.1 l h).2.2.2.2.2.2.2.1
  have s6 : ∀ l, l < N 0 7 → N 6 l ≤ 1 := fun l h => (hN.2.2.1 l h).2.2.2.2.2.2.2.2
  have w20 : ∀ l, l < N 0 7 → N 4 l ≤ 20 := fun l h => (hN.w4 l h).2
  have k7 : ∀ s, kK σ s → s.1 0 7 = nI (N 0 7) := fun s hk => by rw [hk 0 7 (by omega) (by omega) (by omega) (by omega) (by omega) (by omega)]; exact hM.2.1
  -- the last loop
  generalize hK5 : (fun (v5_5 : Int32) σ5 => ∃ n, w_X9_seek_383 n v5_5 (0 : Int32) σ5 Q) = K5
  have hk5 : ∀ s b U L, kK σ s → isBest N sp k b → (∀ l, l < N 0 7 → s.1 14 l = nI (N 4 l)) → (∀ l, l < N 0 7 → s.1 8 l = nI (b l)) → s.2 0 28 = lN U → s.2 0 29 = lN L → Red (avN N b).1 (151200 * (avN N b).2.1) U L → K5 (nI (chN N b)) s := by
    intro s b U L h1 h2 h3 h4 h5 h6 h7
    rw [← hK5]
    refine pk_loop (fun fu l s => w_X9_seek_383 fu (nI (chN N b)) (nI l) s Q) (fun l s => kK σ s ∧ (∀ j, j < N 0 7 → s.1 14 j = nI (N 4 j)) ∧ (∀ j, j < l → s.1 4 j = nI (N 4 j)) ∧ (∀ j, j < N 0 7 → s.1 8 j = nI (b j)) ∧ s.2 0 28 = lN U ∧ s.2 0 29 = lN L) (N 0 7) 0 s (by omega) ⟨h1, h3, fun j h => by omega, h4, h5, h6⟩ ?_ ?_
    · rintro fu s ⟨g1, g2, g3, g4, g5, g6⟩
      rw [w_X9_seek_383]
      exact pk_le (N 0 7) (N 0 7) (fun _ => hQ s b U L g1 h2 g3 g4 g5 g6 h7) (fun h => by omega) (k7 s g1) rfl
    · rintro fu l s hl ⟨g1, g2, g3, g4, g5, g6⟩ hnext
      have vl : vp_in (nI l) 10 := vp_in_nI (by omega) (by decide)
      rw [w_X9_seek_383, nI_clamp (n := l) (by omega), g2 l hl, nI_1 l]
      refine pk_le (N 0 7) l (fun h => by omega) (fun _ => ⟨vl, vl, hnext _ ⟨g1.wi (by omega), fun j hj => ?_, fun j hj => ?_, fun j hj => ?_, g5, g6⟩⟩) (k7 s g1) rfl
      · rw [ds_wi_1, if_neg (by omega)]; exact g2 j hj
      · rw [ds_wi_1]
        by_cases e : j = l
        · rw [if_pos ⟨rfl, e⟩, e]
        · rw [if_neg (fun z => e z.2)]; exact g3 j (by omega)
      · rw [ds_wi_1, if_neg (by omega)]; exact g4 j hj
  clear hK5
  generalize hK4 : (fun (v1_4 v2_4 v3_4 v4_4 : Int32) σ4 => ∃ n, w_X9_seek_129 n v1_4 v2_4 v3_4 v4_4 (-1 : Int32) (0 : Int32) σ4 Q K5) = K4
  have hk4 : ∀ s, kK σ s → (∀ l, l < N 0 7 → s.1 4 l = nI (N 4 l)) → (∀ l, l < N 0 7 → s.1 14 l = nI (N 4 l)) → (∀ i, i < fcN N → s.1 15 i = nI (frN N i)) → K4 (nI sp) (nI k) (nI (fcN N)) (nI ((sp + 1) ^ fcN N)) s := by
    intro s h1 h2 h3 h4
    rw [← hK4]
    have pb : (sp + 1) ^ fcN N ≤ 3 ^ 5 := Nat.le_trans (Nat.pow_le_pow_left (by omega) _) (Nat.pow_le_pow_right (by decide) c5)
    have pp : 0 < (sp + 1) ^ fcN N := Nat.pow_pos (by omega)
    have p3 : (3 : Nat) ^ 5 = 243 := by decide
    refine pk_loop (σ := Int32 × ds_S) (fun fu n u => w_X9_seek_129 fu (nI sp) (nI k) (nI (fcN N)) (nI ((sp + 1) ^ fcN N)) u.1 (nI n) u.2 Q K5) (fun n u => kK σ u.2 ∧ (∃ tr, Cand N sp tr ∧ ∀ l, l < N 0 7 → u.2.1 4 l = nI (tr l)) ∧ (∀ l, l < N 0 7 → u.2.1 14 l = nI (N 4 l)) ∧ (∀ i, i < fcN N → u.2.1 15 i = nI (frN N i)) ∧ ((n = 0 ∧ u.1 = -1) ∨ (0 < n ∧ ∃ b U L, u.1 = nI (chN N b) ∧ (∀ l, l < N 0 7 → u.2.1 8 l = nI (b l)) ∧ u.2.2 0 28 = lN U ∧ u.2.2 0 29 = lN L ∧ Red (avN N b).1 (151200 * (avN N b).2.1) U L ∧ Cand N sp b ∧ chN N b ≤ k ∧ ∀ n', n' < n → chN N (wr N (sp + 1) (fcN N) 0 n' (N 4)) ≤ k → ¬ bet N (wr N (sp + 1) (fcN N) 0 n' (N 4)) b))) ((sp + 1) ^ fcN N) 0 (-1, s) (by omega) ⟨h1, ⟨N 4, Cand.own, h2⟩, h3, h4, Or.inl ⟨rfl, rfl⟩⟩ ?_ ?_
    · rintro fu ⟨v5, s⟩ ⟨g1, -, g3, g4, g5⟩
      have g1' : kK σ s := g1
      show w_X9_seek_129 (fu + 1) (nI sp) (nI k) (nI (fcN N)) (nI ((sp + 1) ^ fcN N)) v5 (nI ((sp + 1) ^ fcN N)) s Q K5
      rw [w_X9_seek_129]
      refine pk_le ((sp + 1) ^ fcN N) ((sp + 1) ^ fcN N) (fun _ => ?_) (fun h => by omega)
      rcases g5 with ⟨g5, _⟩ | ⟨-, b, U, L, e1, e2, e3, e4, e5, e6, e7, e8⟩
      · omega
      · have e1' : v5 = nI (chN N b) := e1
        rw [e1']
        refine hk5 s b U L g1 ⟨e6, e7, fun u hu huk => ?_⟩ g3 e2 e3 e4 e5
        obtain ⟨n, hn1, hn2⟩ := wr_cover hsp1 hu (fcN N) 0 (by omega)
        have e : wr N (sp + 1) (fcN N) 0 n (N 4) = u := (wr_cand hsp1 _ 0 n _ (by omega) Cand.own).ext hu fun i hi => hn2 _ i (by omega) (by omega)
        rw [← e]
        exact e8 n hn1 (by rw [e]; exact huk)
    · rintro fu n ⟨v5, s⟩ hn ⟨g1, ⟨tr, htr, g2⟩, g3, g4, g5⟩ hnext
      have g1' : kK σ s := g1
      have g3' : ∀ l, l < N 0 7 → s.1 14 l = nI (N 4 l) := g3
      have g4' : ∀ i, i < fcN N → s.1 15 i = nI (frN N i) := g4
      show w_X9_seek_129 (fu + 1) (nI sp) (nI k) (nI (fcN N)) (nI ((sp + 1) ^ fcN N)) v5 (nI n) s Q K5
      rw [w_X9_seek_129]
      refine pk_le ((sp + 1) ^ fcN N) n (fun h => by omega) (fun _ => pick_M hN hsp1 hsp htr g2 g3' g4' (n := n) (by omega) fun rr hrr => ?_)
      have hwC : Cand N sp (wr N (sp + 1) (fcN N) 0 n (N 4)) := wr_cand hsp1 _ 0 n _ (by omega) Cand.own
      have hw0 : n = 0 → wr N (sp + 1) (fcN N) 0 n (N 4) = N 4 := fun e => by rw [e]; exact wr_zero _ _
      generalize hw : wr N (sp + 1) (fcN N) 0 n (N 4) = w at hrr hwC hw0 ⊢
      have hwok := hwC.wok hN (by omega)
      have cw : chN N w ≤ N 0 7 := cntL_le _ _ _
      have g1s : kK σ (ds_si s 4 rr) := fun c j a1 a2 a3 a4 a5 a6 => by rw [ds_si_1, if_neg a1]; exact g1' c j a1 a2 a3 a4 a5 a6
      have u4 : ∀ l, l < N 0 7 → (ds_si s 4 rr).1 4 l = nI (w l) := hrr
      have u14 : ∀ l, l < N 0 7 → (ds_si s 4 rr).1 14 l = nI (N 4 l) := g3'
      have u15 : ∀ i, i < fcN N → (ds_si s 4 rr).1 15 i = nI (frN N i) := g4'
      have g5' : (n = 0 ∧ v5 = -1) ∨ (0 < n ∧ ∃ b U L, v5 = nI (chN N b) ∧ (∀ l, l < N 0 7 → (ds_si s 4 rr).1 8 l = nI (b l)) ∧ (ds_si s 4 rr).2 0 28 = lN U ∧ (ds_si s 4 rr).2 0 29 = lN L ∧ Red (avN N b).1 (151200 * (avN N b).2.1) U L ∧ Cand N sp b ∧ chN N b ≤ k ∧ ∀ n', n' < n → chN N (wr N (sp + 1) (fcN N) 0 n' (N 4)) ≤ k → ¬ bet N (wr N (sp + 1) (fcN N) 0 n' (N 4)) b) := g5
      generalize ds_si s 4 rr = s1 at g1s u4 u14 u15 g5' ⊢
      refine (ev_changes hm (k7 s1 g1s) (w := w) (u := N 4) (fun l hl => ⟨u4 l hl, (hwok l hl).2⟩) (fun l hl => ⟨u14 l hl, w20 l hl⟩)).mo ?_
      rintro r2 s1' ⟨rfl, rfl⟩
      have ech : cntL (N 4) w (N 0 7) = chN N w := rfl
      rw [ech, nI_1 n]
      -- keeping the best
      have keep : ∀ s2, kK σ s2 → (∀ l, l < N 0 7 → s2.1 4 l = nI (w l)) → (∀ l, l < N 0 7 → s2.1 14 l = nI (N 4 l)) → (∀ i, i < fcN N → s2.1 15 i = nI (frN N i)) → (0 < n ∧ ∃ b U L, v5 = nI (chN N b) ∧ (∀ l, l < N 0 7 → s2.1 8 l = nI (b l)) ∧ s2.2 0 28 = lN U ∧ s2.2 0 29 = lN L ∧ Red (avN N b).1 (151200 * (avN N b).2.1) U L ∧ Cand N sp b ∧ chN N b ≤ k ∧ (chN N w ≤ k → ¬ bet N w b) ∧ ∀ n', n' < n → chN N (wr N (sp + 1) (fcN N) 0 n' (N 4)) ≤ k → ¬ bet N (wr N (sp + 1) (fcN N) 0 n' (N 4)) b) → w_X9_seek_129 fu (nI sp) (nI k) (nI (fcN N)) (nI ((sp + 1) ^ fcN N)) v5 (nI (n + 1)) s2 Q K5 := by
        intro s2 a1 a2 a3 a4 ⟨a5, b, U, L, b1, b2, b3, b4, b5, b6, b7, b8, b9⟩
        refine hnext (v5, s2) ⟨a1, ⟨w, hwC, a2⟩, a3, a4, Or.inr ⟨by omega, b, U, L, b1, b2, b3, b4, b5, b6, b7, fun n' hn' hk' => ?_⟩⟩
        by_cases e : n' = n
        · rw [e, hw] at hk' ⊢; exact b8 hk'
        · exact b9 n' (by omega) hk'
      refine pk_lt k (chN N w) (fun z => ?_) (fun z => ?_)
      · rcases g5' with ⟨e, _⟩ | ⟨e0, b, U, L, b1, b2, b3, b4, b5, b6, b7, b8⟩
        · rw [hw0 e, show chN N (N 4) = 0 from cntL_self _ _] at z; omega
        · exact keep s1' g1s u4 u14 u15 ⟨e0, b, U, L, b1, b2, b3, b4, b5, b6, b7, fun q => by omega, b8⟩
      · refine ev_findAllM hN hwok (g1s.sm hsm u4) fun s2 st hk2 hA2 hB2 => ?_
        have est : st = avN N w := isB_uniq trivial hB2 (avN_is hN w)
        subst est
        have a1 : kK σ s2 := g1s.ka hk2
        have a4 : ∀ l, l < N 0 7 → s2.1 4 l = nI (w l) := fun l hl => by rw [hk2.1 4 l (by omega) (by omega)]; exact u4 l hl
        have a14 : ∀ l, l < N 0 7 → s2.1 14 l = nI (N 4 l) := fun l hl => by rw [hk2.1 14 l (by omega) (by omega)]; exact u14 l hl
        have a15 : ∀ i, i < fcN N → s2.1 15 i = nI (frN N i) := fun i hi => by rw [hk2.1 15 i (by omega) (by omega)]; exact u15 i hi
        obtain ⟨⟨U2, L2, c1, c2, c3⟩, -, -⟩ := hA2
        have avw := avN_r hN w
        have avl := avN_le hN hwok
        have rl2 := red_le c3 (by omega)
        -- taking the new one
        have take : (∀ n', n' < n → chN N (wr N (sp + 1) (fcN N) 0 n' (N 4)) ≤ k → ¬ bet N (wr N (sp + 1) (fcN N) 0 n' (N 4)) w) → w_X9_seek_322 (nI sp) (nI k) (nI (fcN N)) (nI ((sp + 1) ^ fcN N)) (nI n) (nI (chN N w)) s2 Q (fun v1_4 v2_4 v3_4 v4_4 v5_4 v6_4 σ4 => w_X9_seek_129 fu v1_4 v2_4 v3_4 v4_4 v5_4 v6_4 σ4 Q K5) := by
          intro hall
          unfold w_X9_seek_322
          rw [c1, c2]
          refine pk_loop (fun fu l s => w_X9_seek_345 fu (nI sp) (nI k) (nI (fcN N)) (nI ((sp + 1) ^ fcN N)) (nI (chN N w)) (nI n) (nI l) s Q _) (fun l s => kK σ s ∧ (∀ j, j < N 0 7 → s.1 4 j = nI (w j)) ∧ (∀ j, j < N 0 7 → s.1 14 j = nI (N 4 j)) ∧ (∀ i, i < fcN N → s.1 15 i = nI (frN N i)) ∧ (∀ j, j < l → s.1 8 j = nI (w j)) ∧ s.2 0 28 = lN U2 ∧ s.2 0 29 = lN L2) (N 0 7) 0 _ (by omega) ⟨a1, a4, a14, a15, fun j h => by omega, by rw [ds_wl_2, if_neg (by omega), ds_wl_2, if_pos ⟨rfl, rfl⟩], by rw [ds_wl_2, if_pos ⟨rfl, rfl⟩]⟩ ?_ ?_
          · rintro fu2 s3 ⟨d1, d2, d3, d4, d5, d6, d7⟩
            rw [w_X9_seek_345]
            refine pk_le (N 0 7) (N 0 7) (fun _ => ?_) (fun h => by omega) (k7 s3 d1) rfl
            show w_X9_seek_129 fu (nI sp) (nI k) (nI (fcN N)) (nI ((sp + 1) ^ fcN N)) (nI (chN N w)) (nI n + 1) s3 Q K5
            rw [nI_1]
            refine hnext (_, s3) ⟨d1, ⟨w, hwC, d2⟩, d3, d4, Or.inr ⟨by omega, w, U2, L2, rfl, d5, d6, d7, c3, hwC, z, fun n' hn' hk' => ?_⟩⟩
            by_cases e : n' = n
            · rw [e, hw]
              rintro (h | ⟨_, h | ⟨_, h⟩⟩)
              · unfold ltV at h; omega
              · omega
              · exact lexL_asym h h
            · exact hall n' (by omega) hk'
          · rintro fu2 l s3 hl ⟨d1, d2, d3, d4, d5, d6, d7⟩ hnext2
            have vl : vp_in (nI l) 10 := vp_in_nI (by omega) (by decide)
            rw [w_X9_seek_345, nI_clamp (n := l) (by omega), d2 l hl, nI_1 l]
            refine pk_le (N 0 7) l (fun h => by omega) (fun _ => ⟨vl, vl, hnext2 _ ⟨d1.wi (by omega), fun j hj => ?_, fun j hj => ?_, fun j hj => ?_, fun j hj => ?_, d6, d7⟩⟩) (k7 s3 d1) rfl
            · rw [ds_wi_1, if_neg (by omega)]; exact d2 j hj
            · rw [ds_wi_1, if_neg (by omega)]; exact d3 j hj
            · rw [ds_wi_1, if_neg (by omega)]; exact d4 j hj
            · rw [ds_wi_1]
              by_cases e : j = l
              · rw [if_pos ⟨rfl, e⟩, e]
              · rw [if_neg (fun y => e y.2)]; exact d5 j (by omega)
        rcases g5' with ⟨e, rfl⟩ | ⟨e0, b, U, L, rfl, b2, b3, b4, b5, b6, b7, b8⟩
        · refine ⟨fun _ => ?_, fun h => absurd (by decide) h⟩
          unfold w_X9_seek_253 w_X9_seek_289
          exact ⟨fun _ => ⟨fun _ => take fun n' hn' => by omega, fun h => absurd h (by decide)⟩, fun h => absurd (by decide) h⟩
        · have cb : chN N b ≤ N 0 7 := cntL_le _ _ _
          have bwok := b6.wok hN (by omega)
          have avb := avN_r hN b
          have avbl := avN_le hN bwok
          have rlb := red_le b5 (by omega)
          have f28 : s2.2 0 28 = lN U := (hk2.2 0 28 (by omega) (by omega)).trans b3
          have f29 : s2.2 0 29 = lN L := (hk2.2 0 29 (by omega) (by omega)).trans b4
          have f8 : ∀ l, l < N 0 7 → s2.1 8 l = nI (b l) := fun l hl => by rw [hk2.1 8 l (by omega) (by omega)]; exact b2 l hl
          have gt := q_gt_red b5 c3 avb avw (by omega) (by omega)
          have nv5 : ¬ nI (chN N b) < (0 : Int32) := nI_pos (by omega)
          have tk : bet N w b → w_X9_seek_322 (nI sp) (nI k) (nI (fcN N)) (nI ((sp + 1) ^ fcN N)) (nI n) (nI (chN N w)) s2 Q (fun v1_4 v2_4 v3_4 v4_4 v5_4 v6_4 σ4 => w_X9_seek_129 fu v1_4 v2_4 v3_4 v4_4 v5_4 v6_4 σ4 Q K5) := fun hb => take fun n' hn' hk' hb' => b8 n' hn' hk' (bet_trans hN hb' hb)
          have kp : ¬ bet N w b → w_X9_seek_129 fu (nI sp) (nI k) (nI (fcN N)) (nI ((sp + 1) ^ fcN N)) (nI (chN N b)) (nI (n + 1)) s2 Q K5 := fun hb => keep s2 a1 a4 a14 a15 ⟨e0, b, U, L, rfl, f8, f28, f29, b5, b6, b7, fun _ => hb, b8⟩
          have b289 : ∀ v9 t0, (v9 = 0 ↔ ¬ ltV (avN N w) (avN N b)) → (t0 = 0 ↔ ¬ eqV (avN N w) (avN N b)) → w_X9_seek_289 (nI sp) (nI k) (nI (fcN N)) (nI ((sp + 1) ^ fcN N)) (nI (chN N b)) (nI n) (nI (chN N w)) v9 t0 s2 Q (fun v1_4 v2_4 v3_4 v4_4 v5_4 v6_4 σ4 => w_X9_seek_129 fu v1_4 v2_4 v3_4 v4_4 v5_4 v6_4 σ4 Q K5) := by
            intro v9 t0 hv9 ht0
            unfold w_X9_seek_289
            rw [nI_1 n]
            refine ⟨fun h => tk (Or.inl (Classical.not_not.mp fun y => h (hv9.mpr y))), fun h => ⟨fun h2 => kp ?_, fun h2 => ?_⟩⟩
            · rintro (y | ⟨y, _⟩)
              · exact hv9.mp h y
              · exact ht0.mp h2 y
            · have eqv : eqV (avN N w) (avN N b) := Classical.not_not.mp fun y => h2 (ht0.mpr y)
              refine pk_lt (chN N w) (chN N b) (fun h3 => tk (Or.inr ⟨eqv, Or.inl h3⟩)) (fun h3 => pk_ne (chN N w) (chN N b) (fun h4 => kp ?_) (fun h4 => ?_))
              · rintro (y | ⟨_, y | ⟨y, _⟩⟩)
                · exact hv9.mp h y
                · omega
                · omega
              · refine ev_isLesser hm (k7 s2 a1) (fun l hl => ⟨a4 l hl, (hwok l hl).2⟩) (fun l hl => ⟨f8 l hl, (bwok l hl).2⟩) (fun h5 => ⟨fun _ => kp ?_, fun y => absurd rfl y⟩) (fun h5 => ⟨fun y => absurd y (by decide), fun _ => tk (Or.inr ⟨eqv, Or.inr ⟨h4, h5⟩⟩)⟩)
                rintro (y | ⟨_, y | ⟨_, y⟩⟩)
                · exact hv9.mp h y
                · omega
                · exact h5 y
          have b253 : ∀ v9, (v9 = 0 ↔ ¬ ltV (avN N w) (avN N b)) → w_X9_seek_253 (nI sp) (nI k) (nI (fcN N)) (nI ((sp + 1) ^ fcN N)) (nI (chN N b)) (nI n) (nI (chN N w)) v9 s2 Q (fun v1_4 v2_4 v3_4 v4_4 v5_4 v6_4 σ4 => w_X9_seek_129 fu v1_4 v2_4 v3_4 v4_4 v5_4 v6_4 σ4 Q K5) := by
            intro v9 hv9
            have re := red_eqV (p := avN N w) (q := avN N b) (by omega) (by omega) c3 b5
            unfold w_X9_seek_253
            rw [c1, c2, f28, f29, lg_cmp_eq, lg_cmp_eq, pk_lEQ (by omega) (by omega), pk_lEQ (by omega) (by omega)]
            refine ⟨fun h => absurd h nv5, fun _ => ⟨fun h => b289 v9 0 hv9 ⟨fun _ y => h (re.mpr y).1, fun _ => rfl⟩, fun h => ⟨fun h2 => b289 v9 0 hv9 ⟨fun _ y => h2 (re.mpr y).2, fun _ => rfl⟩, fun h2 => b289 v9 1 hv9 ⟨fun y => absurd y (by decide), fun y => absurd (re.mp ⟨h, h2⟩) y⟩⟩⟩⟩
          refine ⟨fun h => absurd h nv5, fun _ => ?_⟩
          rw [f28, f29, c1, c2, gt]
          refine ⟨nn64 (by omega), ps64 b5.2.1 (by omega), nn64 (by omega), ps64 c3.2.1 (by omega), fun h => b253 0 ⟨fun _ y => ?_, fun _ => rfl⟩, fun h => b253 1 ⟨fun y => absurd y (by decide), fun y => absurd ?_ h⟩⟩
          · unfold ltV at y
            rw [if_pos y] at h; exact absurd h (by decide)
          · unfold ltV at y
            rw [if_neg y]
  clear hK4
  generalize hK3 : (fun (v1_3 v2_3 v3_3 : Int32) σ3 => ∃ n, w_X9_seek_103 n v1_3 v2_3 v3_3 (1 : Int32) (0 : Int32) σ3 Q K4) = K3
  have hk3 : ∀ s, kK σ s → (∀ l, l < N 0 7 → s.1 4 l = nI (N 4 l)) → (∀ l, l < N 0 7 → s.1 14 l = nI (N 4 l)) → (∀ i, i < fcN N → s.1 15 i = nI (frN N i)) → K3 (nI sp) (nI k) (nI (fcN N)) s := by
    intro s h1 h2 h3 h4
    rw [← hK3]
    refine pk_loop (σ := Int32) (fun fu i v => w_X9_seek_103 fu (nI sp) (nI k) (nI (fcN N)) v (nI i) s Q K4) (fun i v => v = nI ((sp + 1) ^ i)) (fcN N) 0 1 (by omega) rfl ?_ ?_
    · rintro fu v rfl
      rw [w_X9_seek_103]
      exact pk_le (fcN N) (fcN N) (fun _ => hk4 s h1 h2 h3 h4) (fun h => by omega)
    · rintro fu i v hi rfl hnext
      rw [w_X9_seek_103, nI_1 sp, pk_mul, nI_1 i]
      exact pk_le (fcN N) i (fun h => by omega) (fun _ => hnext _ (by rw [Nat.pow_succ]))
  clear hK3
  have m4 : ∀ l, l < N 0 7 → σ.1 4 l = nI (N 4 l) := fun l hl => (hM.2.2.1 l hl).2.2.2.1
  refine pk_loop (σ := Int32 × ds_S) (fun fu l u => w_X9_seek_32 fu (nI sp) (nI k) u.1 (nI l) u.2 Q K3) (fun l u => kK σ u.2 ∧ u.1 = nI (frs N l).1 ∧ (∀ j, j < N 0 7 → u.2.1 4 j = nI (N 4 j)) ∧ (∀ j, j < l → u.2.1 14 j = nI (N 4 j)) ∧ ∀ i, i < (frs N l).1 → u.2.1 15 i = nI ((frs N l).2 i)) (N 0 7) 0 (0, σ) (by omega) ⟨kK.refl _, rfl, m4, fun j h => by omega, fun i h => absurd h (Nat.not_lt_zero _)⟩ ?_ ?_
  · rintro fu ⟨v, s⟩ ⟨h1, h2, h3, h4, h5⟩
    have h1' : kK σ s := h1
    have h2' : v = nI (fcN N) := h2
    show w_X9_seek_32 (fu + 1) (nI sp) (nI k) v (nI (N 0 7)) s Q K3
    rw [w_X9_seek_32, h2']
    exact pk_le (N 0 7) (N 0 7) (fun _ => hk3 s h1 h3 h4 h5) (fun h => by omega) (k7 s h1') rfl
  · rintro fu l ⟨v, s⟩ hl ⟨h1, h2, h3, h4, h5⟩ hnext
    have h1' : kK σ s := h1
    have h2' : v = nI (frs N l).1 := h2
    have h3' : ∀ j, j < N 0 7 → s.1 4 j = nI (N 4 j) := h3
    have h4' : ∀ j, j < l → s.1 14 j = nI (N 4 j) := h4
    have h5' : ∀ i, i < (frs N l).1 → s.1 15 i = nI ((frs N l).2 i) := h5
    have hok := frs_ok N l
    have e5 : s.1 5 l = nI (N 5 l) := by rw [h1' 5 l (by omega) (by omega) (by omega) (by omega) (by omega) (by omega)]; exact (hM.2.2.1 l hl).2.2.2.2.1
    have e6 : s.1 6 l = nI (N 6 l) := by rw [h1' 6 l (by omega) (by omega) (by omega) (by omega) (by omega) (by omega)]; exact (hM.2.2.1 l hl).2.2.2.2.2
    have vl : vp_in (nI l) 10 := vp_in_nI (by omega) (by decide)
    have a5 := s5 l hl
    have a6 := s6 l hl
    show w_X9_seek_32 (fu + 1) (nI sp) (nI k) v (nI l) s Q K3
    rw [w_X9_seek_32, h2', nI_clamp (n := l) (by omega), h3' l hl, e5, e6, nI_clamp (n := (frs N l).1) (by omega), nI_1 l, nI_1 (frs N l).1]
    have sc : frs N (l + 1) = if (frs N l).1 < 5 ∧ N 5 l = 0 ∧ N 6 l = 0 then ((frs N l).1 + 1, fun i => if i = (frs N l).1 then l else (frs N l).2 i) else frs N l := rfl
    have had : ∀ j, j < l + 1 → (ds_wi s 14 l (nI (N 4 l))).1 14 j = nI (N 4 j) := fun j hj => by
      rw [ds_wi_1]
      by_cases e : j = l
      · rw [if_pos ⟨rfl, e⟩, e]
      · rw [if_neg (fun z => e z.2)]; exact h4' j (by omega)
    have skip : ¬ ((frs N l).1 < 5 ∧ N 5 l = 0 ∧ N 6 l = 0) → w_X9_seek_32 fu (nI sp) (nI k) (nI (frs N l).1) (nI (l + 1)) (ds_wi s 14 l (nI (N 4 l))) Q K3 := by
      intro hn
      refine hnext (_, _) ⟨h1'.wi (by omega), by rw [sc, if_neg hn]; rfl, fun j hj => ?_, had, fun i hi => ?_⟩
      · show (ds_wi s 14 l _).1 4 j = _
        rw [ds_wi_1, if_neg (by omega)]; exact h3' j hj
      · rw [sc, if_neg hn] at hi ⊢
        show (ds_wi s 14 l _).1 15 i = _
        rw [ds_wi_1, if_neg (by omega)]; exact h5' i hi
    refine pk_le (N 0 7) l (fun h => by omega) (fun _ => ⟨vl, vl, pk_le 5 (frs N l).1 (fun h => skip (by omega)) (fun h => ⟨vl, pk_ne (N 5 l) 0 (fun h2 => skip (fun z => h2 z.2.1)) (fun h2 => ⟨vl, pk_ne (N 6 l) 0 (fun h3 => skip (fun z => h3 z.2.2)) (fun h3 => ⟨vp_in_nI h (by decide), ?_⟩)⟩)⟩)⟩) (k7 s h1') rfl
    have hy : (frs N l).1 < 5 ∧ N 5 l = 0 ∧ N 6 l = 0 := ⟨h, h2, h3⟩
    refine hnext (_, _) ⟨(h1'.wi (by omega)).wi (by omega), by rw [sc, if_pos hy]; rfl, fun j hj => ?_, fun j hj => ?_, fun i hi => ?_⟩
    · show (ds_wi (ds_wi s 14 l _) 15 _ _).1 4 j = _
      rw [ds_wi_1, if_neg (by omega), ds_wi_1, if_neg (by omega)]; exact h3' j hj
    · show (ds_wi (ds_wi s 14 l _) 15 _ _).1 14 j = _
      rw [ds_wi_1, if_neg (by omega)]; exact had j hj
    · rw [sc, if_pos hy] at hi ⊢
      have hi' : i < (frs N l).1 + 1 := hi
      show (ds_wi (ds_wi s 14 l (nI (N 4 l))) 15 (frs N l).1 (nI l)).1 15 i = nI (if i = (frs N l).1 then l else (frs N l).2 i)
      rw [ds_wi_1]
      by_cases e : i = (frs N l).1
      · rw [if_pos ⟨rfl, e⟩, if_pos e]
      · rw [if_neg (fun z => e z.2), if_neg e, ds_wi_1, if_neg (by omega)]; exact h5' i (by omega)
/-- the net with what was sought -/
def skN (N : Nt) (b : Nat → Nat) (U L : Nat) : Nt := fun c k => if c = 8 then b k else if c = 0 ∧ k = 10 then 1 else if c = 0 ∧ k = 28 then U else if c = 0 ∧ k = 29 then L else N c k
theorem pub_seek (a b : Int32) : Pub mt_X8_seek mt_X9_seek [.int a, .int b] := by
  intro σC σM ⟨N, hN, hC, hM⟩
  have hB : Both σC σM := ⟨N, hN, hC, hM⟩
  have m10 := hN.2.1
  have ea : q_in a.toInt64 1 2 = q_rng a 1 3 := q_in_1_2 a
  have eb : q_in b.toInt64 0 10 = q_rng b 0 11 := q_in_0_10 b
  rcases rcl 1 3 (by decide) (by decide) a with h1 | ⟨h1, sp, hs1, hs2, rfl⟩
  · have hM' : ds_E mt_X9_seek Ym [.ref 0, .int a, .int b] σM (fun r' σM' => r' = some (.int (-2)) ∧ Both σC σM') := e_X9_seek a b σM _ ⟨fun _ => ⟨rfl, hB⟩, fun h => absurd (by rw [ea]; exact h1) h⟩
    have nd := q_rng_0.mp (show q_rng a 1 3 = 0 from h1)
    refine e_X8_seek a b σC _ ⟨fun _ => hM', fun k1 => ⟨fun _ => hM', fun k2 => absurd ⟨nlt32.mp k1, ?_⟩ nd⟩⟩
    have e1 : (2 : Int32).toInt = 2 := rfl
    have e2 : (3 : Int32).toInt = 3 := rfl
    rw [fa_lt, e1] at k2
    rw [fa_lt, e2]
    omega
  have x1 : ¬ nI sp < (1 : Int32) := nI_nlt (a := sp) (b := 1) hs1 (by omega)
  have x2 : ¬ (2 : Int32) < nI sp := nI_nlt (a := 2) (b := sp) (by omega) (by decide)
  have x3 : ¬ q_in (nI sp).toInt64 1 2 = 0 := by rw [ea, show q_rng (nI sp) 1 3 = 1 from h1]; decide
  rcases rc0 (hi := 11) (by decide) b with h2 | ⟨h2, k, hk, rfl⟩
  · have hM' : ds_E mt_X9_seek Ym [.ref 0, .int (nI sp), .int b] σM (fun r' σM' => r' = some (.int (-2)) ∧ Both σC σM') := e_X9_seek (nI sp) b σM _ ⟨fun h => absurd h x3, fun _ => ⟨fun h => absurd (by rw [eb]; exact h2) h, fun _ => ⟨rfl, hB⟩⟩⟩
    have nd := q_rng_0.mp (show q_rng b 0 11 = 0 from h2)
    refine e_X8_seek (nI sp) b σC _ ⟨fun h => absurd h x1, fun _ => ⟨fun h => absurd h x2, fun _ => ⟨fun _ => hM', fun k1 => ⟨fun k2 => absurd ⟨nlt32.mp k1, ?_⟩ nd, fun _ => hM'⟩⟩⟩⟩
    have e1 : (10 : Int32).toInt = 10 := rfl
    have e2 : (11 : Int32).toInt = 11 := rfl
    rw [fa_le, e1] at k2
    rw [fa_lt, e2]
    omega
  have x4 : ¬ nI k < (0 : Int32) := nI_pos (by omega)
  have x5 : nI k ≤ (10 : Int32) := nI_le (b := 10) (by omega) (by decide)
  have x6 : ¬ q_in (nI k).toInt64 0 10 = 0 := by rw [eb, show q_rng (nI k) 0 11 = 1 from h2]; decide
  refine e_X8_seek (nI sp) (nI k) σC _ ⟨fun h => absurd h x1, fun _ => ⟨fun h => absurd h x2, fun _ => ⟨fun h => absurd h x4, fun _ => ⟨fun _ => ev_search hN hC.rc (k := k) hs1 (by omega) (by omega) fun s b o r hRC hb e2 e3 e15 hBV => ?_, fun h => absurd x5 h⟩⟩⟩⟩
  rw [e3]
  refine e_X9_seek (nI sp) (nI k) σM _ ⟨fun h => absurd h x3, fun _ => ⟨fun _ => seek_M hN hM hs1 (by omega) (by omega) fun s' b' U L hk' hb' h4 h8 h28 h29 hr => ?_, fun h => absurd h x6⟩⟩
  have e := isBest_uniq hb' hb
  subst e
  refine ⟨rfl, skN N b' U L, ?_, ?_, ?_⟩
  · obtain ⟨q1, q2, q3, q4, q5, q6, q7⟩ := id hN
    exact ⟨q1, q2, q3, q4, q5, Nat.le_refl 1, fun _ l hl => hb.1.wok hN (by omega) l hl⟩
  · obtain ⟨c0, c1, cl, c6, c7, cld, c12⟩ := hRC
    obtain ⟨b1, b2, b3, b4, b5⟩ := hBV
    have avr := avN_r hN b'
    have hred : Red o (151200 * r) U L := by
      obtain ⟨g, l0, ee⟩ := hr
      refine ⟨g, l0, ?_⟩
      apply Nat.eq_of_mul_eq_mul_right (show 0 < (avN N b').2.1 by omega)
      calc o * L * (avN N b').2.1 = (o * (avN N b').2.1) * L := Nat.mul_right_comm _ _ _
        _ = (avN N b').1 * r * L := by rw [b5]
        _ = (avN N b').1 * L * r := Nat.mul_right_comm _ _ _
        _ = 151200 * (avN N b').2.1 * U * r := by rw [ee]
        _ = 151200 * r * U * (avN N b').2.1 := by simp only [Nat.mul_assoc, Nat.mul_comm, Nat.mul_left_comm]
    obtain ⟨eu, el⟩ := red_uniq (by omega) (by omega) hred (red_gcd (u := o) (v := 151200 * r) (by omega)) rfl
    refine ⟨c0, c1, cl, c6, c7, cld, c12, e2, fun _ => ⟨e15, e3, o, r, b1, b2, b3, by omega, ?_, ?_⟩⟩
    · show o = U * Nat.gcd o (151200 * r)
      rw [eu, Nat.div_mul_cancel (Nat.gcd_dvd_left _ _)]
    · show 151200 * r = L * Nat.gcd o (151200 * r)
      rw [el, Nat.div_mul_cancel (Nat.gcd_dvd_right _ _)]
  · obtain ⟨m0, m7, ml, mld, m9, mS, mm, msk⟩ := id hM
    have kk : ∀ c j, c ≠ 4 → c ≠ 8 → c ≠ 9 → c ≠ 14 → c ≠ 15 → ¬ (c = 0 ∧ (j = 21 ∨ j = 24 ∨ j = 25 ∨ j = 10)) → (ds_wi s' 0 10 1).1 c j = σM.1 c j := fun c j z1 z2 z3 z4 z5 z6 => by
      rw [ds_wi_1, if_neg (by omega)]; exact hk' c j z1 z2 z3 z4 z5 (by omega)
    refine ⟨?_, ?_, fun l hl => ⟨?_, ?_, ?_, ?_, ?_, ?_⟩, fun i hi => ?_, ?_, ?_, ?_, fun _ => ⟨fun l hl => ?_, h28, h29⟩⟩
    · rw [kk 0 0 (by omega) (by omega) (by omega) (by omega) (by omega) (by omega)]; exact m0
    · rw [kk 0 7 (by omega) (by omega) (by omega) (by omega) (by omega) (by omega)]; exact m7
    · rw [kk 1 l (by omega) (by omega) (by omega) (by omega) (by omega) (by omega)]; exact (ml l hl).1
    · rw [kk 2 l (by omega) (by omega) (by omega) (by omega) (by omega) (by omega)]; exact (ml l hl).2.1
    · rw [kk 3 l (by omega) (by omega) (by omega) (by omega) (by omega) (by omega)]; exact (ml l hl).2.2.1
    · rw [ds_wi_1, if_neg (by omega)]; exact h4 l hl
    · rw [kk 5 l (by omega) (by omega) (by omega) (by omega) (by omega) (by omega)]; exact (ml l hl).2.2.2.2.1
    · rw [kk 6 l (by omega) (by omega) (by omega) (by omega) (by omega) (by omega)]; exact (ml l hl).2.2.2.2.2
    · rw [kk 7 i (by omega) (by omega) (by omega) (by omega) (by omega) (by omega)]; exact mld i hi
    · rw [kk 0 9 (by omega) (by omega) (by omega) (by omega) (by omega) (by omega)]; exact m9
    · rw [ds_wi_1, if_pos ⟨rfl, rfl⟩]; rfl
    · rw [kk 0 13 (by omega) (by omega) (by omega) (by omega) (by omega) (by omega)]; exact mm
    · rw [ds_wi_1, if_neg (by omega)]; exact h8 l hl
