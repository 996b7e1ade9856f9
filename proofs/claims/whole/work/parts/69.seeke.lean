theorem ch0_own {N : Nt} {sp : Nat} {w : Nat → Nat} (h : Cand N sp w) (h0 : chN N w = 0) : w = N 4 := h.ext Cand.own fun i hi => (cntL_0 h0 _ (frN_lt hi)).symm
theorem ev_search {N : Nt} (hN : Nok N) {σ : ds_S} (hC : RC N σ) {sp k : Nat} (hsp1 : 1 ≤ sp) (hsp : sp ≤ 2) (hk10 : k ≤ 10) {K : ds_S → Prop}
    (hK : ∀ s b o r, RC N s → isBest N sp k b → s.1 14 2 = 1 → s.1 14 3 = nI (chN N b) → (∀ l, l < N 0 7 → s.1 15 l = nI (b l)) → BV N b o r s → K s) : ds_EV mt_X5_search Yc [.ref 14, .int (nI sp), .int (nI k)] σ K := by
  have hm := hN.2.1
  have c5 := fcN_le N
  have ctb : ctN N ≤ 1 + N 0 7 := by unfold ctN; split <;> omega
  have ct1 : 1 ≤ ctN N := by unfold ctN; split <;> omega
  refine e_X5_search (nI sp) (nI k) σ _ ?_
  generalize hQ : (fun r σ' => r = none ∧ K σ') = Q
  have hq : ∀ s, K s → Q none s := fun s h => by rw [← hQ]; exact ⟨rfl, h⟩
  clear hQ
  unfold w_X5_search
  have hC0 : RC N (ds_wi σ 14 6 (nI sp)) := hC.of fun c hc => if_neg (by omega)
  refine ev_targets hC0 (fun v tg hv htg => ?_) (fun t i ht hi => hN.ld ht hi)
  generalize hs1 : ds_wi (ds_wi (ds_wi (ds_wi σ 14 6 (nI sp)) 14 9 v) 14 10 (0 : Int32)) 14 3 (0 : Int32) = s1
  have r1 : ∀ c, c ≠ 14 → s1.1 c = σ.1 c := fun c hc => by
    funext j
    rw [← hs1, ds_wi_1, if_neg (by omega), ds_wi_1, if_neg (by omega), ds_wi_1, if_neg (by omega), ds_wi_1, if_neg (by omega)]
  have x6 : s1.1 14 6 = nI sp := by rw [← hs1, ds_wi_1, if_neg (by omega), ds_wi_1, if_neg (by omega), ds_wi_1, if_neg (by omega), ds_wi_1, if_pos ⟨rfl, rfl⟩]
  have x9 : s1.1 14 9 = v := by rw [← hs1, ds_wi_1, if_neg (by omega), ds_wi_1, if_neg (by omega), ds_wi_1, if_pos ⟨rfl, rfl⟩]
  have x10 : s1.1 14 10 = nI 0 := by rw [← hs1, ds_wi_1, if_neg (by omega), ds_wi_1, if_pos ⟨rfl, rfl⟩]; rfl
  have x3 : s1.1 14 3 = nI 0 := by rw [← hs1, ds_wi_1, if_pos ⟨rfl, rfl⟩]; rfl
  clear hs1
  have hC1 : RC N s1 := hC.of fun c hc => r1 c (by omega)
  refine ev_chooseFree hN hC1 fun s2 g1 g2 g3 g4 g5 => ?_
  have hC2 : RC N s2 := hC1.of fun c hc => g1 c (by omega) (by omega)
  generalize hs3 : ds_cp (ds_cp s2 64 18 10) 64 15 10 = s3
  have r3 : ∀ c, c ≠ 15 → c ≠ 18 → s3.1 c = s2.1 c := fun c h1 h2 => by
    funext j
    rw [← hs3, ds_cp_1, if_neg h1, ds_cp_1, if_neg h2]
  have t18 : ∀ l, l < N 0 7 → s3.1 18 l = nI (N 4 l) := fun l hl => by
    rw [← hs3, ds_cp_1, if_neg (by decide), ds_cp_1, if_pos rfl, if_pos (by omega)]
    exact (hC2.2.2.1 l hl).2.2.2
  have t15 : ∀ l, l < N 0 7 → s3.1 15 l = nI (N 4 l) := fun l hl => by
    rw [← hs3, ds_cp_1, if_pos rfl, if_pos (by omega), ds_cp_1, if_neg (by decide)]
    exact (hC2.2.2.1 l hl).2.2.2
  clear hs3
  have hC3 : RC N s3 := hC2.of fun c hc => r3 c (by omega) (by omega)
  have SI3 : SI N sp v s3 := by
    refine ⟨hC3, ?_, ?_, fun i hi => ?_, ?_⟩
    · rw [r3 14 (by decide) (by decide), g2 6 (by decide)]; exact x6
    · rw [r3 14 (by decide) (by decide)]; exact g4
    · rw [r3 17 (by decide) (by decide)]; exact g5 i hi
    · rw [r3 14 (by decide) (by decide), g2 9 (by decide)]; exact x9
  have x10' : s3.1 14 10 = nI 0 := by rw [r3 14 (by decide) (by decide), g2 10 (by decide)]; exact x10
  have x3' : s3.1 14 3 = nI 0 := by rw [r3 14 (by decide) (by decide), g2 3 (by decide)]; exact x3
  refine ev_findWorstC hN hC3 (Or.inr (Or.inl rfl)) TW64 (by decide) hN.w4 (fun l hl => (hC3.2.2.1 l hl).2.2.2) fun s4 st hk4 hA4 hB4 => ?_
  have r4 : ∀ c, c < 13 ∨ c = 14 ∨ c = 15 ∨ c = 17 ∨ c = 18 ∨ 56 ≤ c → s4.1 c = s3.1 c := fun c hc => hk4.1 c (by omega) (by omega) (by omega)
  have SI4 : SI N sp v s4 := SI3.of (fun c hc => r4 c (by omega)) (by rw [r4 14 (by omega)]) (by rw [r4 14 (by omega)]) (by rw [r4 14 (by omega)])
  refine ev_countChoices hN SI4 hsp ?_
  have p243 := prod5 (N := N) hsp c5
  have own0 : chN N (N 4) = 0 := cntL_self _ _
  have BV4 : BV N (N 4) st.1 st.2.1 s4 := ⟨hA4.1, hA4.2.1, hB4.1, (isB_le hN hN.w4 (fun t i h => h.1) hB4).1, isB_val hB4 (avN_is hN (N 4))⟩
  have bself : ∀ u, ¬ bet N u u := by
    rintro u (h | ⟨_, h | ⟨_, h⟩⟩)
    · unfold ltV at h; omega
    · omega
    · exact lexL_asym h h
  refine pk_loop (fun fu q s => w_X5_search_92 fu (nI k) (nI (prodN (chI N sp) (fcN N))) (nI q) s Q) (fun q s => SI N sp v s ∧ ∃ b o r h tr, (∀ l, l < N 0 7 → s.1 18 l = nI (tr l)) ∧ Cand N sp tr ∧ (∀ l, l < N 0 7 → s.1 15 l = nI (b l)) ∧ s.1 14 3 = nI (chN N b) ∧ s.1 14 10 = nI h ∧ h < ctN N ∧ BV N b o r s ∧ Cand N sp b ∧ chN N b ≤ k ∧ (b = N 4 ∨ ∃ q', q' < q ∧ b = wc N sp (fcN N) q' (N 4)) ∧ ¬ bet N (N 4) b ∧ ∀ q', q' < q → chN N (wc N sp (fcN N) q' (N 4)) ≤ k → ¬ bet N (wc N sp (fcN N) q' (N 4)) b) (prodN (chI N sp) (fcN N)) 0 s4 (by omega) ⟨SI4, N 4, st.1, st.2.1, 0, N 4, fun l hl => by rw [r4 18 (by omega)]; exact t18 l hl, Cand.own, fun l hl => by rw [r4 15 (by omega)]; exact t15 l hl, by rw [r4 14 (by omega), own0]; exact x3', by rw [r4 14 (by omega)]; exact x10', by omega, BV4, Cand.own, by omega, Or.inl rfl, bself _, fun q' h => by omega⟩ ?_ ?_
  · rintro fu s ⟨hS, b, o, r, h, tr, y1, y2, y3, y4, y5, y6, y7, y8, y9, y10, y11, y12⟩
    rw [w_X5_search_92]
    refine pk_le (prodN (chI N sp) (fcN N)) (prodN (chI N sp) (fcN N)) (fun _ => hq _ (hK _ b o r (hS.1.of fun c hc => if_neg (by omega)) ⟨y8, y9, fun u hu huk => ?_⟩ (by rw [ds_wi_1, if_pos ⟨rfl, rfl⟩]) (by rw [ds_wi_1, if_neg (by omega)]; exact y4) (fun l hl => by rw [ds_wi_1, if_neg (by omega)]; exact y3 l hl) ?_)) (fun z => by omega)
    · obtain ⟨q, hq1, hq2⟩ := wc_cover hN hsp1 hu (fcN N) (Nat.le_refl _)
      have e : wc N sp (fcN N) q (N 4) = u := (wc_cand hsp1 _ q _ (Nat.le_refl _) Cand.own).ext hu fun i hi => hq2 _ i hi
      rw [← e]
      exact y12 q hq1 (by rw [e]; exact huk)
    · obtain ⟨z1, z2, z3⟩ := y7
      exact ⟨z1, by rw [ds_wi_1, if_neg (by omega)]; exact z2, z3⟩
  · rintro fu q s hq1 ⟨hS, b, o, r, h, tr, y1, y2, y3, y4, y5, y6, y7, y8, y9, y10, y11, y12⟩ hnext
    rw [w_X5_search_92]
    refine pk_le (prodN (chI N sp) (fcN N)) q (fun z => by omega) (fun _ => ev_choose hN hS hsp1 hsp (q := q) (by omega) y2 y1 fun rr hrr => ?_)
    have hwC : Cand N sp (wc N sp (fcN N) q (N 4)) := wc_cand hsp1 _ q _ (Nat.le_refl _) Cand.own
    have hlex : ∀ q', q' < q → lexL (N 0 7) (wc N sp (fcN N) q' (N 4)) (wc N sp (fcN N) q (N 4)) := fun q' h' => wc_lex hsp1 h' hq1
    generalize hw : wc N sp (fcN N) q (N 4) = w at hrr hwC hlex ⊢
    have cw : chN N w ≤ N 0 7 := cntL_le _ _ _
    have S1 : SI N sp v (ds_si s 18 rr) := hS.of (fun c hc => if_neg (by omega)) rfl rfl rfl
    have u18 : ∀ l, l < N 0 7 → (ds_si s 18 rr).1 18 l = nI (w l) := hrr
    have BV1 : BV N b o r (ds_si s 18 rr) := y7
    have y3' : ∀ l, l < N 0 7 → (ds_si s 18 rr).1 15 l = nI (b l) := y3
    have y4' : (ds_si s 18 rr).1 14 3 = nI (chN N b) := y4
    have y5' : (ds_si s 18 rr).1 14 10 = nI h := y5
    generalize ds_si s 18 rr = s5 at S1 u18 BV1 y3' y4' y5' ⊢
    rw [nI_1 q]
    have skip : ∀ s6 h', SI N sp v s6 → (∀ l, l < N 0 7 → s6.1 18 l = nI (w l)) → (∀ l, l < N 0 7 → s6.1 15 l = nI (b l)) → s6.1 14 3 = nI (chN N b) → s6.1 14 10 = nI h' → h' < ctN N → BV N b o r s6 → (chN N w ≤ k → ¬ bet N w b) → w_X5_search_92 fu (nI k) (nI (prodN (chI N sp) (fcN N))) (nI (q + 1)) s6 Q := by
      intro s6 h' z1 z2 z3 z4 z5 z6 z7 z8
      refine hnext s6 ⟨z1, b, o, r, h', w, z2, hwC, z3, z4, z5, z6, z7, y8, y9, ?_, y11, fun q' hq' hk' => ?_⟩
      · rcases y10 with e | ⟨q', e1, e2⟩
        · exact Or.inl e
        · exact Or.inr ⟨q', by omega, e2⟩
      · by_cases e : q' = q
        · rw [e, hw] at hk' ⊢; exact z8 hk'
        · exact y12 q' (by omega) hk'
    refine pk_le (chN N w) 0 (fun z => skip s5 h S1 u18 y3' y4' y5' y6 BV1 fun _ => ?_) (fun z => pk_lt k (chN N w) (fun z2 => skip s5 h S1 u18 y3' y4' y5' y6 BV1 fun z3 => by omega) (fun z2 => ?_))
    · rw [ch0_own hwC (by omega)]; exact y11
    · refine ev_isBetter hN hsp1 hsp hv htg S1 hwC u18 BV1 y4' y5' y6 (fun s6 h' hk6 e10 hh' hnb => ⟨fun _ => ?_, fun z3 => absurd rfl z3⟩) (fun s6 o' r' hk6 e10 hb e0 e1 er eo ev => ⟨fun z3 => absurd z3 (by decide), fun _ => ?_⟩)
      · have row6 : ∀ c, c = 1 ∨ (3 ≤ c ∧ c ≤ 5) ∨ c = 12 ∨ (61 ≤ c ∧ c ≤ 64) ∨ c = 17 ∨ c = 15 ∨ c = 16 ∨ c = 18 → s6.1 c = s5.1 c := fun c hc => hk6.row (by omega) (by omega) (by omega) (by omega)
        refine skip s6 h' (S1.of (fun c hc => row6 c (by omega)) (hk6.1 14 6 (by omega) (by omega) (by omega) (by omega)) (hk6.1 14 7 (by omega) (by omega) (by omega) (by omega)) (hk6.1 14 9 (by omega) (by omega) (by omega) (by omega))) (fun l hl => by rw [row6 18 (by omega)]; exact u18 l hl) (fun l hl => by rw [row6 15 (by omega)]; exact y3' l hl) ((hk6.1 14 3 (by omega) (by omega) (by omega) (by omega)).trans y4') e10 hh' ?_ fun _ hbet => ?_
        · obtain ⟨z1, z2', z3⟩ := BV1
          exact ⟨by rw [hk6.2 16 (by decide) (by decide) (by decide) (by decide)]; exact z1, by rw [row6 16 (by omega)]; exact z2', z3⟩
        · rcases hbet with hb | ⟨hb1, hb2 | ⟨hb2, hb3⟩⟩
          · exact hnb (Or.inl hb)
          · exact hnb (Or.inr ⟨hb1, hb2⟩)
          · rcases y10 with e | ⟨q', e1, e2⟩
            · rw [e, own0] at hb2; omega
            · rw [e2] at hb3
              exact lexL_asym hb3 (hlex q' e1)
      · have row6 : ∀ c, c = 1 ∨ (3 ≤ c ∧ c ≤ 5) ∨ c = 12 ∨ (61 ≤ c ∧ c ≤ 64) ∨ c = 17 ∨ c = 15 ∨ c = 16 ∨ c = 18 → s6.1 c = s5.1 c := fun c hc => hk6.row (by omega) (by omega) (by omega) (by omega)
        refine ev_copy (Or.inr (Or.inr (Or.inr rfl))) (Or.inr (Or.inr (Or.inl rfl))) (by decide) fun s7 j1 j2 j3 j4 j5 j6 => ?_
        have row7 : ∀ c, c ≠ 16 → c ≠ 14 → s7.1 c = s6.1 c := fun c z3 z4 => (j1 c z3).trans (if_neg z4)
        have s14 : ∀ n, n ≠ 3 → s7.1 14 n = s6.1 14 n := fun n hn => by rw [j1 14 (by decide), ds_wi_1, if_neg (by omega)]
        have s143 : s7.1 14 3 = nI (chN N w) := by rw [j1 14 (by decide), ds_wi_1, if_pos ⟨rfl, rfl⟩]
        have hbb := betC_bet hb
        refine hnext _ ⟨S1.of (fun c hc => ?_) ?_ ?_ ?_, w, o', r', h, w, fun l hl => ?_, hwC, fun l hl => ?_, ?_, ?_, y6, ⟨?_, ?_, er, eo, ev⟩, hwC, by omega, Or.inr ⟨q, by omega, hw.symm⟩, fun hb2 => y11 (bet_trans hN hb2 hbb), fun q' hq' hk' hb2 => ?_⟩
        · funext n
          rw [ds_cp_1, if_neg (by omega), row7 c (by omega) (by omega), row6 c (by omega)]
        · rw [ds_cp_1, if_neg (by decide), s14 6 (by decide)]; exact hk6.1 14 6 (by omega) (by omega) (by omega) (by omega)
        · rw [ds_cp_1, if_neg (by decide), s14 7 (by decide)]; exact hk6.1 14 7 (by omega) (by omega) (by omega) (by omega)
        · rw [ds_cp_1, if_neg (by decide), s14 9 (by decide)]; exact hk6.1 14 9 (by omega) (by omega) (by omega) (by omega)
        · rw [ds_cp_1, if_neg (by decide), row7 18 (by decide) (by decide), row6 18 (by omega)]; exact u18 l hl
        · rw [ds_cp_1, if_pos rfl, if_pos (by omega), row7 18 (by decide) (by decide), row6 18 (by omega)]; exact u18 l hl
        · rw [ds_cp_1, if_neg (by decide)]; exact s143
        · rw [ds_cp_1, if_neg (by decide), s14 10 (by decide)]; exact e10
        · rw [ds_cp_2, j3]; exact e0
        · rw [ds_cp_1, if_neg (by decide), j4, ds_wi_1, if_neg (by omega)]; exact e1
        · by_cases e : q' = q
          · rw [e, hw] at hb2
            exact bself _ hb2
          · exact y12 q' (by omega) hk' (bet_trans hN hb2 hbb)
