/-! the class's worst of all -/
def AS (a : Nat) (st : Nat × Nat × Nat × Nat) (s : ds_S) : Prop := s.2 a 0 = lN st.1 ∧ s.1 a 1 = nI st.2.1 ∧ s.1 a 4 = nI st.2.2.1 ∧ s.1 a 5 = moC (moI st.2.2.2)
def kA (a : Nat) (σ s : ds_S) : Prop := (∀ c, ¬ (20 ≤ c ∧ c < 56) → c ≠ 13 → c ≠ a → s.1 c = σ.1 c) ∧ ∀ c, c ≠ 9 → c ≠ 10 → c ≠ 13 → c ≠ a → s.2 c = σ.2 c
theorem kA.refl (a : Nat) (σ : ds_S) : kA a σ σ := ⟨fun _ _ _ _ => rfl, fun _ _ _ _ _ => rfl⟩
theorem kA.trans {a : Nat} {x y z : ds_S} (h : kA a x y) (h2 : kA a y z) : kA a x z := ⟨fun c p q r => (h2.1 c p q r).trans (h.1 c p q r), fun c p q r t => (h2.2 c p q r t).trans (h.2 c p q r t)⟩
/-- a peak that keeps the worst -/
def QC (a : Nat) : Prop := a = 11 ∨ a = 16 ∨ a = 19
theorem QC.pc {a : Nat} (h : QC a) : PC a := by rcases h with rfl | rfl | rfl; exact Or.inl rfl; exact Or.inr (Or.inr (Or.inr rfl)); exact Or.inr (Or.inr (Or.inl rfl))
theorem QC.b {a : Nat} (h : QC a) : 11 ≤ a ∧ a < 20 ∧ a ≠ 12 ∧ a ≠ 13 ∧ a ≠ 18 ∧ a ≠ 14 ∧ a ≠ 15 ∧ a ≠ 17 := by rcases h with rfl | rfl | rfl <;> decide
theorem RC.a {N : Nt} {σ s : ds_S} {a : Nat} (ha : QC a) (h : RC N σ) (hk : kA a σ s) : RC N s := h.of fun c hc => hk.1 c (by omega) (by omega) (by have := ha.b; omega)
theorem ev_copy {a b : Nat} (ha : PC a) (hb : PC b) (hab : b ≠ a) {σ : ds_S} {K : ds_S → Prop} (hK : ∀ s, (∀ c, c ≠ a → s.1 c = σ.1 c) → (∀ c, c ≠ a → s.2 c = σ.2 c) → s.2 a 0 = σ.2 b 0 → s.1 a 1 = σ.1 b 1 → s.1 a 4 = σ.1 b 4 → s.1 a 5 = σ.1 b 5 → K s) : ds_EV mt_X3_copy Yc [.ref a, .ref b] σ K := by
  have ka := ha.k
  have kb := hb.k
  refine e_X3_copy a b σ _ ⟨kb, ka, kb, ka, kb, ka, kb, ka, kb, ka, kb, ka, rfl, hK _ (fun c hc => ?_) (fun c hc => ?_) ?_ ?_ ?_ ?_⟩
  · funext k
    simp only [ds_wi_1]
    rw [if_neg (by omega), if_neg (by omega), if_neg (by omega), if_neg (by omega), if_neg (by omega)]
    rfl
  · exact ds_wl_row _ _ _ _ hc
  · show (ds_wl σ a 0 (σ.2 b 0)).2 a 0 = _
    rw [ds_wl_2, if_pos ⟨rfl, rfl⟩]
  · simp only [ds_wi_1]; simp
  · simp only [ds_wi_1]; simp [hab]; rfl
  · simp only [ds_wi_1]; simp [hab]; rfl
theorem ev_targets {N : Nt} {σ : ds_S} (hC : RC N σ) {K : Int32 → ds_S → Prop} (hK : ∀ (v : Int32) (tg : Nat → Bool), (∀ t, t < 6 → q_bit v (nI t) = if tg t = true then 1 else 0) → (∀ t i, t < 3 → i < 36 → 0 < N 7 (36 * t + i) → tg (i % 6) = true) → K v σ) (hld : ∀ t i, t < 3 → i < 36 → N 7 (36 * t + i) ≤ 50) : ds_EI mt_X6_targetsOfLoads Yc [.ref 12] σ K := by
  refine e_X6_targetsOfLoads σ _ ?_
  generalize hQ : (fun r σ' => ∃ x, r = some (Value.int x) ∧ K x σ') = Q
  have hq : ∀ x s, K x s → Q (some (.int x)) s := fun x s h => by rw [← hQ]; exact ⟨x, rfl, h⟩
  clear hQ
  unfold w_X6_targetsOfLoads
  refine pk_loop (σ := Int32) (fun fu t v => w_X6_targetsOfLoads_4 fu v (nI t) σ Q) (fun t v => ∃ tg : Nat → Bool, (∀ x, x < 6 → q_bit v (nI x) = if tg x = true then 1 else 0) ∧ ∀ t' i, t' < t → i < 36 → 0 < N 7 (36 * t' + i) → tg (i % 6) = true) 3 0 0 (by omega) ⟨fun _ => false, fun x hx => ?_, fun t' i h => by omega⟩ ?_ ?_
  · have : ∀ x, x < 6 → q_bit 0 (nI x) = 0 := by decide +kernel
    rw [this x hx]; rfl
  · rintro fu v ⟨tg, h1, h2⟩
    rw [w_X6_targetsOfLoads_4]
    exact pk_le 3 3 (fun _ => hq _ _ (hK v tg h1 h2)) (fun h => by omega)
  · rintro fu t v ht ⟨tg, h1, h2⟩ hnext
    rw [w_X6_targetsOfLoads_4]
    refine pk_le 3 t (fun h => by omega) (fun _ => ?_)
    generalize hKK : (fun (v1_1 v2_1 : Int32) σ1 => w_X6_targetsOfLoads_4 fu v1_1 (v2_1 + (1 : Int32)) σ1 Q) = KK
    have hkk : ∀ v, (∃ tg : Nat → Bool, (∀ x, x < 6 → q_bit v (nI x) = if tg x = true then 1 else 0) ∧ ∀ t' i, t' < t + 1 → i < 36 → 0 < N 7 (36 * t' + i) → tg (i % 6) = true) → KK v (nI t) σ := fun v h => by
      rw [← hKK]
      show w_X6_targetsOfLoads_4 fu v (nI t + 1) σ Q
      rw [nI_1]
      exact hnext v h
    clear hKK hnext
    obtain ⟨w1, w2, w3⟩ := row_at ht
    refine pk_loop (σ := Int32) (fun fu i v => w_X6_targetsOfLoads_11 fu v (nI t) (nI i) σ Q KK) (fun i v => ∃ tg : Nat → Bool, (∀ x, x < 6 → q_bit v (nI x) = if tg x = true then 1 else 0) ∧ ∀ t' i', (t' < t ∨ (t' = t ∧ i' < i)) → i' < 36 → 0 < N 7 (36 * t' + i') → tg (i' % 6) = true) 36 0 v (by omega) ⟨tg, h1, fun t' i' h => h2 t' i' (by omega)⟩ ?_ ?_
    · rintro fu v ⟨tg, h1, h2⟩
      rw [w_X6_targetsOfLoads_11]
      exact pk_le 36 36 (fun _ => hkk v ⟨tg, h1, fun t' i h3 h4 h5 => h2 t' i (by omega) h4 h5⟩) (fun h => by omega)
    · rintro fu i v hi ⟨tg, h1, h2⟩ hnext
      have ld := hld t i ht hi
      rw [w_X6_targetsOfLoads_11, w1, w3, nI_clamp (n := i) (by omega), row3 hC ht i hi, nI_1 i, show (6 : Int32) = nI 6 from rfl, pk_rem (by omega) (by decide) (by decide)]
      refine pk_le 36 i (fun h => by omega) (fun _ => ⟨vp_in_nI ht (by decide), w2, vp_in_nI hi (by decide), pk_le (N 7 (36 * t + i)) 0 (fun h => hnext v ⟨tg, h1, fun t' i' h3 h4 h5 => ?_⟩) (fun h => hnext _ ⟨_, q_bit_more (n := 6) (by decide) (Nat.mod_lt _ (by decide)) h1, fun t' i' h3 h4 h5 => ?_⟩)⟩)
      · by_cases q : t' = t ∧ i' = i
        · rw [q.1, q.2] at h5; omega
        · exact h2 t' i' (by omega) h4 h5
      · by_cases q : i' % 6 = i % 6
        · rw [if_pos q]
        · rw [if_neg q]
          refine h2 t' i' ?_ h4 h5
          rcases h3 with h3 | ⟨h3, h6⟩
          · exact Or.inl h3
          · right
            refine ⟨h3, ?_⟩
            by_cases e : i' = i
            · rw [e] at q; exact absurd rfl q
            · omega
theorem cmp_iff {a b : Nat} (ha : a < 2 ^ 63) (hb : b < 2 ^ 63) : (0 < q_cmp (lN a) (lN b) ↔ b < a) ∧ (q_cmp (lN a) (lN b) = 0 ↔ a = b) := by
  unfold q_cmp
  have e1 := pk_lLT ha hb
  have e2 := pk_lEQ ha hb
  by_cases h : a < b
  · rw [if_pos (e1.mpr h)]
    exact ⟨⟨fun q => absurd q (by decide), fun q => by omega⟩, ⟨fun q => absurd q (by decide), fun q => by omega⟩⟩
  · rw [if_neg (fun z => h (e1.mp z))]
    by_cases h2 : a = b
    · rw [if_pos (e2.mpr h2)]
      exact ⟨⟨fun q => absurd q (by decide), fun q => by omega⟩, ⟨fun _ => h2, fun _ => rfl⟩⟩
    · rw [if_neg (fun z => h2 (e2.mp z))]
      exact ⟨⟨fun q => by omega, fun _ => by decide⟩, ⟨fun q => absurd q (by decide), fun q => absurd q h2⟩⟩
theorem ev_addNet {N : Nt} (hN : Nok N) {σ : ds_S} (hC : RC N σ) {w : Nat → Nat} {tw a : Nat} (ha : QC a) (htw : TW tw) (htw2 : tw ≠ 13 ∧ tw ≠ a) (hw : Wok N w) (hwt : ∀ l, l < N 0 7 → σ.1 tw l = nI (w l)) {v : Int32} {tg : Nat → Bool} (hv : ∀ t, t < 6 → q_bit v (nI t) = if tg t = true then 1 else 0) (htg : ∀ t i, t < 3 → i < 36 → 0 < N 7 (36 * t + i) → tg (i % 6) = true) {j : Nat} (hj : j ≤ N 0 7) {S : Nat → Nat → Prop} {L : Prop} {st : Nat × Nat × Nat × Nat} (hS3 : ∀ t i, S t i → t < 3) (hSj : L → ∀ t i, S t i → i < j) (hA : AS a st σ) (hB : isB (vN N w) S L st) {K : ds_S → Prop}
    (hK : ∀ s st', kA a σ s → AS a st' s → isB (vN N w) (fun t i => S t i ∨ (i = j ∧ vdN N j ∧ t < 3)) L st' → K s) : ds_EV mt_X6_addNet Yc [.ref 12, .ref tw, .int (nI j), .int v, .ref a] σ K := by
  have hn := hN.1.2
  have hm := hN.2.1
  have hab := ha.b
  have ka := ha.pc.k
  refine e_X6_addNet tw (nI j) v a σ _ ?_
  generalize hQ : (fun r σ' => r = none ∧ K σ') = Q
  have hq : ∀ s, K s → Q none s := fun s h => by rw [← hQ]; exact ⟨rfl, h⟩
  clear hQ
  have ej : nI j - 1 = moC (moI j) := by
    unfold moI moC
    by_cases q : j = 0
    · rw [q]; rfl
    · rw [if_neg q, if_pos (by omega)]
      obtain ⟨k, rfl⟩ : ∃ k, j = k + 1 := ⟨j - 1, by omega⟩
      exact nI_pred k
  have e1 : moC (moI j) = -1 ↔ j = 0 := by
    unfold moI moC
    by_cases q : j = 0
    · rw [if_pos q]; exact ⟨fun _ => q, fun _ => rfl⟩
    · rw [if_neg q, if_pos (by omega)]
      exact ⟨fun e => absurd e (m1_nI (by omega)), fun e => absurd e q⟩
  unfold w_X6_addNet
  rw [ej]
  have main : vdN N j → w_X6_addNet_28 tw a v (moC (moI j)) σ Q := by
    intro hvd
    unfold w_X6_addNet_28
    refine ev_findSome hN hC hw htw hwt (tg := tg) (fun t ht => hv t (by omega)) fun s1 hs1 hW => ?_
    have kA1 : kA a σ s1 := ⟨fun c h1 _ _ => hs1.2 c h1, fun c _ _ _ _ => by rw [hs1.1]⟩
    have A1 : AS a st s1 := by
      obtain ⟨p1, p2, p3, p4⟩ := hA
      refine ⟨?_, ?_, ?_, ?_⟩
      · rw [hs1.1]; exact p1
      · rw [hs1.2 a (by omega)]; exact p2
      · rw [hs1.2 a (by omega)]; exact p3
      · rw [hs1.2 a (by omega)]; exact p4
    refine pk_loop (fun fu t s => w_X6_addNet_46 fu tw a (moC (moI j)) (nI t) s Q) (fun t s => kA a σ s ∧ (∀ c, 20 ≤ c → c < 56 → s.1 c = s1.1 c) ∧ ∃ st', AS a st' s ∧ isB (vN N w) (fun t' i => S t' i ∨ (i = j ∧ t' < t)) L st') 3 0 s1 (by omega) ⟨kA1, fun _ _ _ => rfl, st, A1, isB_cong (fun t' i => ⟨Or.inl, fun h => by rcases h with h | h; exact h; omega⟩) hB⟩ ?_ ?_
    · rintro fu s ⟨hk, -, st', hA', hB'⟩
      rw [w_X6_addNet_46]
      refine pk_le 3 3 (fun _ => hq _ (hK s st' hk hA' (isB_cong (fun t' i => ?_) hB'))) (fun h => by omega)
      constructor
      · rintro (h | ⟨h1, h2⟩)
        · exact Or.inl h
        · exact Or.inr ⟨h1, hvd, h2⟩
      · rintro (h | ⟨h1, _, h2⟩)
        · exact Or.inl h
        · exact Or.inr ⟨h1, h2⟩
    · rintro fu t s ht ⟨hk, hways, st', hA', hB'⟩ hnext
      have hCs := hC.a ha hk
      obtain ⟨w1, w2, w3⟩ := row_at ht
      have hS3' : ∀ t' i, (S t' i ∨ (i = j ∧ t' < t)) → t' < 3 := fun t' i h => by rcases h with h | h; exact hS3 t' i h; omega
      obtain ⟨ob, tb3⟩ := isB_le hN hw hS3' hB'
      rw [w_X6_addNet_46, w1]
      refine pk_le 3 t (fun h => by omega) (fun _ => ⟨vp_in_nI ht (by decide), ?_⟩)
      have hWs : ∀ t', t' < N 0 0 → (∃ b, b < N 0 0 ∧ 0 < N 7 (36 * t + (6 * b + t'))) → WN N w (moI j) t' s := by
        rintro t' ht' ⟨b, hb, hp⟩
        have h1 := htg t (6 * b + t') ht (by omega) hp
        rw [show (6 * b + t') % 6 = t' by omega] at h1
        exact WOK.cong (hW t' ht' h1) (fun c h3 h4 _ => hways c h3 h4) (by omega)
      refine ev_sendTable hN hCs hw (mo := moI j) w2 w3 (row3 hCs ht) (fun i hi => by have := hN.ld ht hi; omega) hWs fun s2 hs2 hov => ?_
      refine ev_clear (Or.inr (Or.inl rfl)) fun s3 g1 g2 g3 _ _ => ?_
      have hC3 : RC N s3 := hCs.of fun c hc => by rw [g1 c (by omega), hs2.1]
      refine ev_climb (Or.inr (Or.inl rfl)) hm (T := onN N w (moI j) (fun i => N 7 (36 * t + i))) (R := N 3) (B := 36 * 50 * 151200) (by decide) hC3.2.1 (fun l hl => (hC3.2.2.1 l hl).2.2.1) hN.rm (fun k hk => ⟨by rw [g2 10 (by decide)]; exact hov k hk, onN_le hN hw (fun i hi => hN.ld ht hi) hk⟩) g3 fun s4 hk4 hP4 => ⟨ka, ?_⟩
      have hP : PS 13 (vN N w t j) s4 := hP4
      obtain ⟨p1, p2, -, -⟩ := hP
      have vr := vN_room hN w t j
      have vb := vN_le hN hw (i := j) ht
      have kA4 : kA a σ s4 := hk.trans ⟨fun c h1 h2 h3 => by rw [hk4.row h2, g1 c h2, hs2.1], fun c h1 h2 h3 h4 => by rw [hk4.2 c h3, g2 c h3, hs2.2 c h2 h1]⟩
      have A4 : AS a st' s4 := by
        obtain ⟨q1, q2, q3, q4⟩ := hA'
        refine ⟨?_, ?_, ?_, ?_⟩
        · rw [hk4.2 a (by omega), g2 a (by omega), hs2.2 a (by omega) (by omega)]; exact q1
        · rw [hk4.row (by omega), g1 a (by omega), hs2.1]; exact q2
        · rw [hk4.row (by omega), g1 a (by omega), hs2.1]; exact q3
        · rw [hk4.row (by omega), g1 a (by omega), hs2.1]; exact q4
      have hways4 : ∀ c, 20 ≤ c → c < 56 → s4.1 c = s1.1 c := fun c h1 h2 => by rw [hk4.row (by omega), g1 c (by omega), hs2.1]; exact hways c h1 h2
      have ea : ∀ k, (ds_wi (ds_wi s4 13 4 (nI t)) 13 5 (moC (moI j))).1 a k = s4.1 a k := fun k => by rw [ds_wi_1, if_neg (by omega), ds_wi_1, if_neg (by omega)]
      obtain ⟨q1, q2, q3, q4⟩ := id A4
      have rb := hB'.1
      have m1 : (vN N w t j).1 * st'.2.1 ≤ 36 * 50 * 151200 * 100 := Nat.mul_le_mul vb rb.2
      have m2 : st'.1 * (vN N w t j).2.1 ≤ 36 * 50 * 151200 * 100 := Nat.mul_le_mul ob vr.2
      obtain ⟨c1, c2⟩ := cmp_iff (a := (vN N w t j).1 * st'.2.1) (b := st'.1 * (vN N w t j).2.1) (by omega) (by omega)
      rw [ea 1, ea 4, p1, p2, q1, q2, q3, nI_l (by omega), nI_l (by omega), lN_mul, lN_mul, nI_1 t, c1, c2]
      have kA5 : kA a σ (ds_wi (ds_wi s4 13 4 (nI t)) 13 5 (moC (moI j))) := ⟨fun c h1 h2 h3 => by
        funext k
        rw [ds_wi_1, if_neg (by omega), ds_wi_1, if_neg (by omega), kA4.1 c h1 h2 h3], fun c h1 h2 h3 h4 => kA4.2 c h1 h2 h3 h4⟩
      have A5 : AS a st' (ds_wi (ds_wi s4 13 4 (nI t)) 13 5 (moC (moI j))) := ⟨q1, (ea 1).trans q2, (ea 4).trans q3, (ea 5).trans q4⟩
      have W5 : ∀ c, 20 ≤ c → c < 56 → (ds_wi (ds_wi s4 13 4 (nI t)) 13 5 (moC (moI j))).1 c = s1.1 c := fun c h1 h2 => by
        funext k
        rw [ds_wi_1, if_neg (by omega), ds_wi_1, if_neg (by omega), hways4 c h1 h2]
      have x0 : (ds_wi (ds_wi s4 13 4 (nI t)) 13 5 (moC (moI j))).2 13 0 = lN (vN N w t j).1 := p1
      have x1 : (ds_wi (ds_wi s4 13 4 (nI t)) 13 5 (moC (moI j))).1 13 1 = nI (vN N w t j).2.1 := by rw [ds_wi_1, if_neg (by omega), ds_wi_1, if_neg (by omega)]; exact p2
      have x4 : (ds_wi (ds_wi s4 13 4 (nI t)) 13 5 (moC (moI j))).1 13 4 = nI t := by rw [ds_wi_1, if_neg (by omega), ds_wi_1, if_pos ⟨rfl, rfl⟩]
      have x5 : (ds_wi (ds_wi s4 13 4 (nI t)) 13 5 (moC (moI j))).1 13 5 = moC (moI j) := by rw [ds_wi_1, if_pos ⟨rfl, rfl⟩]
      generalize ds_wi (ds_wi s4 13 4 (nI t)) 13 5 (moC (moI j)) = s5 at kA5 A5 W5 x0 x1 x4 x5 ⊢
      have eS : ∀ t' i, ((S t' i ∨ (i = j ∧ t' < t)) ∨ (t' = t ∧ i = j)) ↔ (S t' i ∨ (i = j ∧ t' < t + 1)) := by
        intro t' i
        constructor
        · rintro ((h | h) | h)
          · exact Or.inl h
          · exact Or.inr ⟨h.1, by omega⟩
          · exact Or.inr ⟨h.2, by omega⟩
        · rintro (h | ⟨h1, h2⟩)
          · exact Or.inl (Or.inl h)
          · by_cases e : t' = t
            · exact Or.inr ⟨e, h1⟩
            · exact Or.inl (Or.inr ⟨h1, by omega⟩)
      have stay : (vN N w t j).1 * st'.2.1 ≤ st'.1 * (vN N w t j).2.1 → ((vN N w t j).1 * st'.2.1 = st'.1 * (vN N w t j).2.1 → st'.2.2.1 ≤ t) → w_X6_addNet_46 fu tw a (moC (moI j)) (nI (t + 1)) s5 Q := by
        intro hle heq
        refine hnext s5 ⟨kA5, W5, st', A5, isB_cong eS (isB_skip hB' hle fun hl h0 he => ?_)⟩
        have h1 := heq he
        rcases hB'.2.2 with e | ⟨_, h2, _⟩
        · rw [e] at h0; exact absurd rfl h0
        · rcases h2 with h2 | ⟨h2, h3⟩
          · have := hSj hl _ _ h2; omega
          · omega
      have take : (st'.1 * (vN N w t j).2.1 < (vN N w t j).1 * st'.2.1 ∨ ((vN N w t j).1 * st'.2.1 = st'.1 * (vN N w t j).2.1 ∧ t < st'.2.2.1)) → w_X6_addNet_145 tw a (moC (moI j)) (nI t) s5 Q (fun v5_5 v6_5 σ5 => w_X6_addNet_46 fu tw a v5_5 v6_5 σ5 Q) := by
        intro hc
        unfold w_X6_addNet_145
        refine ⟨ka, ev_copy ha.pc (Or.inr (Or.inl rfl)) (by omega) fun s6 j1 j2 j3 j4 j5 j6 => ?_⟩
        rw [nI_1]
        refine hnext s6 ⟨kA5.trans ⟨fun c h1 h2 h3 => j1 c h3, fun c h1 h2 h3 h4 => j2 c h4⟩, fun c h1 h2 => by rw [j1 c (by omega)]; exact W5 c h1 h2, _, ⟨?_, ?_, ?_, ?_⟩, isB_cong eS (isB_take (vN_room hN w) hB' hc)⟩
        · rw [j3]; exact x0
        · rw [j4]; exact x1
        · rw [j5]; exact x4
        · rw [j6]; exact x5
      refine ⟨fun h => take (Or.inl h), fun h => ⟨fun h2 => stay (by omega) (fun e => absurd e h2), fun h2 => ⟨ka, pk_le st'.2.2.1 t (fun h3 => stay (by omega) (fun _ => h3)) (fun h3 => take (Or.inr ⟨h2, h3⟩))⟩⟩⟩
  by_cases hj0 : j = 0
  · exact ⟨fun _ => main (Or.inl hj0), fun h => absurd (e1.mpr hj0) h⟩
  · have em : moC (moI j) = nI (j - 1) := by
      unfold moI moC
      rw [if_neg hj0, if_pos (by omega)]
    have s6 : ∀ l, l < N 0 7 → N 6 l ≤ 1 := fun l hl => (hN.2.2.1 l hl).2.2.2.2.2.2.2.2
    have eb : q_bit (σ.1 1 7) (moC (moI j)) = nI (N 6 (j - 1)) := by
      rw [em, hC.2.2.2.2.1]
      exact bitl hm s6 (by omega)
    have hb6 := s6 (j - 1) (by omega)
    refine ⟨fun h => absurd (e1.mp h) hj0, fun _ => ?_⟩
    rw [eb]
    refine pk_ne (N 6 (j - 1)) 1 (fun h => main (Or.inr (by omega))) (fun h => hq _ (hK σ st (kA.refl _ _) hA (isB_cong (fun t i => ⟨Or.inl, fun h2 => ?_⟩) hB)))
    rcases h2 with h2 | ⟨_, h3, _⟩
    · exact h2
    · rcases h3 with h3 | h3 <;> omega
theorem ev_findWorstC {N : Nt} (hN : Nok N) {σ : ds_S} (hC : RC N σ) {w : Nat → Nat} {tw a : Nat} (ha : QC a) (htw : TW tw) (htw2 : tw ≠ 13 ∧ tw ≠ a) (hw : Wok N w) (hwt : ∀ l, l < N 0 7 → σ.1 tw l = nI (w l)) {K : ds_S → Prop}
    (hK : ∀ s st, kA a σ s → AS a st s → isB (vN N w) (fulN N (ctN N)) True st → K s) : ds_EV mt_X6_findWorst Yc [.ref 12, .ref tw, .ref a] σ K := by
  have hn := hN.1.2
  have hm := hN.2.1
  have hab := ha.b
  refine e_X6_findWorst tw a σ _ ?_
  generalize hQ : (fun r σ' => r = none ∧ K σ') = Q
  have hq : ∀ s, K s → Q none s := fun s h => by rw [← hQ]; exact ⟨rfl, h⟩
  clear hQ
  unfold w_X6_findWorst
  refine ⟨ha.pc.k, ev_clear ha.pc fun s1 g1 g2 g3 g4 g5 => ?_⟩
  have kA1 : kA a σ s1 := ⟨fun c _ _ h => g1 c h, fun c _ _ _ h => g2 c h⟩
  have hC1 := hC.a ha kA1
  refine ev_targets hC1 (fun v tg hv htg => ?_) (fun t i ht hi => hN.ld ht hi)
  have hg := hN.2.2.2.2.1
  have ec : q_cn (s1.1 12 2) (s1.1 1 1) = nI (ctN N) := by
    rw [hC1.2.2.2.2.2.2, hC1.2.1]
    unfold q_cn ctN
    by_cases q : N 0 9 = 0
    · rw [q]; rfl
    · rw [if_neg (fun z => q ((nI01 hg).1.mp z)), if_neg q, show (1 : Int32) = nI 1 from rfl, nI_add]
  have cb : ctN N ≤ 1 + N 0 7 := by unfold ctN; split <;> omega
  rw [ec]
  refine pk_loop (fun fu i s => w_X6_findWorst_18 fu tw a v (nI (ctN N)) (nI i) s Q) (fun i s => kA a σ s ∧ ∃ st, AS a st s ∧ isB (vN N w) (fulN N i) True st) (ctN N) 0 s1 (by omega) ⟨kA1, (0, 1, 0, 0), ⟨g3.1, g3.2.1, g4, g5⟩, isB_cong (fun t i => ⟨fun h => h.elim, fun h => by have := h.2.1; omega⟩) isB_0⟩ ?_ ?_
  · rintro fu s ⟨hk, st, hA, hB⟩
    rw [w_X6_findWorst_18]
    exact pk_le (ctN N) (ctN N) (fun _ => hq _ (hK s st hk hA hB)) (fun h => by omega)
  · rintro fu i s hi ⟨hk, st, hA, hB⟩ hnext
    rw [w_X6_findWorst_18, nI_1]
    refine pk_le (ctN N) i (fun h => by omega) (fun _ => ev_addNet hN (hC.a ha hk) ha htw htw2 hw (fun l hl => ?_) hv htg (by omega) (fun t i h => h.1) (fun _ t i h => h.2.1) hA hB fun s' st' hk' hA' hB' => hnext s' ⟨hk.trans hk', st', hA', isB_cong (fun t i' => ?_) hB'⟩)
    · have := htw.2.2
      rw [hk.1 tw (by omega) htw2.1 htw2.2]; exact hwt l hl
    · unfold fulN
      constructor
      · rintro (⟨h1, h2, h3⟩ | ⟨h1, h2, h3⟩)
        · exact ⟨h1, by omega, h3⟩
        · exact ⟨h3, by omega, by rw [h1]; exact h2⟩
      · rintro ⟨h1, h2, h3⟩
        by_cases e : i' = i
        · exact Or.inr ⟨e, by rw [← e]; exact h3, h1⟩
        · exact Or.inl ⟨h1, by omega, h3⟩
