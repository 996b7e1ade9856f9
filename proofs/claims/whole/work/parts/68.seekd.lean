/-- the best so far, as the class keeps it -/
def BV (N : Nt) (b : Nat → Nat) (o r : Nat) (s : ds_S) : Prop := s.2 16 0 = lN o ∧ s.1 16 1 = nI r ∧ (1 ≤ r ∧ r ≤ 100) ∧ o ≤ 36 * 50 * 151200 ∧ o * (avN N b).2.1 = (avN N b).1 * r
def kI (σ s : ds_S) : Prop := (∀ c k, ¬ (20 ≤ c ∧ c < 56) → c ≠ 13 → c ≠ 19 → ¬ (c = 14 ∧ k = 10) → s.1 c k = σ.1 c k) ∧ ∀ c, c ≠ 9 → c ≠ 10 → c ≠ 13 → c ≠ 19 → s.2 c = σ.2 c
theorem kI.row {σ s : ds_S} (h : kI σ s) {c : Nat} (h1 : ¬ (20 ≤ c ∧ c < 56)) (h2 : c ≠ 13) (h3 : c ≠ 19) (h4 : c ≠ 14) : s.1 c = σ.1 c := funext fun k => h.1 c k h1 h2 h3 (by omega)
theorem ev_isBetter {N : Nt} (hN : Nok N) {sp : Nat} (hsp1 : 1 ≤ sp) (hsp : sp ≤ 2) {v : Int32} {tg : Nat → Bool} (hv : ∀ t, t < 6 → q_bit v (nI t) = if tg t = true then 1 else 0) (htg : ∀ t i, t < 3 → i < 36 → 0 < N 7 (36 * t + i) → tg (i % 6) = true) {σ : ds_S} (hS : SI N sp v σ) {w b : Nat → Nat} (hw : Cand N sp w) (h18 : ∀ l, l < N 0 7 → σ.1 18 l = nI (w l)) {o r h : Nat} (hB : BV N b o r σ) (h3 : σ.1 14 3 = nI (chN N b)) (h10 : σ.1 14 10 = nI h) (hh : h < ctN N) {K : Int32 → ds_S → Prop}
    (hK0 : ∀ s h', kI σ s → s.1 14 10 = nI h' → h' < ctN N → ¬ betC N w b → K 0 s) (hK1 : ∀ s o' r', kI σ s → s.1 14 10 = nI h → betC N w b → s.2 19 0 = lN o' → s.1 19 1 = nI r' → (1 ≤ r' ∧ r' ≤ 100) → o' ≤ 36 * 50 * 151200 → o' * (avN N w).2.1 = (avN N w).1 * r' → K 1 s) : ds_EI mt_X5_isBetter Yc [.ref 14, .int (nI (chN N w))] σ K := by
  have hm := hN.2.1
  have hg := hN.2.2.2.2.1
  have hwok := hw.wok hN (by omega)
  have cw : chN N w ≤ N 0 7 := cntL_le _ _ _
  have cb : chN N b ≤ N 0 7 := cntL_le _ _ _
  have ctb : ctN N ≤ 1 + N 0 7 := by unfold ctN; split <;> omega
  refine e_X5_isBetter (nI (chN N w)) σ _ ?_
  generalize hQ : (fun r σ' => ∃ x, r = some (Value.int x) ∧ K x σ') = Q
  have hq : ∀ x s, K x s → Q (some (.int x)) s := fun x s h => by rw [← hQ]; exact ⟨x, rfl, h⟩
  clear hQ
  unfold w_X5_isBetter
  refine ev_clear (Or.inr (Or.inr (Or.inl rfl))) fun s1 g1 g2 g3 g4 g5 => ?_
  have kI1 : kI σ s1 := ⟨fun c k _ _ h3 _ => by rw [g1 c h3], fun c _ _ _ h => g2 c h⟩
  have hC := hS.1
  have hC1 : RC N s1 := hC.of fun c hc => g1 c (by omega)
  have ec : q_cn (s1.1 12 2) (s1.1 1 1) = nI (ctN N) := by
    rw [hC1.2.2.2.2.2.2, hC1.2.1]
    unfold q_cn ctN
    by_cases z : N 0 9 = 0
    · rw [z]; rfl
    · rw [if_neg (fun y => z ((nI01 hg).1.mp y)), if_neg z, show (1 : Int32) = nI 1 from rfl, nI_add]
  rw [ec]
  obtain ⟨b1, b2, b3, b4, b5⟩ := hB
  have av := avN_is hN w
  have avb := avN_r hN b
  have avw := avN_r hN w
  have atI : ∀ i, i < ctN N → (if h + i < ctN N then h + i else h + i - ctN N) < ctN N := fun i hi => by split <;> omega
  refine pk_loop (fun fu i s => w_X5_isBetter_17 fu (nI (chN N w)) (nI (ctN N)) (nI i) s Q) (fun i s => kI σ s ∧ s.1 14 10 = nI h ∧ ∃ st, AS 19 st s ∧ isB (vN N w) (fun t j => t < 3 ∧ vdN N j ∧ ∃ i', i' < i ∧ (if h + i' < ctN N then h + i' else h + i' - ctN N) = j) False st ∧ (0 < i → st.1 * r < o * st.2.1 ∨ (st.1 * r = o * st.2.1 ∧ chN N w < chN N b))) (ctN N) 0 s1 (by omega) ⟨kI1, by rw [g1 14 (by decide)]; exact h10, (0, 1, 0, 0), ⟨g3.1, g3.2.1, g4, g5⟩, isB_cong (fun t j => ⟨fun z => z.elim, fun ⟨_, _, i', z, _⟩ => by omega⟩) isB_0, fun z => by omega⟩ ?_ ?_
  · rintro fu s ⟨hk, hs10, st, hA, hB', hlast⟩
    rw [w_X5_isBetter_17]
    have hfull : isB (vN N w) (fulN N (ctN N)) False st := by
      refine isB_cong (fun t j => ?_) hB'
      unfold fulN
      constructor
      · rintro ⟨a, c, i', hi', hj⟩
        exact ⟨a, by rw [← hj]; exact atI i' hi', c⟩
      · rintro ⟨a, c, d⟩
        refine ⟨a, d, if h ≤ j then j - h else j + ctN N - h, ?_, ?_⟩
        · split <;> omega
        · by_cases z : h ≤ j
          · rw [if_pos z, if_pos (by omega)]; omega
          · rw [if_neg z, if_neg (by omega)]; omega
    have eqv := isB_val hfull av
    obtain ⟨ob, -⟩ := isB_le hN hwok (fun t i z => z.1) hfull
    have rb := hfull.1
    refine pk_le (ctN N) (ctN N) (fun _ => hq _ _ (hK1 s st.1 st.2.1 hk hs10 ?_ hA.1 hA.2.1 rb ob eqv)) (fun z => by omega)
    have hl := hlast (by omega)
    have e1 : eqV (avN N w) st := by
      unfold eqV; omega
    have e2 : eqV (o, r, 0, 0) (avN N b) := b5
    rcases hl with hl | ⟨hl, hl2⟩
    · left
      have l1 : ltV st (o, r, 0, 0) := hl
      exact ltV_lt (by omega) (eqV_lt (by omega) (by omega) e1 l1) (Or.inr e2)
    · right
      have l1 : eqV st (o, r, 0, 0) := hl
      exact ⟨eqV_eq (q := (o, r, 0, 0)) (by show 0 < r; omega) (eqV_eq (by omega) e1 l1) e2, hl2⟩
  · rintro fu i s hi ⟨hk, hs10, st, hA, hB', hlast⟩ hnext
    have hCs : RC N s := hC.of fun c hc => hk.row (by omega) (by omega) (by omega) (by omega)
    have h18s : ∀ l, l < N 0 7 → s.1 18 l = nI (w l) := fun l hl => by rw [hk.row (c := 18) (by omega) (by omega) (by omega) (by omega)]; exact h18 l hl
    have h9s : s.1 14 9 = v := by rw [hk.1 14 9 (by omega) (by omega) (by omega) (by omega)]; exact hS.2.2.2.2
    have atlt := atI i hi
    have b49 : ∀ a, a = (if h + i < ctN N then h + i else h + i - ctN N) → w_X5_isBetter_49 (nI (chN N w)) (nI (ctN N)) (nI i) (nI a) s Q (fun v1_1 v2_1 v3_1 σ1 => w_X5_isBetter_17 fu v1_1 v2_1 v3_1 σ1 Q) := by
      intro a ha
      unfold w_X5_isBetter_49
      rw [h9s]
      refine ev_addNet hN hCs (Or.inr (Or.inr rfl)) TW18 (by decide) hwok h18s hv htg (j := a) (by omega) (fun t i z => z.1) (fun z => z.elim) hA hB' fun s2 st2 hk2 hA2 hB2 => ?_
      have hS3 : ∀ t j, ((t < 3 ∧ vdN N j ∧ ∃ i', i' < i ∧ (if h + i' < ctN N then h + i' else h + i' - ctN N) = j) ∨ (j = a ∧ vdN N a ∧ t < 3)) → t < 3 := fun t j z => by rcases z with z | z; exact z.1; exact z.2.2
      obtain ⟨ob, -⟩ := isB_le hN hwok hS3 hB2
      have rb := hB2.1
      have kI2 : kI σ s2 := ⟨fun c k z1 z2 z3 z4 => by rw [hk2.1 c z1 z2 z3]; exact hk.1 c k z1 z2 z3 z4, fun c z1 z2 z3 z4 => (hk2.2 c z1 z2 z3 z4).trans (hk.2 c z1 z2 z3 z4)⟩
      have e16 : s2.2 16 0 = lN o := by rw [kI2.2 16 (by decide) (by decide) (by decide) (by decide)]; exact b1
      have e161 : s2.1 16 1 = nI r := by rw [kI2.row (c := 16) (by omega) (by omega) (by omega) (by omega)]; exact b2
      have e143 : s2.1 14 3 = nI (chN N b) := by rw [kI2.1 14 3 (by omega) (by omega) (by omega) (by omega)]; exact h3
      have e1410 : s2.1 14 10 = nI h := by rw [hk2.1 14 (by omega) (by omega) (by omega)]; exact hs10
      obtain ⟨q1, q2, -, -⟩ := id hA2
      have m1 : st2.1 * r ≤ 36 * 50 * 151200 * 100 := Nat.mul_le_mul ob b3.2
      have m2 : o * st2.2.1 ≤ 36 * 50 * 151200 * 100 := Nat.mul_le_mul b4 rb.2
      obtain ⟨c1, c2⟩ := cmp_iff (a := st2.1 * r) (b := o * st2.2.1) (by omega) (by omega)
      rw [q1, q2, e16, e161, e143, nI_l (by omega), nI_l (by omega), lN_mul, lN_mul, c1, c2, nI_1 i]
      have sub : ∀ t j, ((t < 3 ∧ vdN N j ∧ ∃ i', i' < i ∧ (if h + i' < ctN N then h + i' else h + i' - ctN N) = j) ∨ (j = a ∧ vdN N a ∧ t < 3)) → fulN N (ctN N) t j := by
        rintro t j (⟨z1, z2, i', z3, z4⟩ | ⟨z1, z2, z3⟩)
        · exact ⟨z1, by rw [← z4]; exact atI i' (by omega), z2⟩
        · exact ⟨z3, by rw [z1, ha]; exact atlt, by rw [z1]; exact z2⟩
      have lev : st2.1 * (avN N w).2.1 ≤ (avN N w).1 * st2.2.1 := by
        rcases hB2.2.2 with e | ⟨_, z2, z3, z4, _⟩
        · rw [e]; simp
        · have := av.2.1 _ _ (sub _ _ z2)
          rw [z3, z4] at this
          exact this
      have rej : ¬ betC N w b → Q (some (.int 0)) (ds_wi s2 14 10 (nI a)) := by
        intro hb
        refine hq _ _ (hK0 _ a ⟨fun c k z1 z2 z3 z4 => ?_, kI2.2⟩ ?_ (by rw [ha]; exact atlt) hb)
        · rw [ds_wi_1, if_neg z4]; exact kI2.1 c k z1 z2 z3 z4
        · rw [ds_wi_1, if_pos ⟨rfl, rfl⟩]
      have go : (st2.1 * r < o * st2.2.1 ∨ (st2.1 * r = o * st2.2.1 ∧ chN N w < chN N b)) → w_X5_isBetter_17 fu (nI (chN N w)) (nI (ctN N)) (nI (i + 1)) s2 Q := by
        intro hl
        refine hnext s2 ⟨kI2, e1410, st2, hA2, isB_cong (fun t j => ?_) hB2, fun _ => hl⟩
        constructor
        · rintro (⟨z1, z2, i', z3, z4⟩ | ⟨z1, z2, z3⟩)
          · exact ⟨z1, z2, i', by omega, z4⟩
          · exact ⟨z3, by rw [z1]; exact z2, i, by omega, by rw [z1, ha]⟩
        · rintro ⟨z1, z2, i', z3, z4⟩
          by_cases e : i' = i
          · right
            rw [e, ← ha] at z4
            exact ⟨z4.symm, by rw [z4]; exact z2, z1⟩
          · exact Or.inl ⟨z1, z2, i', by omega, z4⟩
      have ge1 : o * st2.2.1 ≤ st2.1 * r → (avN N b).1 * (avN N w).2.1 ≤ (avN N w).1 * (avN N b).2.1 := by
        intro z
        have k1 : (avN N b).1 * st2.2.1 ≤ st2.1 * (avN N b).2.1 := mul_cancel3 (b := o) (c := r) (Nat.le_of_eq b5.symm) z (by omega)
        exact mul_cancel3 (b := st2.1) (c := st2.2.1) k1 lev (by omega)
      have gt1 : o * st2.2.1 < st2.1 * r → (avN N b).1 * (avN N w).2.1 < (avN N w).1 * (avN N b).2.1 := by
        intro z
        have k1 : (avN N b).1 * st2.2.1 < st2.1 * (avN N b).2.1 := mul_cancel3' (b := o) (c := r) (Nat.le_of_eq b5.symm) z (by omega) (by omega)
        exact mul_cancel3'' (b := st2.1) (c := st2.2.1) k1 lev (by omega)
      refine ⟨fun z => rej fun hb => ?_, fun z => ⟨fun z2 => go (Or.inl (by omega)), fun z2 => pk_lt (chN N w) (chN N b) (fun z3 => go (Or.inr ⟨z2, z3⟩)) (fun z3 => rej fun hb => ?_)⟩⟩
      · have := gt1 z
        rcases hb with hb | ⟨hb, _⟩
        · unfold ltV at hb; omega
        · unfold eqV at hb; omega
      · have := ge1 (by omega)
        rcases hb with hb | ⟨_, hb⟩
        · unfold ltV at hb; omega
        · omega
    rw [w_X5_isBetter_17, hs10, nI_add]
    refine pk_le (ctN N) i (fun z => by omega) (fun _ => pk_le (ctN N) (h + i) (fun z => ?_) (fun z => b49 _ ?_))
    · rw [pk_sub z]
      exact b49 _ (by rw [if_neg (by omega)])
    · rw [if_pos z]
