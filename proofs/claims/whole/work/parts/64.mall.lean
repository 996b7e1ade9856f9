/-! the reference's worst of all -/
def AM (st : Nat × Nat × Nat × Nat) (s : ds_S) : Prop := (∃ U L, s.2 0 22 = lN U ∧ s.2 0 23 = lN L ∧ Red st.1 (151200 * st.2.1) U L) ∧ s.1 0 24 = nI st.2.2.1 ∧ s.1 0 25 = moM (moI st.2.2.2)
theorem gt_iff2 {v q wU wL o r aU aL : Nat} (h1 : Red v (151200 * q) wU wL) (h2 : Red o (151200 * r) aU aL) (hq : 0 < q) (hr : 0 < r) : aU * wL < wU * aL ↔ o * q < v * r := by
  obtain ⟨-, w0, e1⟩ := h1
  obtain ⟨-, a0, e2⟩ := h2
  have k1 : aU * wL * (151200 * r * q) = o * q * (aL * wL) := by
    calc aU * wL * (151200 * r * q) = (151200 * r * aU) * (wL * q) := by simp only [Nat.mul_assoc, Nat.mul_comm, Nat.mul_left_comm]
      _ = o * aL * (wL * q) := by rw [e2]
      _ = o * q * (aL * wL) := by simp only [Nat.mul_assoc, Nat.mul_comm, Nat.mul_left_comm]
  have k2 : wU * aL * (151200 * r * q) = v * r * (aL * wL) := by
    calc wU * aL * (151200 * r * q) = (151200 * q * wU) * (aL * r) := by simp only [Nat.mul_assoc, Nat.mul_comm, Nat.mul_left_comm]
      _ = v * wL * (aL * r) := by rw [e1]
      _ = v * r * (aL * wL) := by simp only [Nat.mul_assoc, Nat.mul_comm, Nat.mul_left_comm]
  have p1 : 0 < 151200 * r * q := Nat.mul_pos (by omega) hq
  have p2 : 0 < aL * wL := Nat.mul_pos a0 w0
  constructor
  · intro h
    have := Nat.mul_lt_mul_of_pos_right h p1
    rw [k1, k2] at this
    exact Nat.lt_of_mul_lt_mul_right this
  · intro h
    have := Nat.mul_lt_mul_of_pos_right h p2
    rw [← k1, ← k2] at this
    exact Nat.lt_of_mul_lt_mul_right this
theorem q_gt_red {v q wU wL o r aU aL : Nat} (h1 : Red v (151200 * q) wU wL) (h2 : Red o (151200 * r) aU aL) (hq : 1 ≤ q ∧ q ≤ 100) (hr : 1 ≤ r ∧ r ≤ 100) (hv : v < 2 ^ 62) (ho : o < 2 ^ 62) : q_gt (lN wU) (lN wL) (lN aU) (lN aL) = if o * q < v * r then 1 else 0 := by
  have l1 := red_le h1 (by omega)
  have l2 := red_le h2 (by omega)
  unfold q_gt
  rw [pk_lT (by omega), pk_lT (by omega), pk_lT (by omega), pk_lT (by omega)]
  have := gt_iff2 h1 h2 (by omega) (by omega)
  have e : ((aU : Int) * (wL : Int) < (wU : Int) * (aL : Int)) ↔ o * q < v * r := by
    rw [← this]
    constructor
    · intro h; exact_mod_cast h
    · intro h; exact_mod_cast h
  simp only [e]
/-- what the reference's worst of all changes: nothing else -/
def kMA (σ s : ds_S) : Prop := (∀ c k, c ≠ 9 → ¬ (c = 0 ∧ (k = 21 ∨ k = 24 ∨ k = 25)) → s.1 c k = σ.1 c k) ∧ ∀ c k, (c < 10 ∨ 13 < c) → ¬ (c = 0 ∧ (k = 16 ∨ k = 19 ∨ k = 20 ∨ k = 22 ∨ k = 23)) → s.2 c k = σ.2 c k
theorem kMA.refl (σ : ds_S) : kMA σ σ := ⟨fun _ _ _ _ => rfl, fun _ _ _ _ => rfl⟩
theorem kMA.trans {a b c : ds_S} (h : kMA a b) (h2 : kMA b c) : kMA a c := ⟨fun x k h3 h4 => (h2.1 x k h3 h4).trans (h.1 x k h3 h4), fun x k h3 h4 => (h2.2 x k h3 h4).trans (h.2 x k h3 h4)⟩
theorem kMA.wl {σ s : ds_S} {c k : Nat} {x : Int64} (h : kMA σ s) (hc : (10 ≤ c ∧ c ≤ 13) ∨ (c = 0 ∧ (k = 16 ∨ k = 19 ∨ k = 20 ∨ k = 22 ∨ k = 23))) : kMA σ (ds_wl s c k x) := ⟨h.1, fun c' k' h1 h2 => by rw [ds_wl_2, if_neg (by omega)]; exact h.2 c' k' h1 h2⟩
theorem kMA.wi {σ s : ds_S} {c k : Nat} {x : Int32} (h : kMA σ s) (hc : c = 0 ∧ (k = 21 ∨ k = 24 ∨ k = 25)) : kMA σ (ds_wi s c k x) := ⟨fun c' k' h1 h2 => by rw [ds_wi_1, if_neg (by omega)]; exact h.1 c' k' h1 h2, h.2⟩
theorem kMA.v {σ s : ds_S} (h : kMA σ s) : kV σ s := ⟨fun c k _ _ d e => h.1 c k d e, h.2⟩
theorem SM.ka {N : Nt} {w x : Nat → Nat} {mo : Nat} {σ s : ds_S} (h : SM N w mo x σ) (hk : kMA σ s) : SM N w mo x s := hk.v.sm h fun i hi => by rw [hk.1 7 i (by omega) (by omega)]; exact h.2.2 i hi
theorem RepM.ka {N : Nt} {σ s : ds_S} (h : RepM N σ) (hk : kMA σ s) : RepM N s := h.v hk.v fun i hi => by rw [hk.1 7 i (by omega) (by omega)]; exact h.2.2.2.1 i hi
def lvI (j : Nat) : Int32 := if j = 0 then -1 else nI (j - 1)
theorem lvI_1 (j : Nat) : lvI j + 1 = lvI (j + 1) := by
  unfold lvI
  by_cases q : j = 0
  · rw [q]; rfl
  · rw [if_neg q, if_neg (by omega), nI_1]
    congr 1; omega
theorem ev_findAllM {N : Nt} (hN : Nok N) {σ : ds_S} {w : Nat → Nat} (hw : Wok N w) (hS : SM N w 99 (N 7) σ) {K : ds_S → Prop} (hK : ∀ s st, kMA σ s → AM st s → isB (vN N w) (fulN N (ctN N)) True st → K s) : ds_EV mt_X9_findAll Ym [.ref 0] σ K := by
  have hn := hN.1.2
  have hm := hN.2.1
  have hg := hN.2.2.2.2.1
  refine e_X9_findAll σ _ ?_
  generalize hQ : (fun r σ' => r = none ∧ K σ') = Q
  have hq : ∀ s, K s → Q none s := fun s h => by rw [← hQ]; exact ⟨rfl, h⟩
  clear hQ
  unfold w_X9_findAll
  have cb : ctN N ≤ 1 + N 0 7 := by unfold ctN; split <;> omega
  have cb1 : 1 ≤ ctN N := by unfold ctN; split <;> omega
  have hm6 : (-6 : Int32) = moM (moI 0) := rfl
  refine pk_loop (fun fu t s => w_X9_findAll_23 fu (nI t) s Q) (fun t s => kMA σ s ∧ ∃ st, AM st s ∧ isB (vN N w) (fun t' i => t' < t ∧ i < ctN N ∧ vdN N i) True st) 3 0 _ (by omega) ⟨(((kMA.refl σ).wl (by omega)).wl (by omega)).wi (by omega) |>.wi (by omega), (0, 1, 0, 0), ⟨⟨0, 1, ?_, ?_, Nat.gcd_one_right 0, by decide, rfl⟩, ?_, ?_⟩, isB_cong (fun t i => ⟨fun h => h.elim, fun h => by have := h.1; omega⟩) isB_0⟩ ?_ ?_
  · rw [ds_wi_2, ds_wi_2, ds_wl_2, if_neg (by omega), ds_wl_2, if_pos ⟨rfl, rfl⟩]; rfl
  · rw [ds_wi_2, ds_wi_2, ds_wl_2, if_pos ⟨rfl, rfl⟩]; rfl
  · rw [ds_wi_1, if_neg (by omega), ds_wi_1, if_pos ⟨rfl, rfl⟩]; rfl
  · rw [ds_wi_1, if_pos ⟨rfl, rfl⟩]; rfl
  · rintro fu s ⟨hk, st, hA, hB⟩
    rw [w_X9_findAll_23]
    exact pk_le 3 3 (fun _ => hq _ (hK s st hk hA hB)) (fun h => by omega)
  · rintro fu t s ht ⟨hk, st, hA, hB⟩ hnext
    rw [w_X9_findAll_23]
    refine pk_le 3 t (fun h => by omega) (fun _ => ?_)
    generalize hKK : (fun (v1_1 : Int32) σ1 => w_X9_findAll_23 fu (v1_1 + (1 : Int32)) σ1 Q) = KK
    have hkk : ∀ s st, kMA σ s → AM st s → isB (vN N w) (fun t' i => (t' < t ∧ i < ctN N ∧ vdN N i) ∨ (t' = t ∧ i < ctN N ∧ vdN N i)) True st → KK (nI t) s := by
      intro s st h1 h2 h3
      rw [← hKK]
      show w_X9_findAll_23 fu (nI t + 1) s Q
      rw [nI_1]
      refine hnext s ⟨h1, st, h2, isB_cong (fun t' i => ?_) h3⟩
      constructor
      · rintro (h | h)
        · exact ⟨by omega, h.2⟩
        · exact ⟨by omega, h.2⟩
      · rintro ⟨h4, h5⟩
        by_cases e : t' = t
        · exact Or.inr ⟨e, h5⟩
        · exact Or.inl ⟨by omega, h5⟩
    clear hKK hnext
    refine pk_loop (fun fu j s => w_X9_findAll_30 fu (nI t) (lvI j) s Q KK) (fun j s => kMA σ s ∧ ∃ st, AM st s ∧ isB (vN N w) (fun t' i => (t' < t ∧ i < ctN N ∧ vdN N i) ∨ (t' = t ∧ i < j ∧ vdN N i)) True st) (ctN N) 0 s (by omega) ⟨hk, st, hA, isB_cong (fun t' i => ⟨Or.inl, fun h => by rcases h with h | h; exact h; have := h.2.1; omega⟩) hB⟩ ?_ ?_
    · rintro fu s ⟨hk, st, hA, hB⟩
      rw [w_X9_findAll_30, (hS.ka hk).1.2.2.1, (hS.ka hk).1.2.1]
      have fin := hkk s st hk hA hB
      refine ⟨fun h => ?_, fun h => ?_⟩
      · have g0 : N 0 9 = 0 := (nI01 hg).1.mp h
        have ec : ctN N = 1 := if_pos g0
        unfold w_X9_findAll_46
        rw [ec]
        exact ⟨fun _ => fin, fun h => absurd (by decide) h⟩
      · have g0 : ¬ N 0 9 = 0 := fun z => h ((nI01 hg).1.mpr z)
        have ec : ctN N = 1 + N 0 7 := if_neg g0
        unfold w_X9_findAll_46
        rw [ec]
        have el : lvI (1 + N 0 7) = nI (N 0 7) := by
          unfold lvI
          rw [if_neg (by omega)]; congr 1; omega
        rw [el]
        exact ⟨fun _ => fin, fun h => absurd (nI_le (Nat.le_refl _) (by omega)) h⟩
    · rintro fu j s hj ⟨hk, st, hA, hB⟩ hnext
      have hSs := hS.ka hk
      have hS3 : ∀ t' i, ((t' < t ∧ i < ctN N ∧ vdN N i) ∨ (t' = t ∧ i < j ∧ vdN N i)) → t' < 3 := fun t' i h => by rcases h with h | h <;> omega
      obtain ⟨ob, tb3⟩ := isB_le hN hw hS3 hB
      have vr := vN_room hN w t j
      have vb := vN_le hN hw (i := j) ht
      have rb := hB.1
      have a62 : ∀ KK2 : Int32 → Int32 → ds_S → Prop, (∀ s, (kMA σ s ∧ ∃ st, AM st s ∧ isB (vN N w) (fun t' i => (t' < t ∧ i < ctN N ∧ vdN N i) ∨ (t' = t ∧ i < j + 1 ∧ vdN N i)) True st) → KK2 (nI t) (lvI (j + 1)) s) → vdN N j → w_X9_findAll_62 (nI t) (lvI j) s Q KK2 := by
        intro KK2 hKK2 hvd
        have a73 : ∀ t0, t0 = moM (moI j) → w_X9_findAll_73 (nI t) (lvI j) t0 s Q KK2 := by
          intro t0 ht0
          unfold w_X9_findAll_73
          have sm0 : SM N w (moI j) (N 7) (ds_wi s 0 13 t0) := by
            obtain ⟨⟨q0, q7, q9, q13⟩, ql, qx⟩ := hSs
            exact ⟨⟨q0, q7, q9, ht0⟩, ql, qx⟩
          refine ev_findWorst hN hw sm0 ht (fun i hi => by have := hN.ld ht hi; omega) fun s1 hk1 hW => ?_
          have hW' : WR (vN N w t j) s1 := hW
          obtain ⟨⟨U, L, u1, u2, u3⟩, -⟩ := hW'
          obtain ⟨⟨aU, aL, b1, b2, b3⟩, b4, b5⟩ := hA
          have c1 : s1.2 0 22 = lN aU := (hk1.2 0 22 (by omega) (by omega)).trans b1
          have c2 : s1.2 0 23 = lN aL := (hk1.2 0 23 (by omega) (by omega)).trans b2
          have c4 : s1.1 0 24 = nI st.2.2.1 := (hk1.1 0 24 (by omega) (by omega)).trans b4
          have c5 : s1.1 0 25 = moM (moI st.2.2.2) := (hk1.1 0 25 (by omega) (by omega)).trans b5
          have eS : ∀ t' i, (((t' < t ∧ i < ctN N ∧ vdN N i) ∨ (t' = t ∧ i < j ∧ vdN N i)) ∨ (t' = t ∧ i = j)) ↔ ((t' < t ∧ i < ctN N ∧ vdN N i) ∨ (t' = t ∧ i < j + 1 ∧ vdN N i)) := by
            intro t' i
            constructor
            · rintro ((h | h) | h)
              · exact Or.inl h
              · exact Or.inr ⟨h.1, by omega, h.2.2⟩
              · exact Or.inr ⟨h.1, by omega, by rw [h.2]; exact hvd⟩
            · rintro (h | ⟨h1, h2, h3⟩)
              · exact Or.inl (Or.inl h)
              · by_cases e : i = j
                · exact Or.inr ⟨h1, e⟩
                · exact Or.inl (Or.inr ⟨h1, by omega, h3⟩)
          have rl1 := red_le u3 (by omega)
          have rl2 := red_le b3 (by omega)
          have gt := q_gt_red u3 b3 vr rb (by omega) (by omega)
          have km : kMA σ (ds_wi s1 0 13 (-6)) := by
            refine ⟨fun c k h1 h2 => ?_, fun c k h1 h2 => (hk1.2 c k h1 (by omega)).trans (hk.2 c k h1 h2)⟩
            rw [ds_wi_1]
            by_cases e : c = 0 ∧ k = 13
            · rw [if_pos e, e.1, e.2]; exact hS.1.2.2.2.symm
            · rw [if_neg e, hk1.1 c k h1 (by omega), ds_wi_1, if_neg e]; exact hk.1 c k h1 h2
          rw [u1, u2, c1, c2, gt, lvI_1]
          have take : st.1 * (vN N w t j).2.1 < (vN N w t j).1 * st.2.1 → ∀ z, z = moM (moI j) → KK2 (nI t) (lvI (j + 1)) (ds_wi (ds_wi (ds_wl (ds_wl (ds_wi s1 0 13 (-6 : Int32)) 0 22 (lN U)) 0 23 (lN L)) 0 24 (nI t)) 0 25 z) := by
            intro hc z hz
            refine hKK2 _ ⟨(((km.wl (by omega)).wl (by omega)).wi (by omega)).wi (by omega), _, ⟨⟨U, L, ?_, ?_, u3⟩, ?_, ?_⟩, isB_cong eS (isB_take (vN_room hN w) hB (Or.inl hc))⟩
            · rw [ds_wi_2, ds_wi_2, ds_wl_2, if_neg (by omega), ds_wl_2, if_pos ⟨rfl, rfl⟩]
            · rw [ds_wi_2, ds_wi_2, ds_wl_2, if_pos ⟨rfl, rfl⟩]
            · rw [ds_wi_1, if_neg (by omega), ds_wi_1, if_pos ⟨rfl, rfl⟩]
            · rw [ds_wi_1, if_pos ⟨rfl, rfl⟩]; exact hz
          refine ⟨nn64 (by omega), ps64 u3.2.1 (by omega), nn64 (by omega), ps64 b3.2.1 (by omega), fun h => ?_, fun h => ?_⟩
          · have hc : ¬ st.1 * (vN N w t j).2.1 < (vN N w t j).1 * st.2.1 := fun z => by rw [if_pos z] at h; exact absurd h (by decide)
            refine hKK2 _ ⟨km, st, ⟨⟨aU, aL, c1, c2, b3⟩, ?_, ?_⟩, isB_cong eS (isB_skip hB (by omega) fun _ h0 he => ?_)⟩
            · rw [ds_wi_1, if_neg (by omega)]; exact c4
            · rw [ds_wi_1, if_neg (by omega)]; exact c5
            · rcases hB.2.2 with e | ⟨_, h2, _⟩
              · rw [e] at h0; exact absurd rfl h0
              · rcases h2 with h2 | h2 <;> omega
          · have hc : st.1 * (vN N w t j).2.1 < (vN N w t j).1 * st.2.1 := by
              by_cases z : st.1 * (vN N w t j).2.1 < (vN N w t j).1 * st.2.1
              · exact z
              · rw [if_neg z] at h; exact absurd rfl h
            by_cases q : j = 0
            · have e : lvI j = -1 := by rw [q]; rfl
              exact ⟨fun h => absurd h (by rw [e]; decide), fun _ => take hc _ (by rw [q]; rfl)⟩
            · have e : lvI j = nI (j - 1) := if_neg q
              refine ⟨fun _ => take hc _ ?_, fun h => absurd (by rw [e]; exact nI_pos' (by omega)) h⟩
              rw [e]
              unfold moM moI
              rw [if_neg q, if_pos (by omega)]
        unfold w_X9_findAll_62
        by_cases q : j = 0
        · have e : lvI j = -1 := by rw [q]; rfl
          refine ⟨fun h => absurd h (by rw [e]; decide), fun _ => a73 _ (by rw [q]; rfl)⟩
        · have e : lvI j = nI (j - 1) := if_neg q
          refine ⟨fun _ => a73 _ ?_, fun h => absurd (by rw [e]; exact nI_pos' (by omega)) h⟩
          rw [e]
          unfold moM moI
          rw [if_neg q, if_pos (by omega)]
      have a46 : ∀ t0, (t0 ≤ lvI j ↔ ctN N ≤ j) → w_X9_findAll_46 (nI t) (lvI j) t0 (lvI j) s Q (fun v1_1 v2_1 σ1 => w_X9_findAll_30 fu v1_1 v2_1 σ1 Q KK) KK := by
        intro t0 ht0
        unfold w_X9_findAll_46
        refine ⟨fun h => by have := ht0.mp h; omega, fun _ => ?_⟩
        by_cases q : j = 0
        · have e : lvI j = -1 := by rw [q]; rfl
          exact ⟨fun _ => a62 _ hnext (Or.inl q), fun h => absurd (by rw [e]; decide) h⟩
        · have e : lvI j = nI (j - 1) := if_neg q
          have b6 := (hN.2.2.1 (j - 1) (by omega)).2.2.2.2.2.2.2.2
          refine ⟨fun h => absurd h (by rw [e]; exact nI_pos (by omega)), fun _ => ⟨by rw [e]; exact vp_in_nI (by omega) (by decide), ?_⟩⟩
          rw [show (lvI j).toNatClampNeg = j - 1 by rw [e]; exact nI_clamp (by omega), (hSs.2.1 (j - 1) (by omega)).2.2.2.2, lvI_1]
          refine ⟨fun h => hnext s ⟨hk, st, hA, isB_cong (fun t' i => ?_) hB⟩, fun h => a62 _ hnext (Or.inr ((nI01 b6).1.mp h))⟩
          have h6 : ¬ N 6 (j - 1) = 0 := fun z => h ((nI01 b6).1.mpr z)
          constructor
          · rintro (h1 | ⟨h1, h2, h3⟩)
            · exact Or.inl h1
            · exact Or.inr ⟨h1, by omega, h3⟩
          · rintro (h1 | ⟨h1, h2, h3⟩)
            · exact Or.inl h1
            · refine Or.inr ⟨h1, ?_, h3⟩
              by_cases e2 : i = j
              · rw [e2] at h3
                rcases h3 with h3 | h3
                · exact absurd h3 q
                · exact absurd h3 h6
              · omega
      rw [w_X9_findAll_30, hSs.1.2.2.1, hSs.1.2.1]
      refine ⟨fun h => a46 0 ?_, fun h => a46 _ ?_⟩
      · have ec : ctN N = 1 := if_pos ((nI01 hg).1.mp h)
        rw [ec]
        by_cases q : j = 0
        · rw [q]; exact ⟨fun h => absurd h (by decide), fun h => by omega⟩
        · omega
      · have ec : ctN N = 1 + N 0 7 := if_neg (fun z => h ((nI01 hg).1.mpr z))
        rw [ec]
        by_cases q : j = 0
        · rw [q]
          refine ⟨fun h => absurd h ?_, fun h => by omega⟩
          rw [fa_le, nI_toInt (by omega)]
          have e2 : (lvI 0).toInt = -1 := by decide
          omega
        · have e : lvI j = nI (j - 1) := if_neg q
          rw [e, nI_leI (by omega) (by omega)]
          omega
theorem pub_all (a : Int32) : Pub mt_X8_all mt_X9_all [.int a] := by
  intro σC σM ⟨N, hN, hC, hM⟩
  have m10 := hN.2.1
  have hB : Both σC σM := ⟨N, hN, hC, hM⟩
  rcases rc0 (hi := 4) (by decide) a with h2 | ⟨h2, v, hv, rfl⟩
  · have hM' : ds_E mt_X9_all Ym [.ref 0, .int a] σM (fun r' σM' => r' = some (.long (-1000000000000000002)) ∧ Both σC σM') := e_X9_all a σM _ ⟨fun h => absurd (by rw [q_in_0_3]; exact h2) h, fun _ => ⟨rfl, hB⟩⟩
    have nd := q_rng_0.mp (show q_rng a 0 4 = 0 from h2)
    refine e_X8_all a σC _ ⟨fun _ => hM', fun k1 => ⟨fun k2 => absurd ⟨nlt32.mp k1, ?_⟩ nd, fun _ => hM'⟩⟩
    have e1 : (3 : Int32).toInt = 3 := rfl
    have e2 : (4 : Int32).toInt = 4 := rfl
    rw [fa_le, e1] at k2
    rw [fa_lt, e2]
    omega
  have x3 : ¬ nI v < (0 : Int32) := nI_pos (by omega)
  have x4 : nI v ≤ (3 : Int32) := nI_le (b := 3) (by omega) (by decide)
  have x5 : ¬ q_in (nI v).toInt64 0 3 = 0 := by rw [q_in_0_3, show q_rng (nI v) 0 4 = 1 from h2]; decide
  refine e_X8_all (nI v) σC _ ⟨fun h => absurd h x3, fun _ => ⟨fun _ => ev_findWorstC hN hC.rc (Or.inl rfl) TW64 (by decide) hN.w4 (fun l hl => (hC.2.2.1 l hl).2.2.2) fun s1 st hk1 hA hBst => ?_, fun h => absurd x4 h⟩⟩
  have kc1 : kC σC s1 := ⟨fun c hc => hk1.1 c (by omega) (by omega) (by omega), fun c a b d e f => hk1.2 c a b e d⟩
  have hMM : ∀ r, (∀ s, AM st s → ((¬ nI v = 0 → ((¬ nI v = (1 : Int32) → ((¬ nI v = (2 : Int32) → some (Value.long ((s.1 0 25).toInt64)) = r) ∧ (nI v = (2 : Int32) → some (Value.long ((s.1 0 24).toInt64)) = r))) ∧ (nI v = (1 : Int32) → some (Value.long (s.2 0 23)) = r))) ∧ (nI v = 0 → some (Value.long (s.2 0 22)) = r))) → ds_E mt_X9_all Ym [.ref 0, .int (nI v)] σM (fun r' σM' => r' = r ∧ Both s1 σM') := by
    intro r hr
    refine e_X9_all (nI v) σM _ ⟨fun _ => ev_findAllM hN hN.w4 hM.sm fun s st' hk hA' hB' => ?_, fun h => absurd h x5⟩
    have e := isB_uniq trivial hB' hBst
    subst e
    obtain ⟨q1, q2⟩ := hr s hA'
    have hBB : Both s1 s := ⟨N, hN, hC.k kc1, hM.ka hk⟩
    exact ⟨fun h => ⟨fun h2 => ⟨fun h3 => ⟨((q1 h).1 h2).1 h3, hBB⟩, fun h3 => ⟨((q1 h).1 h2).2 h3, hBB⟩⟩, fun h2 => ⟨(q1 h).2 h2, hBB⟩⟩, fun h => ⟨q2 h, hBB⟩⟩
  obtain ⟨ob, tb3⟩ := isB_le hN hN.w4 (fun t i h => h.1) hBst
  have rb := hBst.1
  have i10 : st.2.2.2 ≤ 10 := by
    rcases hBst.2.2 with e | ⟨_, h2, _⟩
    · rw [e]; exact Nat.zero_le _
    · have h3 := h2.2.1
      have : ctN N ≤ 1 + N 0 7 := by unfold ctN; split <;> omega
      omega
  obtain ⟨p1, p2, p3, p4⟩ := hA
  have er : (151200 : Int64) * (nI st.2.1).toInt64 = lN (151200 * st.2.1) := by rw [nI_l (by omega), show (151200 : Int64) = lN 151200 from rfl, lN_mul]
  rw [p1, p2, p3, p4, er]
  have lt5 : lN (151200 * st.2.1) < 562949953421312 := by
    rw [show (562949953421312 : Int64) = lN 562949953421312 from rfl, pk_lLT (by omega) (by decide)]
    omega
  have nv : ∀ k, k < 4 → (nI v = nI k ↔ v = k) := fun k hk => nI_eq (by omega) (by omega)
  refine pk_ne v 2 (fun h => pk_ne v 3 (fun h3 => ⟨nn64 (by omega), nn64 (by omega), lt5, hMM _ fun s hAM => ?_⟩) (fun h3 => ?_)) (fun h => hMM _ fun s hAM => ?_)
  · obtain ⟨⟨U, L, u1, u2, u3⟩, -⟩ := hAM
    obtain ⟨l1, l2⟩ := q_low0_red u3 (by omega) (by omega) (by omega)
    rw [u1, u2]
    rcases (show v = 0 ∨ v = 1 by omega) with rfl | rfl
    · exact ⟨fun h => absurd rfl h, fun _ => by rw [show (nI 0) = (0 : Int32) from rfl, l1]⟩
    · exact ⟨fun _ => ⟨fun h => absurd rfl h, fun _ => by rw [show (nI 1) = (1 : Int32) from rfl, l2]⟩, fun h => absurd h (by decide)⟩
  · have ev : v = 3 := h3
    subst ev
    have mc : moC (moI st.2.2.2) = -1 ↔ st.2.2.2 = 0 := by
      unfold moI moC
      by_cases q : st.2.2.2 = 0
      · rw [if_pos q]; exact ⟨fun _ => q, fun _ => rfl⟩
      · rw [if_neg q, if_pos (by omega)]
        exact ⟨fun e => absurd e (m1_nI (by omega)), fun e => absurd e q⟩
    refine ⟨fun hn => hMM _ fun s hAM => ?_, fun hn => hMM _ fun s hAM => ?_⟩
    · obtain ⟨-, -, u5⟩ := hAM
      rw [u5]
      refine ⟨fun _ => ⟨fun _ => ⟨fun _ => ?_, fun h => absurd h (by decide)⟩, fun h => absurd h (by decide)⟩, fun h => absurd h (by decide)⟩
      have q : ¬ st.2.2.2 = 0 := fun z => hn (mc.mpr z)
      unfold moM moC moI
      rw [if_neg q, if_pos (by omega), if_pos (by omega)]
    · obtain ⟨-, -, u5⟩ := hAM
      rw [u5]
      refine ⟨fun _ => ⟨fun _ => ⟨fun _ => ?_, fun h => absurd h (by decide)⟩, fun h => absurd h (by decide)⟩, fun h => absurd h (by decide)⟩
      have q : st.2.2.2 = 0 := mc.mp hn
      rw [q]
      decide
  · have ev : v = 2 := h
    subst ev
    obtain ⟨-, u4, -⟩ := hAM
    rw [u4]
    exact ⟨fun _ => ⟨fun _ => ⟨fun h => absurd rfl h, fun _ => rfl⟩, fun h => absurd h (by decide)⟩, fun h => absurd h (by decide)⟩
