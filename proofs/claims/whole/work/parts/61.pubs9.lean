/-! whose letters a line bears -/
def whJ (S : Nat → Nat) (i : Nat) (p : Nat × Int32) : Nat → Nat × Int32
  | 0 => p
  | j + 1 => if (whJ S i p j).1 < S j then (S j, nI (10 * i + j)) else whJ S i p j
def whI (S : Nat → Nat → Nat) (n : Nat) : Nat → Nat × Int32
  | 0 => (0, -6)
  | i + 1 => whJ (S i) i (whI S n i) n
theorem whJ_le {S : Nat → Nat} {i B : Nat} {p : Nat × Int32} (hp : p.1 ≤ B) : ∀ n, (∀ j, j < n → S j ≤ B) → (whJ S i p n).1 ≤ B := by
  intro n
  induction n with
  | zero => intro _; exact hp
  | succ n ih =>
    intro h
    have := ih fun j hj => h j (by omega)
    rw [whJ]
    split
    · exact h n (by omega)
    · exact this
theorem whI_le {S : Nat → Nat → Nat} {B n : Nat} : ∀ k, (∀ i j, i < k → j < n → S i j ≤ B) → (whI S n k).1 ≤ B := by
  intro k
  induction k with
  | zero => intro _; exact Nat.zero_le _
  | succ k ih =>
    intro h
    rw [whI]
    exact whJ_le (ih fun i j hi hj => h i j (by omega) hj) n fun j hj => h k j (by omega) hj
theorem shN_self {N : Nt} {w : Nat → Nat} (hN : Nok N) (hw : Wok N w) {mo i k : Nat} (hi : i < N 0 0) (hk : k < 2 * N 0 7) : shN N w mo i i k = 0 := by
  obtain ⟨X, hX⟩ := fN_is (mo := mo) (t := i) (x0 := fun _ => 0) hN hw
  have e := fN_eq (x0 := fun b => if b = i then 1 else 0) hN hw (fun b hb hpb => by
    have : b ≠ i := fun e => hpb (by rw [e]; exact pt_t0 (hN.gok hw) hi (dN_is hN hw mo hi))
    simp [this]) hX (k / 2) (by omega)
  have z := fN_le (mo := mo) (t := i) (x0 := fun _ => 0) hN hw (l := k / 2) (by omega)
  rw [sumN_zero (f := fun _ => 0) (fun _ _ => rfl), e] at z
  have := ov_le (fa := N 1) (fb := N 2) (tl := tlN N w mo i) (F := fN N w mo i (fun b => if b = i then 1 else 0)) k
  unfold shN
  omega
/-- letters from i to j on a line -/
noncomputable def snN (N : Nt) (t k i j : Nat) : Nat := N 7 (36 * t + (6 * i + j)) * shN N (N 4) 99 i j k
theorem snN_le {N : Nt} (hN : Nok N) {t k i j : Nat} (ht : t < 3) (hi : i < N 0 0) (hj : j < N 0 0) (hk : k < 2 * N 0 7) : snN N t k i j ≤ 50 * 907200 := by
  have hn := hN.1.2
  exact Nat.mul_le_mul (hN.ld ht (by omega)) (shN_le hN hN.w4 hk)
theorem who_M {N : Nt} (hN : Nok N) {σ : ds_S} (hM : RepM N σ) {t l y : Nat} (ht : t < 3) (hl : l < N 0 7) (hy : y ≤ 1) {Q : Option Value → ds_S → Prop} (hQ : ∀ s, kM σ s → Q (some (.int (whI (snN N t (2 * l + y)) (N 0 0) (N 0 0)).2)) s) : ∃ n, w_X9_who_43 n (nI t) (nI l) (nI y) (-6 : Int32) (0 : Int64) (1 : Int64) (0 : Int32) σ Q := by
  have hn := hN.1.2
  have hm := hN.2.1
  have bS : ∀ i j, i < N 0 0 → j < N 0 0 → snN N t (2 * l + y) i j ≤ 50 * 907200 := fun i j hi hj => snN_le hN ht hi hj (by omega)
  refine pk_loop (σ := Int32 × Int64 × Int64 × ds_S) (fun fu i u => w_X9_who_43 fu (nI t) (nI l) (nI y) u.1 u.2.1 u.2.2.1 (nI i) u.2.2.2 Q) (fun i u => kM σ u.2.2.2 ∧ u.1 = (whI (snN N t (2 * l + y)) (N 0 0) i).2 ∧ ∃ bu bl, u.2.1 = lN bu ∧ u.2.2.1 = lN bl ∧ 0 < bl ∧ bl ≤ 151200 ∧ bu ≤ 50 * 907200 ∧ bu * 151200 = bl * (whI (snN N t (2 * l + y)) (N 0 0) i).1) (N 0 0) 0 (-6, 0, 1, σ) (by omega) ⟨kM.refl _, rfl, 0, 1, rfl, rfl, by decide, by decide, by decide, rfl⟩ ?_ ?_
  · rintro fu ⟨v4, v5, v7, s⟩ ⟨hk, h4, -⟩
    have hk' : kM σ s := hk
    have h4' : v4 = _ := h4
    show w_X9_who_43 (fu + 1) (nI t) (nI l) (nI y) v4 v5 v7 (nI (N 0 0)) s Q
    rw [w_X9_who_43, h4']
    exact pk_le (N 0 0) (N 0 0) (fun _ => hQ s hk') (fun h => by omega) (hM.sm.k hk').1.1 rfl
  · rintro fu i ⟨v4, v5, v7, s⟩ hi ⟨hk, h4, hb⟩ hnext
    have hk' : kM σ s := hk
    have h4' : v4 = (whI (snN N t (2 * l + y)) (N 0 0) i).2 := h4
    have hb' : ∃ bu bl, v5 = lN bu ∧ v7 = lN bl ∧ 0 < bl ∧ bl ≤ 151200 ∧ bu ≤ 50 * 907200 ∧ bu * 151200 = bl * (whI (snN N t (2 * l + y)) (N 0 0) i).1 := hb
    show w_X9_who_43 (fu + 1) (nI t) (nI l) (nI y) v4 v5 v7 (nI i) s Q
    rw [w_X9_who_43]
    refine pk_le (N 0 0) i (fun h => by omega) (fun _ => ?_) (hM.sm.k hk').1.1 rfl
    generalize hKK : (fun (v1_1 v2_1 v3_1 v4_1 : Int32) (v5_1 v7_1 : Int64) (v9_1 : Int32) σ1 => w_X9_who_43 fu v1_1 v2_1 v3_1 v4_1 v5_1 v7_1 (v9_1 + (1 : Int32)) σ1 Q) = KK
    have hkk : ∀ v4 v5 v7 s, (kM σ s ∧ v4 = (whI (snN N t (2 * l + y)) (N 0 0) (i + 1)).2 ∧ ∃ bu bl, v5 = lN bu ∧ v7 = lN bl ∧ 0 < bl ∧ bl ≤ 151200 ∧ bu ≤ 50 * 907200 ∧ bu * 151200 = bl * (whI (snN N t (2 * l + y)) (N 0 0) (i + 1)).1) → KK (nI t) (nI l) (nI y) v4 v5 v7 (nI i) s := by
      intro v4 v5 v7 s h
      rw [← hKK]
      show w_X9_who_43 fu (nI t) (nI l) (nI y) v4 v5 v7 (nI i + 1) s Q
      rw [nI_1]
      exact hnext (v4, v5, v7, s) h
    clear hKK hnext
    generalize hp0 : whI (snN N t (2 * l + y)) (N 0 0) i = p0 at *
    have hp0b : p0.1 ≤ 50 * 907200 := by rw [← hp0]; exact whI_le i fun a b ha hb => bS a b (by omega) hb
    have e1 : whI (snN N t (2 * l + y)) (N 0 0) (i + 1) = whJ (snN N t (2 * l + y) i) i p0 (N 0 0) := by rw [whI, hp0]
    rw [e1] at hkk
    refine pk_loop (σ := Int32 × Int64 × Int64 × ds_S) (fun fu j u => w_X9_who_55 fu (nI t) (nI l) (nI y) u.1 u.2.1 u.2.2.1 (nI i) (nI j) u.2.2.2 Q KK) (fun j u => kM σ u.2.2.2 ∧ u.1 = (whJ (snN N t (2 * l + y) i) i p0 j).2 ∧ ∃ bu bl, u.2.1 = lN bu ∧ u.2.2.1 = lN bl ∧ 0 < bl ∧ bl ≤ 151200 ∧ bu ≤ 50 * 907200 ∧ bu * 151200 = bl * (whJ (snN N t (2 * l + y) i) i p0 j).1) (N 0 0) 0 (v4, v5, v7, s) (by omega) ⟨hk', h4', hb'⟩ ?_ ?_
    · rintro fu ⟨v4, v5, v7, s⟩ ⟨hk, h4, hb⟩
      have hk' : kM σ s := hk
      show w_X9_who_55 (fu + 1) (nI t) (nI l) (nI y) v4 v5 v7 (nI i) (nI (N 0 0)) s Q KK
      rw [w_X9_who_55]
      exact pk_le (N 0 0) (N 0 0) (fun _ => hkk _ _ _ _ ⟨hk, h4, hb⟩) (fun h => by omega) (hM.sm.k hk').1.1 rfl
    · rintro fu j ⟨v4, v5, v7, s⟩ hj ⟨hk, h4, hb⟩ hnext
      have hk' : kM σ s := hk
      have h4' : v4 = (whJ (snN N t (2 * l + y) i) i p0 j).2 := h4
      obtain ⟨bu, bl, hbu, hbl, bl0, bl1, bu1, bue⟩ := hb
      have hbu' : v5 = lN bu := hbu
      have hbl' : v7 = lN bl := hbl
      have hsm := hM.sm.k hk'
      show w_X9_who_55 (fu + 1) (nI t) (nI l) (nI y) v4 v5 v7 (nI i) (nI j) s Q KK
      have ix : (36 : Int32) * nI t + 6 * nI i + nI j = nI (36 * t + (6 * i + j)) := by
        rw [show (36 : Int32) = nI 36 from rfl, show (6 : Int32) = nI 6 from rfl, pk_mul, pk_mul, nI_add, nI_add, Nat.add_assoc]
      have ld := hN.ld ht (show 6 * i + j < 36 by omega)
      have v108 : vp_in (nI (36 * t + (6 * i + j))) 108 := vp_in_nI (by omega) (by decide)
      have sc : whJ (snN N t (2 * l + y) i) i p0 (j + 1) = if (whJ (snN N t (2 * l + y) i) i p0 j).1 < snN N t (2 * l + y) i j then (snN N t (2 * l + y) i j, nI (10 * i + j)) else whJ (snN N t (2 * l + y) i) i p0 j := rfl
      have stay : ∀ s', kM σ s' → ¬ (whJ (snN N t (2 * l + y) i) i p0 j).1 < snN N t (2 * l + y) i j → w_X9_who_55 fu (nI t) (nI l) (nI y) v4 v5 v7 (nI i) (nI (j + 1)) s' Q KK := by
        intro s' hs' hlt
        refine hnext (v4, v5, v7, s') ⟨hs', ?_, bu, bl, hbu', hbl', bl0, bl1, bu1, ?_⟩
        · rw [sc, if_neg hlt]; exact h4'
        · rw [sc, if_neg hlt]; exact bue
      rw [w_X9_who_55, ix, nI_clamp (n := 36 * t + (6 * i + j)) (by omega), hsm.2.2 _ (by omega), nI_1 j]
      refine pk_le (N 0 0) j (fun h => by omega) (fun _ => pk_eq i j (fun h => stay s hk' ?_) (fun h => ⟨v108, pk_le (N 7 (36 * t + (6 * i + j))) 0 (fun h2 => stay s hk' ?_) (fun h2 => ⟨v108, ?_⟩)⟩)) hsm.1.1 rfl
      · have : snN N t (2 * l + y) i j = 0 := by
          unfold snN
          rw [← h, shN_self hN hN.w4 hi (by omega), Nat.mul_zero]
        omega
      · have : snN N t (2 * l + y) i j = 0 := by
          unfold snN
          rw [show N 7 (36 * t + (6 * i + j)) = 0 by omega, Nat.zero_mul]
        omega
      · refine ev_shareM hN hN.w4 hsm hi hj hl hy (p := 0) (by omega) fun s1 a b hk1 hr => ?_
        refine ev_shareM hN hN.w4 (hsm.k hk1) hi hj hl hy (p := 1) (by omega) fun s2 a2 b2 hk2 hr2 => ?_
        obtain ⟨ea, eb⟩ := red_uniq (by decide) (by decide) hr2 hr rfl
        have e0 : (if (0 : Nat) = 0 then a else b) = a := rfl
        have e1' : (if (1 : Nat) = 0 then a2 else b2) = b := eb
        have rl := red_le hr (by decide)
        have bsh := shN_le (mo := 99) (i := i) (j := j) (k := 2 * l + y) hN hN.w4 (by omega)
        have hb0 := hr.2.1
        have ma : N 7 (36 * t + (6 * i + j)) * a ≤ 50 * 907200 := Nat.mul_le_mul ld (by omega)
        have ma2 : N 7 (36 * t + (6 * i + j)) * a * bl ≤ 50 * 907200 * 151200 := Nat.mul_le_mul ma bl1
        have mb2 : bu * b ≤ 50 * 907200 * 151200 := Nat.mul_le_mul bu1 rl.1
        have km2 := (hk'.trans hk1).trans hk2
        have key : bu * b < N 7 (36 * t + (6 * i + j)) * a * bl ↔ (whJ (snN N t (2 * l + y) i) i p0 j).1 < snN N t (2 * l + y) i j := by
          generalize (whJ (snN N t (2 * l + y) i) i p0 j).1 = mst at *
          have k1 : bu * b * 151200 = mst * (bl * b) := by
            calc bu * b * 151200 = bu * 151200 * b := Nat.mul_right_comm _ _ _
              _ = bl * mst * b := by rw [bue]
              _ = mst * (bl * b) := by simp only [Nat.mul_assoc, Nat.mul_comm, Nat.mul_left_comm]
          have k2 : N 7 (36 * t + (6 * i + j)) * a * bl * 151200 = snN N t (2 * l + y) i j * (bl * b) := by
            have e := hr.2.2
            unfold snN
            generalize shN N (N 4) 99 i j (2 * l + y) = sh at *
            calc N 7 (36 * t + (6 * i + j)) * a * bl * 151200 = N 7 (36 * t + (6 * i + j)) * (151200 * a) * bl := by simp only [Nat.mul_assoc, Nat.mul_comm, Nat.mul_left_comm]
              _ = N 7 (36 * t + (6 * i + j)) * (sh * b) * bl := by rw [e]
              _ = N 7 (36 * t + (6 * i + j)) * sh * (bl * b) := by simp only [Nat.mul_assoc, Nat.mul_comm, Nat.mul_left_comm]
          have pos : 0 < bl * b := Nat.mul_pos bl0 hb0
          constructor
          · intro h
            have := Nat.mul_lt_mul_of_pos_right h (show 0 < 151200 by decide)
            rw [k1, k2] at this
            exact Nat.lt_of_mul_lt_mul_right this
          · intro h
            have := Nat.mul_lt_mul_of_pos_right h pos
            rw [← k1, ← k2] at this
            exact Nat.lt_of_mul_lt_mul_right this
        rw [e0, e1', nI_l (by omega), lN_mul, hbl', lN_mul, hbu', lN_mul, lg_cmp_le, pk_lLE (by omega) (by omega)]
        refine ⟨fun h3 => ?_, fun h3 => ?_⟩
        · have := stay s2 km2 (fun z => by have := key.mpr z; omega)
          rw [hbu', hbl'] at this
          exact this
        · have hlt := key.mp (by omega)
          have i10 : (10 : Int32) * nI i + nI j = nI (10 * i + j) := by rw [show (10 : Int32) = nI 10 from rfl, pk_mul, nI_add]
          rw [i10]
          refine hnext (_, _, _, s2) ⟨km2, ?_, _, b, rfl, rfl, hb0, rl.1, ma, ?_⟩
          · rw [sc, if_pos hlt]; rfl
          · rw [sc, if_pos hlt]
            have e := hr.2.2
            show N 7 (36 * t + (6 * i + j)) * a * 151200 = b * snN N t (2 * l + y) i j
            unfold snN
            generalize shN N (N 4) 99 i j (2 * l + y) = sh at *
            calc N 7 (36 * t + (6 * i + j)) * a * 151200 = N 7 (36 * t + (6 * i + j)) * (151200 * a) := by simp only [Nat.mul_assoc, Nat.mul_comm, Nat.mul_left_comm]
              _ = N 7 (36 * t + (6 * i + j)) * (sh * b) := by rw [e]
              _ = b * (N 7 (36 * t + (6 * i + j)) * sh) := by simp only [Nat.mul_assoc, Nat.mul_comm, Nat.mul_left_comm]
theorem who_C {N : Nt} (hN : Nok N) {σ : ds_S} (hC : RepC N σ) {t l y : Nat} (ht : t < 3) (hl : l < N 0 7) (hy : y ≤ 1) {Q : Option Value → ds_S → Prop} (hQ : ∀ s, kC σ s → Q (some (.int (whI (snN N t (2 * l + y)) (N 0 0) (N 0 0)).2)) s) : ds_EV mt_X4_findAll Yc [.ref 6, .ref 1, .int (-1 : Int32)] σ (fun σ4 => ∃ n, w_X8_who_52 n (nI t) (nI l) (nI y) (0 : Int64) (-6 : Int32) (0 : Int32) σ4 Q) := by
  have hn := hN.1.2
  have hm := hN.2.1
  obtain ⟨w1, w2, w3⟩ := row_at ht
  have bS : ∀ i j, i < N 0 0 → j < N 0 0 → snN N t (2 * l + y) i j ≤ 50 * 907200 := fun i j hi hj => snN_le hN ht hi hj (by omega)
  refine ev_findAllC hN hC.rc 99 fun s1 hs1 hW => ?_
  refine pk_loop (σ := Int64 × Int32 × ds_S) (fun fu i u => w_X8_who_52 fu (nI t) (nI l) (nI y) u.1 u.2.1 (nI i) u.2.2 Q) (fun i u => kL 10 9 s1 u.2.2 ∧ u.1 = lN (whI (snN N t (2 * l + y)) (N 0 0) i).1 ∧ u.2.1 = (whI (snN N t (2 * l + y)) (N 0 0) i).2) (N 0 0) 0 (0, -6, s1) (by omega) ⟨kL.refl _ _ _, rfl, rfl⟩ ?_ ?_
  · rintro fu ⟨v4, v6, s⟩ ⟨hk, h4, h6⟩
    have hk' : kL 10 9 s1 s := hk
    have h6' : v6 = _ := h6
    show w_X8_who_52 (fu + 1) (nI t) (nI l) (nI y) v4 v6 (nI (N 0 0)) s Q
    rw [w_X8_who_52, h6']
    exact pk_le (N 0 0) (N 0 0) (fun _ => hQ s (hs1.k.trans hk'.k)) (fun h => by omega) (hC.k (hs1.k.trans hk'.k)).1 rfl
  · rintro fu i ⟨v4, v6, s⟩ hi ⟨hk, h4, h6⟩ hnext
    have hk' : kL 10 9 s1 s := hk
    have h4' : v4 = lN (whI (snN N t (2 * l + y)) (N 0 0) i).1 := h4
    have h6' : v6 = (whI (snN N t (2 * l + y)) (N 0 0) i).2 := h6
    show w_X8_who_52 (fu + 1) (nI t) (nI l) (nI y) v4 v6 (nI i) s Q
    rw [w_X8_who_52]
    refine pk_le (N 0 0) i (fun h => by omega) (fun _ => ?_) (hC.k (hs1.k.trans hk'.k)).1 rfl
    generalize hKK : (fun (v1_1 v2_1 v3_1 : Int32) (v4_1 : Int64) (v6_1 v7_1 : Int32) σ1 => w_X8_who_52 fu v1_1 v2_1 v3_1 v4_1 v6_1 (v7_1 + (1 : Int32)) σ1 Q) = KK
    have hkk : ∀ v4 v6 s, (kL 10 9 s1 s ∧ v4 = lN (whI (snN N t (2 * l + y)) (N 0 0) (i + 1)).1 ∧ v6 = (whI (snN N t (2 * l + y)) (N 0 0) (i + 1)).2) → KK (nI t) (nI l) (nI y) v4 v6 (nI i) s := by
      intro v4 v6 s h
      rw [← hKK]
      show w_X8_who_52 fu (nI t) (nI l) (nI y) v4 v6 (nI i + 1) s Q
      rw [nI_1]
      exact hnext (v4, v6, s) h
    clear hKK hnext
    generalize hp0 : whI (snN N t (2 * l + y)) (N 0 0) i = p0 at *
    have hp0b : p0.1 ≤ 50 * 907200 := by rw [← hp0]; exact whI_le i fun a b ha hb => bS a b (by omega) hb
    have e1 : whI (snN N t (2 * l + y)) (N 0 0) (i + 1) = whJ (snN N t (2 * l + y) i) i p0 (N 0 0) := by rw [whI, hp0]
    rw [e1] at hkk
    refine pk_loop (σ := Int64 × Int32 × ds_S) (fun fu j u => w_X8_who_67 fu (nI t) (nI l) (nI y) u.1 u.2.1 (nI i) (nI j) u.2.2 Q KK) (fun j u => kL 10 9 s1 u.2.2 ∧ u.1 = lN (whJ (snN N t (2 * l + y) i) i p0 j).1 ∧ u.2.1 = (whJ (snN N t (2 * l + y) i) i p0 j).2) (N 0 0) 0 (v4, v6, s) (by omega) ⟨hk', h4', h6'⟩ ?_ ?_
    · rintro fu ⟨v4, v6, s⟩ ⟨hk, h4, h6⟩
      have hk' : kL 10 9 s1 s := hk
      show w_X8_who_67 (fu + 1) (nI t) (nI l) (nI y) v4 v6 (nI i) (nI (N 0 0)) s Q KK
      rw [w_X8_who_67]
      exact pk_le (N 0 0) (N 0 0) (fun _ => hkk _ _ _ ⟨hk, h4, h6⟩) (fun h => by omega) (hC.k (hs1.k.trans hk'.k)).1 rfl
    · rintro fu j ⟨v4, v6, s⟩ hj ⟨hk, h4, h6⟩ hnext
      have hk' : kL 10 9 s1 s := hk
      have h4' : v4 = lN (whJ (snN N t (2 * l + y) i) i p0 j).1 := h4
      have h6' : v6 = (whJ (snN N t (2 * l + y) i) i p0 j).2 := h6
      have hCs := hC.k (hs1.k.trans hk'.k)
      obtain ⟨-, -, y7⟩ := ways_at j (by omega)
      show w_X8_who_67 (fu + 1) (nI t) (nI l) (nI y) v4 v6 (nI i) (nI j) s Q KK
      rw [w_X8_who_67, nI_clamp (n := j) (by omega), y7, w1, w3]
      have hWj : WN N (N 4) 99 j s := WOK.cong (hW j hj) (fun c _ _ _ => by rw [hk'.1]) (by omega)
      refine pk_le (N 0 0) j (fun h => by omega) (fun _ => ⟨vp_in_nI (by omega) (by decide), ev_sendOne hN hCs.rc hN.w4 hj hi hWj fun s2 hs2 hov => ?_⟩) hCs.1 rfl
      have kk := hk'.trans hs2
      have hC2 := hC.k (hs1.k.trans kk.k)
      have ix : nI i * 6 + nI j = nI (6 * i + j) := by rw [show (6 : Int32) = nI 6 from rfl, pk_mul, nI_add, Nat.mul_comm]
      have ix2 : (2 : Int32) * nI l + nI y = nI (2 * l + y) := by rw [show (2 : Int32) = nI 2 from rfl, pk_mul, nI_add]
      have i10 : (10 : Int32) * nI i + nI j = nI (10 * i + j) := by rw [show (10 : Int32) = nI 10 from rfl, pk_mul, nI_add]
      have ld := hN.ld ht (show 6 * i + j < 36 by omega)
      have bs := bS i j hi hj
      have es : s2.1 (3 + t) (6 * i + j) = nI (N 7 (36 * t + (6 * i + j))) := row3 hC2.rc ht _ (by omega)
      have eo : s2.2 10 (2 * l + y) = lN (shN N (N 4) 99 i j (2 * l + y)) := hov _ (by omega)
      have wb : (whJ (snN N t (2 * l + y) i) i p0 j).1 ≤ 50 * 907200 := whJ_le hp0b j fun q hq => bS i q hi (by omega)
      have em : lN (N 7 (36 * t + (6 * i + j))) * lN (shN N (N 4) 99 i j (2 * l + y)) = lN (snN N t (2 * l + y) i j) := lN_mul _ _
      have sc : whJ (snN N t (2 * l + y) i) i p0 (j + 1) = if (whJ (snN N t (2 * l + y) i) i p0 j).1 < snN N t (2 * l + y) i j then (snN N t (2 * l + y) i j, nI (10 * i + j)) else whJ (snN N t (2 * l + y) i) i p0 j := rfl
      rw [ix, ix2, i10, nI_clamp (n := 6 * i + j) (by omega), nI_clamp (n := 2 * l + y) (by omega), es, eo, nI_l (by omega), em, h4', nI_1 j, lg_cmp_le, pk_lLE (by omega) (by omega)]
      refine ⟨vp_in_nI ht (by decide), w2, vp_in_nI (by omega) (by decide), vp_in_nI (by omega) (by decide), fun h => hnext (_, v6, s2) ⟨kk, ?_, ?_⟩, fun h => hnext (_, _, s2) ⟨kk, ?_, ?_⟩⟩
      · rw [sc, if_neg (by omega)]; rfl
      · rw [sc, if_neg (by omega)]; exact h6'
      · rw [sc, if_pos (by omega)]; rfl
      · rw [sc, if_pos (by omega)]; rfl
theorem pub_who (a b c : Int32) : Pub mt_X8_who mt_X9_who [.int a, .int b, .int c] := by
  intro σC σM ⟨N, hN, hC, hM⟩
  have n6 := hN.1.2
  have m10 := hN.2.1
  have hB : Both σC σM := ⟨N, hN, hC, hM⟩
  have c1 := hC.2.1
  have bt : q_bx a 3 = q_rng a 0 3 := q_bx_rng (n := 3) (by decide) a
  have bl : ∀ x, q_bx x (σM.1 0 7) = q_rng x 0 (nI (N 0 7)) := fun x => by rw [hM.2.1, q_bx_rng (by omega)]
  rcases rc0 (hi := 3) (by decide) a with h1 | ⟨h1, t, ht, rfl⟩
  · refine e_X8_who a b c σC _ ⟨fun _ => ?_, fun h => absurd h1 h⟩
    exact e_X9_who a b c σM _ ⟨fun _ => ⟨rfl, hB⟩, fun h => absurd (by rw [bt]; exact h1) h⟩
  have x1 : ¬ q_rng (nI t) 0 3 = 0 := by rw [show q_rng (nI t) 0 3 = 1 from h1]; decide
  have x2 : ¬ q_bx (nI t) 3 = 0 := by rw [bt]; exact x1
  rcases rc0 (hi := N 0 7) (by omega) b with h3 | ⟨h3, l, hl, rfl⟩
  · refine e_X8_who (nI t) b c σC _ ⟨fun h => absurd h x1, fun _ => ⟨fun h => absurd (by rw [c1]; exact h3) h, fun _ => ?_⟩⟩
    exact e_X9_who (nI t) b c σM _ ⟨fun h => absurd h x2, fun _ => ⟨fun h => absurd (by rw [bl]; exact h3) h, fun _ => ⟨rfl, hB⟩⟩⟩
  have x5 : ¬ q_rng (nI l) 0 (σC.1 1 1) = 0 := by rw [c1, h3]; decide
  have x6 : ¬ q_bx (nI l) (σM.1 0 7) = 0 := by rw [bl, h3]; decide
  rcases rc0 (hi := 2) (by decide) c with h4 | ⟨h4, y, hy, rfl⟩
  · refine e_X8_who (nI t) (nI l) c σC _ ⟨fun h => absurd h x1, fun _ => ⟨fun _ => ⟨fun h => absurd h4 h, fun _ => ?_⟩, fun h => absurd h x5⟩⟩
    exact e_X9_who (nI t) (nI l) c σM _ ⟨fun h => absurd h x2, fun _ => ⟨fun _ => ⟨fun h => absurd (by rw [q_in_0_1]; exact h4) h, fun _ => ⟨rfl, hB⟩⟩, fun h => absurd h x6⟩⟩
  have x7 : ¬ q_rng (nI y) 0 2 = 0 := by rw [show q_rng (nI y) 0 2 = 1 from h4]; decide
  have x8 : ¬ q_in (nI y).toInt64 0 1 = 0 := q_in_yes (by omega)
  refine e_X8_who (nI t) (nI l) (nI y) σC _ ⟨fun h => absurd h x1, fun _ => ⟨fun _ => ⟨fun _ => who_C hN hC ht hl (by omega) fun s hs => ?_, fun h => absurd h x7⟩, fun h => absurd h x5⟩⟩
  exact e_X9_who (nI t) (nI l) (nI y) σM _ ⟨fun h => absurd h x2, fun _ => ⟨fun _ => ⟨fun _ => who_M hN hM ht hl (by omega) fun s' hs' => ⟨rfl, Both.k hN hC hM hs hs'⟩, fun h => absurd h x8⟩, fun h => absurd h x6⟩⟩
