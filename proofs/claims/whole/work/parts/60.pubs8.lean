/-! years -/
def growN (g v : Nat) : Nat := min ((v * (100 + g) + 99) / 100) 1000000
def gyN (g : Nat) (x : Nat → Nat) : Nat → Nat → Nat
  | 0 => x
  | y + 1 => fun i => growN g (gyN g x y i)
theorem gyN_le {g : Nat} {x : Nat → Nat} (h : ∀ i, i < 36 → x i ≤ 1000000) : ∀ y i, i < 36 → gyN g x y i ≤ 1000000 := by
  intro y
  cases y with
  | zero => exact h
  | succ y => intro i _; exact Nat.min_le_right _ _
theorem growN_alt (g v : Nat) : (v * (100 + g) + 99) / 100 = v + (v * g + 99) / 100 := by
  have : v * (100 + g) + 99 = (v * g + 99) + v * 100 := by rw [Nat.mul_add]; omega
  rw [this, Nat.add_mul_div_right _ _ (by decide)]
  omega
/-- a line is too full in year y -/
def abN (N : Nt) (g t y : Nat) : Prop := 151200 * (wsN N (N 4) 99 (gyN g (fun i => N 7 (36 * t + i)) y)).2.1 < (wsN N (N 4) 99 (gyN g (fun i => N 7 (36 * t + i)) y)).1
/-- the first such year -/
def yrN (N : Nt) (g t : Nat) (v : Int32) : Prop := (∃ y, y < 100 ∧ abN N g t y ∧ (∀ z, z < y → ¬ abN N g t z) ∧ v = nI y) ∨ ((∀ z, z < 100 → ¬ abN N g t z) ∧ v = -6)
def kY (σ s : ds_S) : Prop := (∀ c, (c < 11 ∨ c = 12 ∨ (14 ≤ c ∧ c < 19) ∨ 56 ≤ c) → c ≠ 60 → s.1 c = σ.1 c) ∧ ∀ c, c ≠ 9 → c ≠ 10 → c ≠ 11 → c ≠ 13 → c ≠ 19 → s.2 c = σ.2 c
theorem RepC.y {N : Nt} {σ s : ds_S} (h : RepC N σ) (hk : kY σ s) : RepC N s := by
  have h1 : RepC N (ds_si σ 60 (s.1 60)) := by
    obtain ⟨c0, c1, cl, c6, c7, cld, c12, c14, csk⟩ := h
    refine ⟨c0, c1, cl, c6, c7, fun t i ht hi => ?_, c12, c14, csk⟩
    rw [ds_si_1, if_neg (by omega)]
    exact cld t i ht hi
  refine h1.k ⟨fun c hc => ?_, hk.2⟩
  rw [ds_si_1]
  by_cases e : c = 60
  · rw [if_pos e, e]
  · rw [if_neg e]; exact hk.1 c hc e
theorem kY.k {σ s s' : ds_S} (h : kY σ s) (h2 : kC s s') : kY σ s' := ⟨fun c hc h6 => (h2.1 c hc).trans (h.1 c hc h6), fun c a b d e f => (h2.2 c a b d e f).trans (h.2 c a b d e f)⟩
theorem ev_growBy {σ : ds_S} {g : Nat} (hg : g ≤ 100) {x : Nat → Nat} (hx : ∀ i, i < 36 → σ.1 60 i = nI (x i)) (hxb : ∀ i, i < 36 → x i ≤ 1000000) {K : ds_S → Prop} (hK : ∀ s, (∀ c, c ≠ 60 → s.1 c = σ.1 c) → s.2 = σ.2 → (∀ i, i < 36 → s.1 60 i = nI (growN g (x i))) → K s) : ds_EV mt_X8_growByHundredths Yc [.ref 0, .int (nI g)] σ K := by
  refine e_X8_growByHundredths (nI g) σ _ ?_
  generalize hQ : (fun r σ' => r = none ∧ K σ') = Q
  have hq : ∀ s, K s → Q none s := fun s h => by rw [← hQ]; exact ⟨rfl, h⟩
  clear hQ
  unfold w_X8_growByHundredths
  refine pk_loop (fun fu i s => w_X8_growByHundredths_2 fu (nI g) (nI i) s Q) (fun i s => (∀ c, c ≠ 60 → s.1 c = σ.1 c) ∧ s.2 = σ.2 ∧ (∀ j, j < i → s.1 60 j = nI (growN g (x j))) ∧ ∀ j, i ≤ j → j < 36 → s.1 60 j = nI (x j)) 36 0 σ (by omega) ⟨fun _ _ => rfl, rfl, fun j h => by omega, fun j _ h => hx j h⟩ ?_ ?_
  · rintro fu s ⟨h1, h2, h3, h4⟩
    rw [w_X8_growByHundredths_2]
    exact pk_le 36 36 (fun _ => hq _ (hK s h1 h2 h3)) (fun h => by omega)
  · rintro fu i s hi ⟨h1, h2, h3, h4⟩ hnext
    have bx := hxb i hi
    have m1 : x i * (100 + g) ≤ 1000000 * 200 := Nat.mul_le_mul bx (by omega)
    have b3 : (x i * (100 + g) + 99) / 100 ≤ 2000001 := by omega
    have e : (q_min ((((nI (x i)).toInt64 * ((100 : Int32) + nI g).toInt64) + (99 : Int64)) / (100 : Int64)) (1000000 : Int64)).toInt32 = nI (growN g (x i)) := by
      rw [show (100 : Int32) = nI 100 from rfl, nI_add, nI_l (by omega), nI_l (by omega), lN_mul, show (99 : Int64) = lN 99 from rfl, lN_add, show (100 : Int64) = lN 100 from rfl, pk_lDiv (by omega) (by decide) (by decide), show (1000000 : Int64) = lN 1000000 from rfl]
      unfold q_min growN
      by_cases q : 1000000 < (x i * (100 + g) + 99) / 100
      · rw [if_pos ((pk_lLT (by decide) (by omega)).mpr q), lN_i]
        congr 1; omega
      · rw [if_neg (fun z => q ((pk_lLT (by decide) (by omega)).mp z)), lN_i]
        congr 1; omega
    have v36 : vp_in (nI i) 36 := vp_in_nI hi (by decide)
    rw [w_X8_growByHundredths_2, nI_clamp (n := i) (by omega), h4 i (Nat.le_refl _) hi, e, nI_1]
    refine pk_le 36 i (fun h => by omega) (fun _ => ⟨v36, v36, hnext _ ⟨fun c hc => ?_, h2, fun j hj => ?_, fun j hj hj2 => ?_⟩⟩)
    · exact (show (ds_wi s 60 i _).1 c = s.1 c from if_neg hc).trans (h1 c hc)
    · rw [ds_wi_1]
      by_cases q : j = i
      · rw [if_pos ⟨rfl, q⟩, q]
      · rw [if_neg (fun z => q z.2)]; exact h3 j (by omega)
    · rw [ds_wi_1, if_neg (by omega)]; exact h4 j (by omega) hj2
theorem year_C {N : Nt} (hN : Nok N) {σ : ds_S} (hC : RepC N σ) {t g : Nat} (ht : t < 3) (hg : g ≤ 100) {Q : Option Value → ds_S → Prop} (hQ : ∀ v s, RepC N s → yrN N g t v → Q (some (.int v)) s) : ds_EV mt_X4_findAll Yc [.ref 6, .ref 1, .int (-1 : Int32)] σ (fun σ2 => vp_in (nI t) 3 ∧ ds_k Yc (Yc.2.2.2 2 (nI t).toNatClampNeg) 10 ∧ 36 ≤ Yc.2.2.1 (Yc.2.2.2 2 (nI t).toNatClampNeg) ∧ ∃ n, w_X8_year_54 n (nI g) (0 : Int32) (ds_cp σ2 (Yc.2.2.2 2 (nI t).toNatClampNeg) 60 36) Q) := by
  obtain ⟨w1, w2, w3⟩ := row_at ht
  rw [w1, w3]
  refine ev_findAllC hN hC.rc 99 fun s1 hs1 hW => ⟨vp_in_nI ht (by decide), w2, Nat.le_refl _, ?_⟩
  have hC1 := hC.k hs1.k
  have x50 : ∀ i, i < 36 → N 7 (36 * t + i) ≤ 1000000 := fun i hi => by have := hN.ld ht hi; omega
  have bx := gyN_le (g := g) (x := fun i => N 7 (36 * t + i)) x50
  refine pk_loop (fun fu y s => w_X8_year_54 fu (nI g) (nI y) s Q) (fun y s => kY σ s ∧ (∀ i, i < 36 → s.1 60 i = nI (gyN g (fun i => N 7 (36 * t + i)) y i)) ∧ (∀ z, z < y → ¬ abN N g t z) ∧ ∀ t, t < N 0 0 → WN N (N 4) 99 t s) 100 0 _ (by omega) ⟨⟨fun c hc h6 => ?_, fun c a b d e f => hs1.k.2 c a b d e f⟩, fun i hi => ?_, fun z h => by omega, fun t' ht' => ?_⟩ ?_ ?_
  · funext k
    rw [ds_cp_1, if_neg h6, hs1.k.1 c hc]
  · rw [ds_cp_1, if_pos rfl, if_pos hi]
    exact row3 hC1.rc ht i hi
  · refine WOK.cong (hW t' ht') (fun c h1 h2 _ => ?_) (by have := hN.1.2; omega)
    funext k
    rw [ds_cp_1, if_neg (by omega)]
  · rintro fu s ⟨hk, -, hz, -⟩
    rw [w_X8_year_54]
    exact pk_le 100 100 (fun _ => hQ _ _ (hC.y hk) (Or.inr ⟨hz, rfl⟩)) (fun h => by omega)
  · rintro fu y s hy ⟨hk, hx, hz, hWs⟩ hnext
    rw [w_X8_year_54]
    have hCs := hC.y hk
    have bon : ∀ k, k < 2 * N 0 7 → onN N (N 4) 99 (gyN g (fun i => N 7 (36 * t + i)) y) k ≤ 36 * 1000000 * 151200 := fun k hk => onN_le hN hN.w4 (bx y) hk
    have wok := wsN_ok (mo := 99) (x := gyN g (fun i => N 7 (36 * t + i)) y) hN hN.w4 (bx y)
    refine pk_le 100 y (fun h => by omega) (fun _ => ?_)
    refine ev_sendTable hN hCs.rc hN.w4 (mo := 99) ⟨by decide, rfl⟩ rfl hx (bx y) (fun t ht _ => hWs t ht) fun s2 hs2 hov => ?_
    have hC2 := hCs.k hs2.k
    refine ev_clear (Or.inl rfl) fun s3 g1 g2 g3 _ _ => ?_
    refine ev_climb (Or.inl rfl) hN.2.1 (B := 36 * 1000000 * 151200) (by decide) (by rw [g1 1 (by decide)]; exact hC2.2.1) (fun l hl => by rw [g1 63 (by decide)]; exact (hC2.2.2.1 l hl).2.2.1) hN.rm (fun k hk => ⟨by rw [g2 10 (by decide)]; exact hov k hk, bon k hk⟩) g3 fun s4 hk4 hP4 => ?_
    have kc4 : kC s s4 := hs2.k.trans ⟨fun c hc => by rw [hk4.row (by omega), g1 c (by omega)], fun c h1 h2 h3 h4 h5 => by rw [hk4.2 c h3, g2 c h3]⟩
    have hk4' := hk.k kc4
    have ab : q_ab (s4.2 11 0) (s4.1 11 1) = 0 ↔ ¬ abN N g t y := by
      obtain ⟨p1, p2, -⟩ := hP4
      have p1' : s4.2 11 0 = lN (wsN N (N 4) 99 (gyN g (fun i => N 7 (36 * t + i)) y)).1 := p1
      have p2' : s4.1 11 1 = nI (wsN N (N 4) 99 (gyN g (fun i => N 7 (36 * t + i)) y)).2.1 := p2
      rw [p1', p2']
      unfold q_ab abN
      rw [nI_l (by omega), show (151200 : Int64) = lN 151200 from rfl, lN_mul]
      by_cases q : 151200 * (wsN N (N 4) 99 (gyN g (fun i => N 7 (36 * t + i)) y)).2.1 < (wsN N (N 4) 99 (gyN g (fun i => N 7 (36 * t + i)) y)).1
      · rw [if_pos ((pk_lLT (by omega) (by omega)).mpr q)]
        exact ⟨fun h => absurd h (by decide), fun h => absurd q h⟩
      · rw [if_neg (fun z => q ((pk_lLT (by omega) (by omega)).mp z))]
        exact ⟨fun _ => q, fun _ => rfl⟩
    have x4 : ∀ i, i < 36 → s4.1 60 i = nI (gyN g (fun i => N 7 (36 * t + i)) y i) := fun i hi => by rw [kc4.1 60 (by omega)]; exact hx i hi
    refine ⟨fun h => ev_growBy hg x4 (bx y) fun s5 j1 j2 j3 => ?_, fun h => hQ _ _ (hC.y hk4') (Or.inl ⟨y, hy, Classical.not_not.mp (fun z => h (ab.mpr z)), hz, rfl⟩)⟩
    rw [nI_1]
    refine hnext s5 ⟨⟨fun c hc h6 => (j1 c h6).trans (hk4'.1 c hc h6), fun c a b d e f => by rw [j2]; exact hk4'.2 c a b d e f⟩, j3, fun z hz2 => ?_, fun t' ht' => ?_⟩
    · by_cases q : z = y
      · rw [q]; exact ab.mp h
      · exact hz z (by omega)
    · refine WOK.cong (hWs t' ht') (fun c h1 h2 _ => ?_) (by have := hN.1.2; omega)
      rw [j1 c (by omega), hk4.row (by omega), g1 c (by omega), hs2.1]
/-- the loads in year y -/
def ldN (N : Nt) (g t y i : Nat) : Nat := if 36 * t ≤ i ∧ i < 36 * t + 36 then gyN g (fun i => N 7 (36 * t + i)) y (i - 36 * t) else N 7 i
theorem SM.loads {N : Nt} {w x x' : Nat → Nat} {mo : Nat} {σ s : ds_S} (h : SM N w mo x σ) (h1 : ∀ c, c ≠ 7 → c ≠ 18 → s.1 c = σ.1 c) (h7 : ∀ i, i < 108 → s.1 7 i = nI (x' i)) : SM N w mo x' s := by
  obtain ⟨h0, hl, -⟩ := h
  refine ⟨?_, fun l hlm => ?_, h7⟩
  · rw [h1 0 (by decide) (by decide)]; exact h0
  · rw [h1 1 (by decide) (by decide), h1 2 (by decide) (by decide), h1 3 (by decide) (by decide), h1 4 (by decide) (by decide), h1 6 (by decide) (by decide)]; exact hl l hlm
/-- all but the loads of a table, their copy, and what ways and flows change -/
def kV (σ s : ds_S) : Prop := (∀ c k, c ≠ 7 → c ≠ 18 → c ≠ 9 → ¬ (c = 0 ∧ (k = 21 ∨ k = 24 ∨ k = 25)) → s.1 c k = σ.1 c k) ∧ ∀ c k, (c < 10 ∨ 13 < c) → ¬ (c = 0 ∧ (k = 16 ∨ k = 19 ∨ k = 20 ∨ k = 22 ∨ k = 23)) → s.2 c k = σ.2 c k
theorem kV.k {σ s s' : ds_S} (h : kV σ s) (h2 : kM s s') : kV σ s' := ⟨fun c k a b d e => (h2.1 c k d (by omega)).trans (h.1 c k a b d e), fun c k a b => (h2.2 c k a (by omega)).trans (h.2 c k a b)⟩
theorem kV.wi {σ s : ds_S} {c k : Nat} {x : Int32} (h : kV σ s) (hc : c = 7 ∨ c = 18) : kV σ (ds_wi s c k x) := ⟨fun c' k' a b d e => by rw [ds_wi_1, if_neg (by omega)]; exact h.1 c' k' a b d e, h.2⟩
theorem kV.sm {N : Nt} {w x x' : Nat → Nat} {mo : Nat} {σ s : ds_S} (hk : kV σ s) (h : SM N w mo x σ) (h7 : ∀ i, i < 108 → s.1 7 i = nI (x' i)) : SM N w mo x' s := by
  obtain ⟨⟨a, b, c, d⟩, e, f⟩ := h
  refine ⟨⟨?_, ?_, ?_, ?_⟩, fun l hl => ?_, h7⟩
  · rw [hk.1 0 0 (by omega) (by omega) (by omega) (by omega)]; exact a
  · rw [hk.1 0 7 (by omega) (by omega) (by omega) (by omega)]; exact b
  · rw [hk.1 0 9 (by omega) (by omega) (by omega) (by omega)]; exact c
  · rw [hk.1 0 13 (by omega) (by omega) (by omega) (by omega)]; exact d
  · rw [hk.1 1 l (by omega) (by omega) (by omega) (by omega), hk.1 2 l (by omega) (by omega) (by omega) (by omega), hk.1 3 l (by omega) (by omega) (by omega) (by omega), hk.1 4 l (by omega) (by omega) (by omega) (by omega), hk.1 6 l (by omega) (by omega) (by omega) (by omega)]; exact e l hl
theorem RepM.v {N : Nt} {σ s : ds_S} (h : RepM N σ) (hk : kV σ s) (h7 : ∀ i, i < 108 → s.1 7 i = nI (N 7 i)) : RepM N s := by
  obtain ⟨m0, m7, ml, mld, m9, mS, mm, msk⟩ := h
  refine ⟨?_, ?_, fun l hl => ?_, h7, ?_, ?_, ?_, fun hs => ?_⟩
  · rw [hk.1 0 0 (by omega) (by omega) (by omega) (by omega)]; exact m0
  · rw [hk.1 0 7 (by omega) (by omega) (by omega) (by omega)]; exact m7
  · rw [hk.1 1 l (by omega) (by omega) (by omega) (by omega), hk.1 2 l (by omega) (by omega) (by omega) (by omega), hk.1 3 l (by omega) (by omega) (by omega) (by omega), hk.1 4 l (by omega) (by omega) (by omega) (by omega), hk.1 5 l (by omega) (by omega) (by omega) (by omega), hk.1 6 l (by omega) (by omega) (by omega) (by omega)]; exact ml l hl
  · rw [hk.1 0 9 (by omega) (by omega) (by omega) (by omega)]; exact m9
  · rw [hk.1 0 10 (by omega) (by omega) (by omega) (by omega)]; exact mS
  · rw [hk.1 0 13 (by omega) (by omega) (by omega) (by omega)]; exact mm
  · obtain ⟨a, b, c⟩ := msk hs
    refine ⟨fun l hl => ?_, ?_, ?_⟩
    · rw [hk.1 8 l (by omega) (by omega) (by omega) (by omega)]; exact a l hl
    · rw [hk.2 0 28 (by omega) (by omega)]; exact b
    · rw [hk.2 0 29 (by omega) (by omega)]; exact c
theorem year_M {N : Nt} (hN : Nok N) {σ : ds_S} (hM : RepM N σ) {t g : Nat} (ht : t < 3) (hg1 : 1 ≤ g) (hg : g ≤ 100) {v : Int32} (hv : yrN N g t v) {Q : Option Value → ds_S → Prop} (hQ : ∀ s, RepM N s → Q (some (.int v)) s) : ∃ n, w_X9_year_26 n (nI t) (nI g) (0 : Int32) σ Q (fun v1_3 v2_3 σ3 => ∃ n, w_X9_year_61 n v1_3 v2_3 (-6 : Int32) (0 : Int32) σ3 Q (fun v1_4 v3_4 σ4 => ∃ n, w_X9_year_184 n v1_4 v3_4 (0 : Int32) σ4 Q)) := by
  have x50 : ∀ i, i < 36 → N 7 (36 * t + i) ≤ 1000000 := fun i hi => by have := hN.ld ht hi; omega
  have bx := gyN_le (g := g) (x := fun i => N 7 (36 * t + i)) x50
  generalize hK1 : (fun (v1_4 v3_4 : Int32) σ4 => ∃ n, w_X9_year_184 n v1_4 v3_4 (0 : Int32) σ4 Q) = K1
  have hk1 : ∀ s, kV σ s → (∀ i, i < 36 → s.1 18 i = nI (N 7 (36 * t + i))) → (∀ i, i < 108 → ¬ (36 * t ≤ i ∧ i < 36 * t + 36) → s.1 7 i = nI (N 7 i)) → K1 (nI t) v s := by
    intro s hk h18 h7
    rw [← hK1]
    refine pk_loop (fun fu i s => w_X9_year_184 fu (nI t) v (nI i) s Q) (fun i s => kV σ s ∧ (∀ i, i < 36 → s.1 18 i = nI (N 7 (36 * t + i))) ∧ ∀ j, j < 108 → ¬ (36 * t + i ≤ j ∧ j < 36 * t + 36) → s.1 7 j = nI (N 7 j)) 36 0 s (by omega) ⟨hk, h18, h7⟩ ?_ ?_
    · rintro fu s ⟨hk, -, h7⟩
      rw [w_X9_year_184]
      exact pk_le 36 36 (fun _ => hQ _ (hM.v hk fun i hi => h7 i hi (by omega))) (fun h => by omega)
    · rintro fu i s hi ⟨hk, h18, h7⟩ hnext
      have ix : (36 : Int32) * nI t + nI i = nI (36 * t + i) := by rw [show (36 : Int32) = nI 36 from rfl, pk_mul, nI_add]
      rw [w_X9_year_184, ix, nI_clamp (n := i) (by omega), nI_clamp (n := 36 * t + i) (by omega), h18 i hi, nI_1 i]
      refine pk_le 36 i (fun h => by omega) (fun _ => ⟨vp_in_nI hi (by decide), vp_in_nI (by omega) (by decide), hnext _ ⟨hk.wi (Or.inl rfl), fun j hj => ?_, fun j hj hn => ?_⟩⟩)
      · rw [ds_wi_1, if_neg (by omega)]; exact h18 j hj
      · rw [ds_wi_1]
        by_cases q : j = 36 * t + i
        · rw [if_pos ⟨rfl, q⟩, q]
        · rw [if_neg (fun z => q z.2)]; exact h7 j hj (by omega)
  clear hK1
  generalize hK2 : (fun (v1_3 v2_3 : Int32) σ3 => ∃ n, w_X9_year_61 n v1_3 v2_3 (-6 : Int32) (0 : Int32) σ3 Q K1) = K2
  have hk2 : ∀ s, kV σ s → (∀ i, i < 36 → s.1 18 i = nI (N 7 (36 * t + i))) → (∀ i, i < 108 → s.1 7 i = nI (N 7 i)) → K2 (nI t) (nI g) s := by
    intro s hk h18 h7
    rw [← hK2]
    refine pk_loop (σ := Int32 × ds_S) (fun fu y u => w_X9_year_61 fu (nI t) (nI g) u.1 (nI y) u.2 Q K1) (fun y u => kV σ u.2 ∧ (∀ i, i < 36 → u.2.1 18 i = nI (N 7 (36 * t + i))) ∧ (∀ i, i < 108 → u.2.1 7 i = nI (ldN N g t y i)) ∧ ((u.1 = -6 ∧ ∀ z, z < y → ¬ abN N g t z) ∨ (0 ≤ u.1 ∧ u.1 = v))) 100 0 (-6, s) (by omega) ⟨hk, h18, fun i hi => ?_, Or.inl ⟨rfl, fun z h => by omega⟩⟩ ?_ ?_
    · show s.1 7 i = _
      rw [h7 i hi]
      congr 1
      unfold ldN
      split
      · show N 7 i = N 7 (36 * t + (i - 36 * t))
        congr 1
        omega
      · rfl
    · rintro fu ⟨u, s⟩ ⟨hk, h18, h7, hu⟩
      have h7' : ∀ i, i < 108 → s.1 7 i = nI (ldN N g t 100 i) := h7
      have hu' : (u = -6 ∧ ∀ z, z < 100 → ¬ abN N g t z) ∨ (0 ≤ u ∧ u = v) := hu
      show w_X9_year_61 (fu + 1) (nI t) (nI g) u (nI 100) s Q K1
      rw [w_X9_year_61]
      have huv : u = v := by
        rcases hu' with ⟨rfl, h⟩ | ⟨_, h⟩
        · rcases hv with ⟨y, a, b, _⟩ | ⟨_, b⟩
          · exact absurd b (h y a)
          · exact b.symm
        · exact h
      rw [huv]
      refine pk_le 100 100 (fun _ => hk1 s hk h18 fun i hi hn => ?_) (fun h => by omega)
      rw [h7' i hi]
      unfold ldN
      rw [if_neg hn]
    · rintro fu y ⟨u, s⟩ hy ⟨hk, h18, h7, hu⟩ hnext
      have hk' : kV σ s := hk
      have h18' : ∀ i, i < 36 → s.1 18 i = nI (N 7 (36 * t + i)) := h18
      have h7' : ∀ i, i < 108 → s.1 7 i = nI (ldN N g t y i) := h7
      have hu' : (u = -6 ∧ ∀ z, z < y → ¬ abN N g t z) ∨ (0 ≤ u ∧ u = v) := hu
      show w_X9_year_61 (fu + 1) (nI t) (nI g) u (nI y) s Q K1
      rw [w_X9_year_61]
      refine pk_le 100 y (fun h => by omega) (fun _ => ?_)
      rcases hu' with ⟨rfl, hz⟩ | ⟨h0, rfl⟩
      · refine ⟨fun h => absurd h (by decide), fun _ => ?_⟩
        have hsm : SM N (N 4) 99 (ldN N g t y) s := hk'.sm hM.sm h7'
        have eld : (fun i => ldN N g t y (36 * t + i)) = fun i => if i < 36 then gyN g (fun i => N 7 (36 * t + i)) y i else N 7 (36 * t + i) := by
          funext i
          unfold ldN
          by_cases q : i < 36
          · rw [if_pos (by omega), if_pos q]; congr 1; omega
          · rw [if_neg (by omega), if_neg q]
        refine ev_findWorst hN hN.w4 hsm ht (fun i hi => ?_) fun s1 hk1' hW => ?_
        · have := congrFun eld i
          rw [show ldN N g t y (36 * t + i) = _ from this, if_pos hi]
          exact bx y i hi
        · have ews : wsN N (N 4) 99 (fun i => ldN N g t y (36 * t + i)) = wsN N (N 4) 99 (gyN g (fun i => N 7 (36 * t + i)) y) := by
            rw [eld]
            unfold wsN
            refine pkN_cong _ fun k hk2 => ?_
            unfold onN
            refine sumN_cong fun t' ht' => ?_
            have hn := hN.1.2
            refine ov_cong (m := N 0 7) (fun l hl => ?_) hk2
            obtain ⟨X, hX⟩ := fN_is (mo := 99) (t := t') (x0 := fun b => (fun i => if i < 36 then gyN g (fun i => N 7 (36 * t + i)) y i else N 7 (36 * t + i)) (6 * b + t')) hN hN.w4
            exact fN_eq hN hN.w4 (fun b hb _ => if_pos (by omega)) hX l hl
          rw [ews] at hW
          have wok := wsN_ok (mo := 99) (x := gyN g (fun i => N 7 (36 * t + i)) y) hN hN.w4 (bx y)
          obtain ⟨⟨U, L, u1, u2, u3⟩, -⟩ := hW
          have rl := red_le u3 (by omega)
          have hL0 := u3.2.1
          have ab : lg_cmp (s1.2 0 19) (s1.2 0 20) ≤ 0 ↔ ¬ abN N g t y := by
            rw [u1, u2, lg_cmp_le, pk_lLE (by omega) (by omega)]
            unfold abN
            generalize wsN N (N 4) 99 (gyN g (fun i => N 7 (36 * t + i)) y) = p at *
            have e := u3.2.2
            have r0 : 0 < 151200 * p.2.1 := by omega
            constructor
            · intro h1 h2
              have m1 : 151200 * p.2.1 * L < p.1 * L := Nat.mul_lt_mul_of_pos_right h2 hL0
              have m2 : 151200 * p.2.1 * U ≤ 151200 * p.2.1 * L := Nat.mul_le_mul_left _ h1
              omega
            · intro h1
              have m1 : p.1 * L ≤ 151200 * p.2.1 * L := Nat.mul_le_mul_right _ (by omega)
              rw [e] at m1
              exact Nat.le_of_mul_le_mul_left m1 r0
          have hkv := hk'.k hk1'
          have h18s : ∀ i, i < 36 → s1.1 18 i = nI (N 7 (36 * t + i)) := fun i hi => by rw [hk1'.1 18 i (by omega) (by omega)]; exact h18' i hi
          have h7s : ∀ i, i < 108 → s1.1 7 i = nI (ldN N g t y i) := fun i hi => by rw [hk1'.1 7 i (by omega) (by omega)]; exact h7' i hi
          have b96 : ∀ t0, ((t0 = -6 ∧ ∀ z, z < y + 1 → ¬ abN N g t z) ∨ (0 ≤ t0 ∧ t0 = v)) → w_X9_year_96 (nI t) (nI g) (nI y) t0 s1 Q (fun v1_2 v2_2 v3_2 v4_2 σ2 => w_X9_year_61 fu v1_2 v2_2 v3_2 v4_2 σ2 Q K1) := by
            intro t0 ht0
            unfold w_X9_year_96
            have ix : (36 : Int32) * nI t = nI (36 * t + 0) := by rw [show (36 : Int32) = nI 36 from rfl, pk_mul, Nat.add_zero]
            have ix2 : (36 : Int32) * nI t + 36 = nI (36 * t + 36) := by rw [show (36 : Int32) = nI 36 from rfl, pk_mul, nI_add]
            have l1 : (36 : Int32) * nI t = nI (36 * t) := by rw [show (36 : Int32) = nI 36 from rfl, pk_mul]
            rw [l1]
            refine pk_loop (fun fu i s => w_X9_year_103 fu (nI t) (nI g) t0 (nI y) (nI i) s Q _) (fun i s => 36 * t ≤ i ∧ kV σ s ∧ (∀ i, i < 36 → s.1 18 i = nI (N 7 (36 * t + i))) ∧ (∀ j, j < 108 → s.1 7 j = nI (if j < i then ldN N g t (y + 1) j else ldN N g t y j))) (36 * t + 36) (36 * t) s1 (by omega) ⟨Nat.le_refl _, hkv, h18s, fun j hj => ?_⟩ ?_ ?_
            · rw [h7s j hj]
              congr 1
              split
              · next q => unfold ldN; rw [if_neg (by omega), if_neg (by omega)]
              · rfl
            · rintro fu2 s2 ⟨-, j1, j2, j3⟩
              rw [w_X9_year_103, ix2]
              refine pk_le (36 * t + 36) (36 * t + 36) (fun _ => ?_) (fun h => by omega)
              show w_X9_year_61 fu (nI t) (nI g) t0 (nI y + 1) s2 Q K1
              rw [nI_1]
              refine hnext (t0, s2) ⟨j1, j2, fun j hj => ?_, ht0⟩
              show s2.1 7 j = _
              rw [j3 j hj]
              congr 1
              split
              · rfl
              · next q => unfold ldN; rw [if_neg (by omega), if_neg (by omega)]
            · rintro fu2 i s2 hi ⟨hi0, j1, j2, j3⟩ hnext2
              · have ev : s2.1 7 i = nI (ldN N g t y i) := by rw [j3 i (by omega), if_neg (by omega)]
                have el : ldN N g t y i = gyN g (fun i => N 7 (36 * t + i)) y (i - 36 * t) := if_pos ⟨hi0, hi⟩
                have el2 : ldN N g t (y + 1) i = growN g (ldN N g t y i) := by rw [el]; exact if_pos ⟨hi0, hi⟩
                have bl : ldN N g t y i ≤ 1000000 := by rw [el]; exact bx y _ (by omega)
                have m1 : ldN N g t y i * g ≤ 1000000 * 100 := Nat.mul_le_mul bl hg
                have eq1 : (nI (ldN N g t y i)).toInt64 + ((((nI (ldN N g t y i)).toInt64 * (nI g).toInt64) + (99 : Int64)) / (100 : Int64)) = lN ((ldN N g t y i * (100 + g) + 99) / 100) := by
                  rw [nI_l (by omega), nI_l (by omega), lN_mul, show (99 : Int64) = lN 99 from rfl, lN_add, show (100 : Int64) = lN 100 from rfl, pk_lDiv (by omega) (by decide) (by decide), lN_add, growN_alt]
                have bq : (ldN N g t y i * (100 + g) + 99) / 100 ≤ 3000000 := by rw [growN_alt]; omega
                rw [w_X9_year_103, ix2, nI_clamp (n := i) (by omega), ev, eq1, nI_1 i, show (1000000 : Int64) = lN 1000000 from rfl, lg_cmp_le, pk_lLE (by omega) (by decide), lN_i]
                have v108 : vp_in (nI i) 108 := vp_in_nI (by omega) (by decide)
                have st : ∀ q, q = growN g (ldN N g t y i) → w_X9_year_103 fu2 (nI t) (nI g) t0 (nI y) (nI (i + 1)) (ds_wi s2 7 i (nI q)) Q (fun v1_1 v2_1 v3_1 v4_1 σ1 => (fun v1_2 v2_2 v3_2 v4_2 σ2 => w_X9_year_61 fu v1_2 v2_2 v3_2 v4_2 σ2 Q K1) v1_1 v2_1 v3_1 (v4_1 + (1 : Int32)) σ1) := by
                  intro q hq
                  refine hnext2 _ ⟨by omega, j1.wi (Or.inl rfl), fun j hj => ?_, fun j hj => ?_⟩
                  · rw [ds_wi_1, if_neg (by omega)]; exact j2 j hj
                  · rw [ds_wi_1]
                    by_cases e : j = i
                    · rw [if_pos ⟨rfl, e⟩, if_pos (by omega), e, el2, hq]
                    · rw [if_neg (fun z => e z.2), j3 j hj]
                      congr 1
                      by_cases e2 : j < i
                      · rw [if_pos e2, if_pos (by omega)]
                      · rw [if_neg e2, if_neg (by omega)]
                refine pk_le (36 * t + 36) i (fun h => by omega) (fun _ => ⟨v108, v108, fun h => ⟨v108, st _ ?_⟩, fun h => ⟨v108, st 1000000 ?_⟩⟩)
                · unfold growN; omega
                · unfold growN; omega
          refine ⟨fun h => b96 _ (Or.inl ⟨rfl, fun z hz2 => ?_⟩), fun h => b96 _ (Or.inr ⟨nI_pos' (by omega), ?_⟩)⟩
          · by_cases q : z = y
            · rw [q]; exact ab.mp h
            · exact hz z (by omega)
          · have aby : abN N g t y := Classical.not_not.mp (fun z => h (ab.mpr z))
            rcases hv with ⟨y', a, b, c, rfl⟩ | ⟨a, _⟩
            · have : y' = y := by
                rcases Nat.lt_trichotomy y' y with q | q | q
                · exact absurd b (hz y' q)
                · exact q
                · exact absurd aby (c y q)
              rw [this]
            · exact absurd aby (a y hy)
      · refine ⟨fun _ => hk1 s hk' h18' fun i hi hn => ?_, fun h => absurd h0 h⟩
        rw [h7' i hi]
        unfold ldN
        rw [if_neg hn]
  refine pk_loop (fun fu i s => w_X9_year_26 fu (nI t) (nI g) (nI i) s Q K2) (fun i s => kV σ s ∧ (∀ j, j < i → s.1 18 j = nI (N 7 (36 * t + j))) ∧ (∀ j, j < 108 → s.1 7 j = nI (N 7 j))) 36 0 σ (by omega) ⟨⟨fun _ _ _ _ _ _ => rfl, fun _ _ _ _ => rfl⟩, fun j h => by omega, hM.2.2.2.1⟩ ?_ ?_
  · rintro fu s ⟨hk, h18, h7⟩
    rw [w_X9_year_26]
    exact pk_le 36 36 (fun _ => hk2 s hk h18 h7) (fun h => by omega)
  · rintro fu i s hi ⟨hk, h18, h7⟩ hnext
    have ix : (36 : Int32) * nI t + nI i = nI (36 * t + i) := by rw [show (36 : Int32) = nI 36 from rfl, pk_mul, nI_add]
    rw [w_X9_year_26, ix, nI_clamp (n := i) (by omega), nI_clamp (n := 36 * t + i) (by omega), h7 _ (by omega), nI_1 i]
    refine pk_le 36 i (fun h => by omega) (fun _ => ⟨vp_in_nI (by omega) (by decide), vp_in_nI hi (by decide), hnext _ ⟨hk.wi (Or.inr rfl), fun j hj => ?_, fun j hj => ?_⟩⟩)
    · rw [ds_wi_1]
      by_cases q : j = i
      · rw [if_pos ⟨rfl, q⟩, q]
      · rw [if_neg (fun z => q z.2)]; exact h18 j (by omega)
    · rw [ds_wi_1, if_neg (by omega)]; exact h7 j hj
theorem pub_year (a b : Int32) : Pub mt_X8_year mt_X9_year [.int a, .int b] := by
  intro σC σM ⟨N, hN, hC, hM⟩
  have hB : Both σC σM := ⟨N, hN, hC, hM⟩
  have bt : q_bx a 3 = q_rng a 0 3 := q_bx_rng (n := 3) (by decide) a
  rcases rc0 (hi := 3) (by decide) a with h1 | ⟨h1, t, ht, rfl⟩
  · refine e_X8_year a b σC _ ⟨fun h => absurd h1 h, fun _ => ?_⟩
    exact e_X9_year a b σM _ ⟨fun h => absurd (by rw [bt]; exact h1) h, fun _ => ⟨rfl, hB⟩⟩
  have x1 : ¬ q_rng (nI t) 0 3 = 0 := by rw [show q_rng (nI t) 0 3 = 1 from h1]; decide
  have x2 : ¬ q_bx (nI t) 3 = 0 := by rw [bt]; exact x1
  rcases rcl 1 101 (by decide) (by decide) b with h2 | ⟨h2, g, hg1, hg2, rfl⟩
  · have hM' : ds_E mt_X9_year Ym [.ref 0, .int (nI t), .int b] σM (fun r' σM' => r' = some (.int (-2)) ∧ Both σC σM') := e_X9_year (nI t) b σM _ ⟨fun _ => ⟨fun h => absurd (by rw [q_in_1_100]; exact h2) h, fun _ => ⟨rfl, hB⟩⟩, fun h => absurd h x2⟩
    have nd := q_rng_0.mp (show q_rng b 1 101 = 0 from h2)
    refine e_X8_year (nI t) b σC _ ⟨fun _ => ⟨fun _ => hM', fun k1 => ⟨fun k2 => absurd ⟨nlt32.mp k1, ?_⟩ nd, fun _ => hM'⟩⟩, fun h => absurd h x1⟩
    have e1 : (100 : Int32).toInt = 100 := rfl
    have e2 : (101 : Int32).toInt = 101 := rfl
    rw [fa_le, e1] at k2
    rw [fa_lt, e2]
    omega
  have x3 : ¬ nI g < (1 : Int32) := nI_nlt (a := g) (b := 1) hg1 (by omega)
  have x4 : nI g ≤ (100 : Int32) := nI_le (b := 100) (by omega) (by decide)
  have x5 : ¬ q_in (nI g).toInt64 1 100 = 0 := by rw [q_in_1_100, show q_rng (nI g) 1 101 = 1 from h2]; decide
  refine e_X8_year (nI t) (nI g) σC _ ⟨fun _ => ⟨fun h => absurd h x3, fun _ => ⟨fun _ => year_C hN hC ht (by omega) fun v s hs hv => ?_, fun h => absurd x4 h⟩⟩, fun h => absurd h x1⟩
  refine e_X9_year (nI t) (nI g) σM _ ⟨fun _ => ⟨fun _ => year_M hN hM ht hg1 (by omega) hv fun s' hs' => ⟨rfl, N, hN, hs, hs'⟩, fun h => absurd h x5⟩, fun h => absurd h x2⟩
