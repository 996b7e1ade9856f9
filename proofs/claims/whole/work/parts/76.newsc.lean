/-! the class: measure, count, value -/
def kN9 (σ s : ds_S) : Prop := (∀ c, ¬ (20 ≤ c ∧ c < 56) → c ≠ 57 → c ≠ 58 → c ≠ 59 → s.1 c = σ.1 c) ∧ s.2 = σ.2
theorem RepC.n {N : Nt} {σ s : ds_S} (h : RepC N σ) (hk : kN9 σ s) : RepC N s := by
  obtain ⟨c0, c1, cl, c6, c7, cld, c12, c14, csk⟩ := h
  refine ⟨?_, ?_, fun l hl => ?_, ?_, ?_, fun t i ht hi => ?_, ?_, ?_, fun hs => ?_⟩
  · rw [hk.1 1 (by omega) (by omega) (by omega) (by omega)]; exact c0
  · rw [hk.1 1 (by omega) (by omega) (by omega) (by omega)]; exact c1
  · rw [hk.1 61 (by omega) (by omega) (by omega) (by omega), hk.1 62 (by omega) (by omega) (by omega) (by omega), hk.1 63 (by omega) (by omega) (by omega) (by omega), hk.1 64 (by omega) (by omega) (by omega) (by omega)]; exact cl l hl
  · rw [hk.1 1 (by omega) (by omega) (by omega) (by omega)]; exact c6
  · rw [hk.1 1 (by omega) (by omega) (by omega) (by omega)]; exact c7
  · rw [hk.1 (3 + t) (by omega) (by omega) (by omega) (by omega)]; exact cld t i ht hi
  · rw [hk.1 12 (by omega) (by omega) (by omega) (by omega)]; exact c12
  · rw [hk.1 14 (by omega) (by omega) (by omega) (by omega)]; exact c14
  · obtain ⟨a, b, o, r, c, d, e⟩ := csk hs
    refine ⟨fun l hl => ?_, ?_, o, r, ?_, ?_, e⟩
    · rw [hk.1 15 (by omega) (by omega) (by omega) (by omega)]; exact a l hl
    · rw [hk.1 14 (by omega) (by omega) (by omega) (by omega)]; exact b
    · rw [hk.2]; exact c
    · rw [hk.1 16 (by omega) (by omega) (by omega) (by omega)]; exact d
theorem kN.n9 {σ s : ds_S} (h : kN σ s) : kN9 σ s := ⟨fun c a b d _ => h.1 c a b d, h.2⟩
theorem ev_meetFrom {N : Nt} (hN : Nok N) {σ : ds_S} (h0 : σ.1 1 0 = nI (N 0 0)) {l g n p : Nat} (hn20 : n < 20) (hp1 : 1 ≤ p) (hp : p ≤ 20) (hL : ∀ v, 1 ≤ v → v ≤ 20 → lsN N l v σ) (hE : Ex (okN N l) g n p) {S : Nat → Prop} (hM : dM (okN N l) g (-6) n S (σ.1 59)) {K : ds_S → Prop} (hK : ∀ s, (∀ c, c ≠ 59 → s.1 c = σ.1 c) → s.2 = σ.2 → dM (okN N l) g (-6) n (fun v => S v ∨ okN N l p v) (s.1 59) → K s) : ds_EV mt_X2_meetFrom Yc [.ref 56, .int (nI p)] σ K := by
  refine e_X2_meetFrom (nI p) σ _ ?_
  generalize hQ : (fun r σ' => r = none ∧ K σ') = Q
  have hq : ∀ s, K s → Q none s := fun s h => by rw [← hQ]; exact ⟨rfl, h⟩
  clear hQ
  unfold w_X2_meetFrom
  refine pk_loop (fun fu x s => w_X2_meetFrom_2 fu (nI p) (nI x) s Q) (fun x s => 1 ≤ x ∧ (∀ c, c ≠ 59 → s.1 c = σ.1 c) ∧ s.2 = σ.2 ∧ dM (okN N l) g (-6) n (fun v => S v ∨ (v < x ∧ okN N l p v)) (s.1 59)) 21 1 σ (by omega) ⟨Nat.le_refl _, fun _ _ => rfl, rfl, dM_cong (fun v h1 h2 => ⟨Or.inl, fun z => by rcases z with z | z; exact z; omega⟩) hM⟩ ?_ ?_
  · rintro fu s ⟨-, h1, h2, h3⟩
    rw [w_X2_meetFrom_2]
    exact ⟨fun _ => hq _ (hK s h1 h2 (dM_cong (fun v v1 v2 => ⟨fun z => z.imp id And.right, fun z => z.imp id fun y => ⟨by omega, y⟩⟩) h3)), fun h => absurd (by decide) h⟩
  · rintro fu x s hx ⟨hx1, h1, h2, h3⟩ hnext
    rw [w_X2_meetFrom_2, nI_clamp (n := x) (by omega), nI_1]
    have vx : vp_in (nI x) 21 := vp_in_nI (by omega) (by decide)
    have vp : vp_in (nI p) 21 := vp_in_nI (by omega) (by decide)
    have far := dM_far Fok2 (by omega) h3 (v := x) hx1 (by omega)
    have hLs : ∀ v, 1 ≤ v → v ≤ 20 → lsN N l v s := fun v v1 v2 => by
      unfold lsN
      rw [h1 58 (by decide)]
      exact hL v v1 v2
    have go : ∀ s', (∀ c, c ≠ 59 → s'.1 c = σ.1 c) → s'.2 = σ.2 → dM (okN N l) g (-6) n (fun v => S v ∨ (v < x + 1 ∧ okN N l p v)) (s'.1 59) → w_X2_meetFrom_2 fu (nI p) (nI (x + 1)) s' Q := fun s' a b c => hnext s' ⟨by omega, a, b, c⟩
    refine ⟨fun h => absurd h (nI_nlt (a := 20) (by omega) (by decide)), fun _ => ⟨vx, fun hf => go s h1 h2 ?_, fun hf => ev_leastRing hN (by rw [h1 1 (by decide)]; exact h0) hp1 hp hx1 (by omega) (hLs p hp1 hp) (hLs x hx1 (by omega)) fun r hr => ?_⟩⟩
    · intro v v1 v2
      by_cases e : v = x
      · subst e
        obtain ⟨a, b, c⟩ := h3 v v1 v2
        refine ⟨a, fun hw _ => ?_, fun hw hs => c hw fun z => hs (by rcases z with z | z; exact Or.inl z; omega)⟩
        have hs : (S v ∨ (v < v ∧ okN N l p v)) := Classical.not_not.mp fun z => hf (far.mpr ⟨hw, z⟩)
        exact b hw hs
      · obtain ⟨a, b, c⟩ := h3 v v1 v2
        exact ⟨a, fun hw hs => b hw (by rcases hs with hs | hs; exact Or.inl hs; exact Or.inr ⟨by omega, hs.2⟩), fun hw hs => c hw fun z => hs (by rcases z with z | z; exact Or.inl z; exact Or.inr ⟨by omega, z.2⟩)⟩
    · obtain ⟨r6, -⟩ := RF_ok hN hr
      refine ⟨fun hne => go s h1 h2 (dM_cong (fun v v1 v2 => ?_) h3), fun he => ⟨vp, vx, ?_⟩⟩
      · have hno : ¬ okN N l p x := fun z => hne (r6.mpr z)
        constructor
        · rintro (z | z)
          · exact Or.inl z
          · exact Or.inr ⟨by omega, z.2⟩
        · rintro (z | ⟨z1, z2⟩)
          · exact Or.inl z
          · by_cases e : v = x
            · rw [e] at z2; exact absurd z2 hno
            · exact Or.inr ⟨by omega, z2⟩
      · have hok := r6.mp he
        have hw := (far.mp hf).1
        have ep : s.1 59 p = nI n := (dM_lv Fok2 (by omega) h3 hp1 hp (Nat.le_refl _)).mpr hE
        rw [nI_clamp (n := p) (by omega), ep, nI_1]
        refine go _ (fun c hc => (show (ds_wi s 59 x _).1 c = s.1 c from if_neg hc).trans (h1 c hc)) h2 (dM_cong (fun v v1 v2 => ?_) (dM_up h3 hw (by rw [ds_wi_1, if_pos ⟨rfl, rfl⟩]) (fun v hv => by rw [ds_wi_1, if_neg (by omega)])))
        constructor
        · rintro ((z | z) | z)
          · exact Or.inl z
          · exact Or.inr ⟨by omega, z.2⟩
          · rw [z]; exact Or.inr ⟨by omega, hok⟩
        · rintro (z | ⟨z1, z2⟩)
          · exact Or.inl (Or.inl z)
          · by_cases e : v = x
            · exact Or.inr e
            · exact Or.inl (Or.inr ⟨by omega, z2⟩)
theorem ev_measure {N : Nt} (hN : Nok N) {σ : ds_S} (hC : RC N σ) {l g : Nat} (hl : l < N 0 7) (hg1 : 1 ≤ g) (hg : g ≤ 20) {K : ds_S → Prop} (hK : ∀ s c, kN9 σ s → (∀ v, 1 ≤ v → v ≤ 20 → lsN N l v s) → c ≤ 20 → dA (okN N l) g (-6) c (s.1 59) → (Ex (okN N l) g c (N 4 l) ∨ (c = 20 ∧ ¬ Wk (okN N l) g 20 (N 4 l))) → K s) : ds_EV mt_X2_measure Yc [.ref 56, .int (nI l), .int (nI g)] σ K := by
  have hm := hN.2.1
  have h4 := hN.w4 l hl
  refine e_X2_measure (nI l) (nI g) σ _ ?_
  generalize hQ : (fun r σ' => r = none ∧ K σ') = Q
  have hq : ∀ s, K s → Q none s := fun s h => by rw [← hQ]; exact ⟨rfl, h⟩
  clear hQ
  unfold w_X2_measure
  generalize hK1 : (fun (v1_1 v2_1 : Int32) σ1 => ds_EV mt_J7_fill_53178 Yc [.ref 59, .int (-6 : Int32)] σ1 (fun σ2 => vp_in v2_1 21 ∧ (∃ n, w_X2_measure_38 n v1_1 (0 : Int32) (ds_wi σ2 59 v2_1.toNatClampNeg (0 : Int32)) Q))) = K1
  refine pk_loop (fun fu v s => w_X2_measure_2 fu (nI l) (nI g) (nI v) s Q K1) (fun v s => 1 ≤ v ∧ kN σ s ∧ ∀ u, 1 ≤ u → u < v → lsN N l u s) 21 1 σ (by omega) ⟨Nat.le_refl _, kN.refl _, fun u h1 h2 => by omega⟩ ?_ ?_
  · rintro fu s ⟨-, hk, hL⟩
    rw [w_X2_measure_2]
    refine ⟨fun _ => ?_, fun h => absurd (by decide) h⟩
    rw [← hK1]
    refine ev_fill ⟨by decide, rfl⟩ (by decide) ⟨vp_in_nI (by omega) (by decide), ?_⟩
    rw [nI_clamp (n := g) (by omega)]
    generalize hs1 : ds_wi (ds_si s 59 (fun k => if k < Yc.2.2.1 59 then (-6 : Int32) else s.1 59 k)) 59 g 0 = s1
    have r1 : ∀ c, c ≠ 59 → s1.1 c = s.1 c := fun c hc => by
      funext k
      rw [← hs1, ds_wi_1, if_neg (by omega), ds_si_1, if_neg hc]
    have j1 : s1.2 = s.2 := by rw [← hs1]; rfl
    have d0 : dA (okN N l) g (-6) 0 (s1.1 59) := by
      refine dA_0 ?_ fun v v1 v2 hv => ?_
      · rw [← hs1, ds_wi_1, if_pos ⟨rfl, rfl⟩]; rfl
      · rw [← hs1, ds_wi_1, if_neg (by omega), ds_si_1, if_pos rfl]
        show (if v < 21 then (-6 : Int32) else _) = -6
        rw [if_pos (by omega)]
    clear hs1
    have k9 : kN9 σ s1 := ⟨fun c a b d e => (r1 c e).trans (hk.1 c a b d), j1.trans hk.2⟩
    have hL1 : ∀ v, 1 ≤ v → v ≤ 20 → lsN N l v s1 := fun v v1 v2 => by
      unfold lsN
      rw [r1 58 (by decide)]
      exact hL v v1 (by omega)
    refine pk_loop (fun fu c s => w_X2_measure_38 fu (nI l) (nI c) s Q) (fun c s => (∀ c, c ≠ 59 → s.1 c = s1.1 c) ∧ s.2 = s1.2 ∧ dA (okN N l) g (-6) c (s.1 59) ∧ ∀ j, j < c → ¬ Wk (okN N l) g j (N 4 l)) 20 0 s1 (by omega) ⟨fun _ _ => rfl, rfl, d0, fun j h => by omega⟩ ?_ ?_
    · rintro fu s2 ⟨g1, g2, g3, g4⟩
      rw [w_X2_measure_38]
      refine ⟨fun _ => hq _ (hK s2 20 ⟨fun c a b d e => (g1 c e).trans (k9.1 c a b d e), g2.trans k9.2⟩ (fun v v1 v2 => ?_) (Nat.le_refl _) g3 ?_), fun h => absurd (by decide) h⟩
      · unfold lsN; rw [g1 58 (by decide)]; exact hL1 v v1 v2
      · by_cases e : Wk (okN N l) g 20 (N 4 l)
        · exact Or.inl ⟨e, g4⟩
        · exact Or.inr ⟨rfl, e⟩
    · rintro fu c s2 hc ⟨g1, g2, g3, g4⟩ hnext
      have hC2 : RC N s2 := hC.of fun c hc => by rw [g1 c (by omega)]; exact k9.1 c (by omega) (by omega) (by omega) (by omega)
      have e64 : s2.1 64 l = nI (N 4 l) := (hC2.2.2.1 l hl).2.2.2
      have hL2 : ∀ v, 1 ≤ v → v ≤ 20 → lsN N l v s2 := fun v v1 v2 => by unfold lsN; rw [g1 58 (by decide)]; exact hL1 v v1 v2
      rw [w_X2_measure_38, nI_clamp (n := l) (by omega), e64, nI_clamp (n := N 4 l) (by omega)]
      have far := dM_far Fok2 (by omega) (dA_M g3) (v := N 4 l) h4.1 h4.2
      refine pk_le 20 c (fun h => by omega) (fun _ => ⟨vp_in_nI (by omega) (by decide), vp_in_nI (by omega) (by decide), fun hf => hq _ (hK s2 c ⟨fun c a b d e => (g1 c e).trans (k9.1 c a b d e), g2.trans k9.2⟩ hL2 (by omega) g3 (Or.inl ⟨?_, g4⟩)), fun hf => ?_⟩)
      · exact Classical.not_not.mp fun z => hf (far.mpr ⟨z, fun y => y⟩)
      · have hnw := (far.mp hf).1
        generalize hKK : (fun (v1_1 v3_1 : Int32) σ1 => w_X2_measure_38 fu v1_1 (v3_1 + (1 : Int32)) σ1 Q) = KK
        have hkk : ∀ s', (∀ c, c ≠ 59 → s'.1 c = s1.1 c) → s'.2 = s1.2 → dA (okN N l) g (-6) (c + 1) (s'.1 59) → KK (nI l) (nI c) s' := fun s' a b d => by
          rw [← hKK]
          show w_X2_measure_38 fu (nI l) (nI c + 1) s' Q
          rw [nI_1]
          refine hnext s' ⟨a, b, d, fun j hj => ?_⟩
          by_cases e : j = c
          · rw [e]; exact hnw
          · exact g4 j (by omega)
        clear hKK hnext
        refine pk_loop (fun fu p s => w_X2_measure_66 fu (nI l) (nI c) (nI p) s Q KK) (fun p s => 1 ≤ p ∧ (∀ c, c ≠ 59 → s.1 c = s1.1 c) ∧ s.2 = s1.2 ∧ dM (okN N l) g (-6) c (fun v => ∃ u, 1 ≤ u ∧ u < p ∧ Ex (okN N l) g c u ∧ okN N l u v) (s.1 59)) 21 1 s2 (by omega) ⟨Nat.le_refl _, g1, g2, dM_cong (fun v _ _ => ⟨fun z => z.elim, fun ⟨u, a, b, _⟩ => by omega⟩) (dA_M g3)⟩ ?_ ?_
        · rintro fu s3 ⟨-, y1, y2, y3⟩
          rw [w_X2_measure_66]
          exact ⟨fun _ => hkk s3 y1 y2 (dM_A (dM_cong (fun v _ _ => ⟨fun ⟨u, a, b, d⟩ => ⟨u, a, by omega, d⟩, fun ⟨u, a, b, d⟩ => ⟨u, a, by omega, d⟩⟩) y3)), fun h => absurd (by decide) h⟩
        · rintro fu p s3 hp ⟨hp1, y1, y2, y3⟩ hnext
          rw [w_X2_measure_66, nI_clamp (n := p) (by omega), nI_1]
          have lv := dM_lv Fok2 (by omega) y3 (v := p) hp1 (by omega) (Nat.le_refl c)
          have hL3 : ∀ v, 1 ≤ v → v ≤ 20 → lsN N l v s3 := fun v v1 v2 => by unfold lsN; rw [y1 58 (by decide)]; exact hL1 v v1 v2
          have h03 : s3.1 1 0 = nI (N 0 0) := by rw [y1 1 (by decide), r1 1 (by decide)]; exact (hC.n hk).1
          refine ⟨fun h => absurd h (nI_nlt (a := 20) (by omega) (by decide)), fun _ => ⟨vp_in_nI (by omega) (by decide), fun hne => hnext s3 ⟨by omega, y1, y2, dM_cong (fun v _ _ => ?_) y3⟩, fun he => ev_meetFrom hN h03 hc hp1 (by omega) hL3 (lv.mp he) y3 fun s4 z1 z2 z3 => hnext s4 ⟨by omega, fun c hc => (z1 c hc).trans (y1 c hc), z2.trans y2, dM_cong (fun v _ _ => ?_) z3⟩⟩⟩
          · constructor
            · rintro ⟨u, a, b, d⟩; exact ⟨u, a, by omega, d⟩
            · rintro ⟨u, a, b, d⟩
              refine ⟨u, a, ?_, d⟩
              by_cases e : u = p
              · rw [e] at d; exact absurd (lv.mpr d.1) hne
              · omega
          · constructor
            · rintro (⟨u, a, b, d⟩ | z)
              · exact ⟨u, a, by omega, d⟩
              · exact ⟨p, hp1, by omega, lv.mp he, z⟩
            · rintro ⟨u, a, b, d, e⟩
              by_cases q : u = p
              · rw [q] at e; exact Or.inr e
              · exact Or.inl ⟨u, a, by omega, d, e⟩
  · rintro fu v s hv ⟨hv1, hk, hL⟩ hnext
    rw [w_X2_measure_2, nI_1]
    refine ⟨fun h => absurd h (nI_nlt (a := 20) (by omega) (by decide)), fun _ => ev_learn hN (hC.n hk) hl hv1 (by omega) fun s' hk' h1 h2 => hnext s' ⟨by omega, hk.trans hk', fun u hu1 hu2 => ?_⟩⟩
    by_cases e : u = v
    · rw [e]; exact h1
    · exact h2 u (by omega) e (hL u hu1 (by omega))
theorem ev_leastNearer {N : Nt} (hN : Nok N) {σ : ds_S} (h0 : σ.1 1 0 = nI (N 0 0)) {l g c k a : Nat} (hc : c ≤ 20) (hk1 : 1 ≤ k) (hk : k ≤ c) (ha1 : 1 ≤ a) (ha : a ≤ 20) (hL : ∀ v, 1 ≤ v → v ≤ 20 → lsN N l v σ) (hd : dA (okN N l) g (-6) c (σ.1 59)) (hE : Ex (okN N l) g k a) {K : Int32 → ds_S → Prop} (hK : ∀ v, NX (okN N l) g k a v → K (nI v) σ) : ds_EI mt_X2_leastNearer Yc [.ref 56, .int (nI a)] σ K := by
  refine e_X2_leastNearer (nI a) σ _ ?_
  generalize hQ : (fun r σ' => ∃ x, r = some (Value.int x) ∧ K x σ') = Q
  have hq : ∀ x s, K x s → Q (some (.int x)) s := fun x s h => by rw [← hQ]; exact ⟨x, rfl, h⟩
  clear hQ
  have ea : σ.1 59 a = nI k := (dM_lv Fok2 hc (dA_M hd) ha1 ha hk).mpr hE
  have ek : nI k - 1 = nI (k - 1) := by
    obtain ⟨j, rfl⟩ : ∃ j, k = j + 1 := ⟨k - 1, by omega⟩
    exact nI_pred j
  unfold w_X2_leastNearer
  refine pk_loop (σ := Unit) (fun fu v _ => w_X2_leastNearer_2 fu (nI a) (nI v) σ Q) (fun v _ => 1 ≤ v ∧ ∀ v', 1 ≤ v' → v' < v → ¬ (Ex (okN N l) g (k - 1) v' ∧ okN N l a v')) 21 1 () (by omega) ⟨Nat.le_refl _, fun v' h1 h2 => by omega⟩ ?_ ?_
  · rintro fu - ⟨-, h⟩
    exfalso
    obtain ⟨v, v1, v2, v3, v4⟩ := NX_ex (ok := okN N l) (fun u v z => okN_comm.mp z) hk1 hE
    exact h v v1 (by omega) ⟨v3, v4⟩
  · rintro fu v - hv ⟨hv1, h⟩ hnext
    show w_X2_leastNearer_2 (fu + 1) (nI a) (nI v) σ Q
    rw [w_X2_leastNearer_2, nI_clamp (n := v) (by omega), nI_clamp (n := a) (by omega), ea, ek, nI_1]
    have lv := dM_lv Fok2 hc (dA_M hd) (v := v) hv1 (by omega) (show k - 1 ≤ c by omega)
    have nx : ¬ (Ex (okN N l) g (k - 1) v ∧ okN N l a v) → w_X2_leastNearer_2 fu (nI a) (nI (v + 1)) σ Q := fun hn => hnext () ⟨by omega, fun v' h1 h2 => by
      by_cases e : v' = v
      · rw [e]; exact hn
      · exact h v' h1 (by omega)⟩
    refine ⟨fun z => absurd z (nI_nlt (a := 20) (by omega) (by decide)), fun _ => ⟨vp_in_nI (by omega) (by decide), vp_in_nI (by omega) (by decide), fun hne => nx fun z => hne (lv.mpr z.1), fun he => ev_leastRing hN h0 ha1 ha hv1 (by omega) (hL a ha1 ha) (hL v hv1 (by omega)) fun r hr => ?_⟩⟩
    obtain ⟨r6, -⟩ := RF_ok hN hr
    exact ⟨fun hne => nx fun z => hne (r6.mpr z.2), fun h6 => hq _ _ (hK v ⟨⟨hv1, by omega, lv.mp he, r6.mp h6⟩, h⟩)⟩
