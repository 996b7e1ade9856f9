/-! the reference: off, value -/
def kR7 (σ s : ds_S) : Prop := (∀ c k, c ≠ 9 → c ≠ 16 → c ≠ 17 → s.1 c k = σ.1 c k) ∧ s.2 = σ.2
theorem kR7.refl (σ : ds_S) : kR7 σ σ := ⟨fun _ _ _ _ _ => rfl, rfl⟩
theorem kR7.r {σ s s' : ds_S} (h : kR7 σ s) (h2 : kR s s') : kR7 σ s' := ⟨fun c k a b d => (h2.1 c k a b).trans (h.1 c k a b d), h2.2.trans h.2⟩
theorem kR7.wi {σ s : ds_S} {k : Nat} {x : Int32} (h : kR7 σ s) : kR7 σ (ds_wi s 17 k x) := ⟨fun c j a b d => by rw [ds_wi_1, if_neg (by omega)]; exact h.1 c j a b d, h.2⟩
theorem kR7.sm {N : Nt} {w x : Nat → Nat} {mo : Nat} {σ s : ds_S} (hk : kR7 σ s) (h : SM N w mo x σ) : SM N w mo x s := h.r fun c k hc => hk.1 c k (by omega) (by omega) (by omega)
theorem RepM.n {N : Nt} {σ s : ds_S} (h : RepM N σ) (hk : kR7 σ s) : RepM N s := by
  obtain ⟨m0, m7, ml, mld, m9, mS, mm, msk⟩ := h
  have k : ∀ c j, c < 9 → s.1 c j = σ.1 c j := fun c j hc => hk.1 c j (by omega) (by omega) (by omega)
  refine ⟨?_, ?_, fun l hl => ?_, fun i hi => ?_, ?_, ?_, ?_, fun hs => ?_⟩
  · rw [k 0 0 (by omega)]; exact m0
  · rw [k 0 7 (by omega)]; exact m7
  · rw [k 1 l (by omega), k 2 l (by omega), k 3 l (by omega), k 4 l (by omega), k 5 l (by omega), k 6 l (by omega)]; exact ml l hl
  · rw [k 7 i (by omega)]; exact mld i hi
  · rw [k 0 9 (by omega)]; exact m9
  · rw [k 0 10 (by omega)]; exact mS
  · rw [k 0 13 (by omega)]; exact mm
  · obtain ⟨a, b, c⟩ := msk hs
    refine ⟨fun l hl => ?_, ?_, ?_⟩
    · rw [k 8 l (by omega)]; exact a l hl
    · rw [hk.2]; exact b
    · rw [hk.2]; exact c
theorem ev_findOff {N : Nt} (hN : Nok N) {σ : ds_S} (hS : SM N (N 4) 99 (N 7) σ) {l g : Nat} (hl : l < N 0 7) (hg1 : 1 ≤ g) (hg : g ≤ 20) {K : ds_S → Prop} (hK : ∀ s, kR7 σ s → dA (okN N l) g 1000000 20 (s.1 17) → K s) : ds_EV mt_X9_findOff Ym [.ref 0, .int (nI l), .int (nI g)] σ K := by
  refine e_X9_findOff (nI l) (nI g) σ _ ?_
  generalize hQ : (fun r σ' => r = none ∧ K σ') = Q
  have hq : ∀ s, K s → Q none s := fun s h => by rw [← hQ]; exact ⟨rfl, h⟩
  clear hQ
  unfold w_X9_findOff
  generalize hK1 : (fun (v1_1 : Int32) σ1 => ∃ n, w_X9_findOff_33 n v1_1 (0 : Int32) σ1 Q) = K1
  refine pk_loop (fun fu v s => w_X9_findOff_2 fu (nI l) (nI g) (nI v) s Q K1) (fun v s => kR7 σ s ∧ ∀ u, u < v → s.1 17 u = nI (if u = g then 0 else 1000000)) 21 0 σ (by omega) ⟨kR7.refl _, fun u h => by omega⟩ ?_ ?_
  · rintro fu s ⟨hk, h17⟩
    rw [w_X9_findOff_2]
    refine pk_le 21 21 (fun _ => ?_) (fun h => by omega)
    rw [← hK1]
    have d0 : dA (okN N l) g 1000000 0 (s.1 17) := dA_0 (by rw [h17 g (by omega), if_pos rfl]) fun v v1 v2 hv => by rw [h17 v (by omega), if_neg hv]; rfl
    refine pk_loop (fun fu n s => w_X9_findOff_33 fu (nI l) (nI n) s Q) (fun n s => kR7 σ s ∧ dA (okN N l) g 1000000 n (s.1 17)) 20 0 s (by omega) ⟨hk, d0⟩ ?_ ?_
    · rintro fu s ⟨g1, g2⟩
      rw [w_X9_findOff_33]
      exact pk_le 20 20 (fun _ => hq _ (hK s g1 g2)) (fun h => by omega)
    · rintro fu n s hn ⟨g1, g2⟩ hnext
      rw [w_X9_findOff_33]
      refine pk_le 20 n (fun h => by omega) (fun _ => ?_)
      generalize hKK : (fun (v1_1 v3_1 : Int32) σ1 => w_X9_findOff_33 fu v1_1 (v3_1 + (1 : Int32)) σ1 Q) = KK
      have hkk : ∀ s', kR7 σ s' → dA (okN N l) g 1000000 (n + 1) (s'.1 17) → KK (nI l) (nI n) s' := fun s' a b => by
        rw [← hKK]
        show w_X9_findOff_33 fu (nI l) (nI n + 1) s' Q
        rw [nI_1]
        exact hnext s' ⟨a, b⟩
      clear hKK hnext
      refine pk_loop (fun fu p s => w_X9_findOff_42 fu (nI l) (nI n) (nI p) s Q KK) (fun p s => 1 ≤ p ∧ kR7 σ s ∧ dM (okN N l) g 1000000 n (fun v => ∃ u, 1 ≤ u ∧ u < p ∧ Ex (okN N l) g n u ∧ okN N l u v) (s.1 17)) 21 1 s (by omega) ⟨Nat.le_refl _, g1, dM_cong (fun v _ _ => ⟨fun z => z.elim, fun ⟨u, a, b, _⟩ => by omega⟩) (dA_M g2)⟩ ?_ ?_
      · rintro fu s3 ⟨-, y1, y3⟩
        rw [w_X9_findOff_42]
        exact pk_le 21 21 (fun _ => hkk s3 y1 (dM_A (dM_cong (fun v _ _ => ⟨fun ⟨u, a, b, d⟩ => ⟨u, a, by omega, d⟩, fun ⟨u, a, b, d⟩ => ⟨u, a, by omega, d⟩⟩) y3))) (fun h => by omega)
      · rintro fu p s3 hp ⟨hp1, y1, y3⟩ hnext
        rw [w_X9_findOff_42]
        refine pk_le 21 p (fun h => by omega) (fun _ => ?_)
        generalize hKK2 : (fun (v1_1 v3_1 v4_1 : Int32) σ1 => w_X9_findOff_42 fu v1_1 v3_1 (v4_1 + (1 : Int32)) σ1 Q KK) = KK2
        have hkk2 : ∀ s', kR7 σ s' → dM (okN N l) g 1000000 n (fun v => ∃ u, 1 ≤ u ∧ u < p + 1 ∧ Ex (okN N l) g n u ∧ okN N l u v) (s'.1 17) → KK2 (nI l) (nI n) (nI p) s' := fun s' a b => by
          rw [← hKK2]
          show w_X9_findOff_42 fu (nI l) (nI n) (nI p + 1) s' Q KK
          rw [nI_1]
          exact hnext s' ⟨by omega, a, b⟩
        clear hKK2 hnext
        have lv := dM_lv Fok1 (by omega) y3 (v := p) hp1 (by omega) (Nat.le_refl n)
        by_cases hE : Ex (okN N l) g n p
        · refine pk_loop (fun fu x s => w_X9_findOff_52 fu (nI l) (nI n) (nI p) (nI x) s Q KK2) (fun x s => 1 ≤ x ∧ kR7 σ s ∧ dM (okN N l) g 1000000 n (fun v => (∃ u, 1 ≤ u ∧ u < p ∧ Ex (okN N l) g n u ∧ okN N l u v) ∨ (v < x ∧ okN N l p v)) (s.1 17)) 21 1 s3 (by omega) ⟨Nat.le_refl _, y1, dM_cong (fun v v1 v2 => ⟨Or.inl, fun z => by rcases z with z | z; exact z; omega⟩) y3⟩ ?_ ?_
          · rintro fu s ⟨-, h1, h3⟩
            rw [w_X9_findOff_52]
            refine pk_le 21 21 (fun _ => hkk2 s h1 (dM_cong (fun v v1 v2 => ?_) h3)) (fun h => by omega)
            constructor
            · rintro (⟨u, a, b, d⟩ | z)
              · exact ⟨u, a, by omega, d⟩
              · exact ⟨p, hp1, by omega, hE, z.2⟩
            · rintro ⟨u, a, b, d, e⟩
              by_cases q : u = p
              · rw [q] at e; exact Or.inr ⟨by omega, e⟩
              · exact Or.inl ⟨u, a, by omega, d, e⟩
          · rintro fu x s hx ⟨hx1, h1, h3⟩ hnext
            rw [w_X9_findOff_52, nI_clamp (n := x) (by omega), nI_clamp (n := p) (by omega), nI_1 x, nI_1 n]
            have vx : vp_in (nI x) 21 := vp_in_nI (by omega) (by decide)
            have vp : vp_in (nI p) 21 := vp_in_nI (by omega) (by decide)
            have far := dM_far Fok1 (by omega) h3 (v := x) hx1 (by omega)
            have ep : s.1 17 p = nI n := (dM_lv Fok1 (by omega) h3 hp1 (by omega) (Nat.le_refl _)).mpr hE
            refine pk_le 21 x (fun h => by omega) (fun _ => ⟨vp, fun hne => absurd ep hne, fun _ => ⟨vx, fun hf => hnext s ⟨by omega, h1, ?_⟩, fun hf => ev_ringOf hN (h1.sm hS) hl hx1 (by omega) hp1 (by omega) fun r s' hk' hr => ?_⟩⟩)
            · intro v v1 v2
              by_cases e : v = x
              · subst e
                obtain ⟨a, b, c⟩ := h3 v v1 v2
                refine ⟨a, fun hw _ => ?_, fun hw hs => c hw fun z => hs (by rcases z with z | z; exact Or.inl z; omega)⟩
                have hs := Classical.not_not.mp fun z => hf (far.mpr ⟨hw, z⟩)
                exact b hw hs
              · obtain ⟨a, b, c⟩ := h3 v v1 v2
                exact ⟨a, fun hw hs => b hw (by rcases hs with hs | hs; exact Or.inl hs; exact Or.inr ⟨by omega, hs.2⟩), fun hw hs => c hw fun z => hs (by rcases z with z | z; exact Or.inl z; exact Or.inr ⟨by omega, z.2⟩)⟩
            · obtain ⟨-, r0⟩ := RF_ok hN hr
              have e17 : s'.1 17 = s.1 17 := by funext k; exact hk'.1 17 k (by decide) (by decide)
              have h3' : dM (okN N l) g 1000000 n (fun v => (∃ u, 1 ≤ u ∧ u < p ∧ Ex (okN N l) g n u ∧ okN N l u v) ∨ (v < x ∧ okN N l p v)) (s'.1 17) := by rw [e17]; exact h3
              refine ⟨fun hge => hnext s' ⟨by omega, h1.r hk', dM_cong (fun v v1 v2 => ?_) h3'⟩, fun hlt => ⟨vx, hnext _ ⟨by omega, (h1.r hk').wi, ?_⟩⟩⟩
              · have hno : ¬ okN N l p x := fun z => r0.mp hge (okN_comm.mp z)
                constructor
                · rintro (z | z)
                  · exact Or.inl z
                  · exact Or.inr ⟨by omega, z.2⟩
                · rintro (z | ⟨z1, z2⟩)
                  · exact Or.inl z
                  · by_cases e : v = x
                    · rw [e] at z2; exact absurd z2 hno
                    · exact Or.inr ⟨by omega, z2⟩
              · have hok : okN N l p x := okN_comm.mp (Classical.not_not.mp fun z => hlt (r0.mpr z))
                have hw := (far.mp hf).1
                refine dM_cong (fun v v1 v2 => ?_) (dM_up h3' hw (by rw [ds_wi_1, if_pos ⟨rfl, rfl⟩]) (fun v hv => by rw [ds_wi_1, if_neg (by omega)]))
                constructor
                · rintro ((z | z) | z)
                  · exact Or.inl z
                  · exact Or.inr ⟨by omega, z.2⟩
                  · rw [z]; exact Or.inr ⟨by omega, hok⟩
                · rintro (z | ⟨z1, z2⟩)
                  · exact Or.inl (Or.inl z)
                  · by_cases e : v = x
                    · exact Or.inr e
                    · exact Or.inl (Or.inr ⟨by omega, z2⟩)
        · refine ⟨1, ?_⟩
          rw [w_X9_findOff_52, nI_clamp (n := p) (by omega)]
          have fin := hkk2 s3 y1 (dM_cong (fun v _ _ => ⟨fun ⟨u, a, b, d⟩ => ⟨u, a, by omega, d⟩, fun ⟨u, a, b, d⟩ => ⟨u, a, by
            by_cases e : u = p
            · rw [e] at d; exact absurd d.1 hE
            · omega, d⟩⟩) y3)
          exact ⟨fun _ => fin, fun _ => ⟨vp_in_nI (by omega) (by decide), fun _ => fin, fun he => absurd (lv.mp he) hE⟩⟩
  · rintro fu v s hv ⟨hk, h17⟩ hnext
    rw [w_X9_findOff_2, nI_clamp (n := v) (by omega), nI_1]
    have st : ∀ q, q = (if v = g then 0 else 1000000) → w_X9_findOff_2 fu (nI l) (nI g) (nI (v + 1)) (ds_wi s 17 v (nI q)) Q K1 := by
      intro q hq'
      refine hnext _ ⟨hk.wi, fun u hu => ?_⟩
      rw [ds_wi_1]
      by_cases e : u = v
      · rw [if_pos ⟨rfl, e⟩, e, hq']
      · rw [if_neg (fun z => e z.2)]; exact h17 u (by omega)
    exact pk_le 21 v (fun h => by omega) (fun _ => pk_ne v g (fun h => ⟨vp_in_nI hv (by decide), st 1000000 (by rw [if_neg h])⟩) (fun h => ⟨vp_in_nI hv (by decide), st 0 (by rw [if_pos h])⟩))
theorem value_M {N : Nt} (hN : Nok N) {σ : ds_S} (hS : SM N (N 4) 99 (N 7) σ) {l g c i now : Nat} (hl : l < N 0 7) (hd : dA (okN N l) g 1000000 20 (σ.1 17)) (hc : c ≤ 20) (hi : i < c) (hE : Ex (okN N l) g c now) (hn1 : 1 ≤ now) (hn2 : now ≤ 20) {Q : Option Value → ds_S → Prop} (hQ : ∀ v s, kR σ s → PT (okN N l) g c now (i + 1) v → Q (some (.int (nI v))) s) : ∃ n, w_X9_value_67 n (nI l) (nI i) (nI now) (0 : Int32) σ Q := by
  refine pk_loop (σ := Int32 × ds_S) (fun fu s u => w_X9_value_67 fu (nI l) (nI i) u.1 (nI s) u.2 Q) (fun s u => kR σ u.2 ∧ ∃ v, u.1 = nI v ∧ PT (okN N l) g c now s v) (i + 1) 0 (nI now, σ) (by omega) ⟨kR.refl _, now, rfl, rfl⟩ ?_ ?_
  · rintro fu ⟨v5, s⟩ ⟨hk, v, hv, hp⟩
    have hv' : v5 = nI v := hv
    show w_X9_value_67 (fu + 1) (nI l) (nI i) v5 (nI (i + 1)) s Q
    rw [w_X9_value_67, hv']
    exact ⟨fun _ => hQ v s hk hp, fun h => absurd (nI_lt (by omega) (by omega)) h⟩
  · rintro fu st ⟨v5, s⟩ hst ⟨hk, a, hv, hp⟩ hnext
    have hv' : v5 = nI a := hv
    have hk' : kR σ s := hk
    show w_X9_value_67 (fu + 1) (nI l) (nI i) v5 (nI st) s Q
    rw [w_X9_value_67, hv']
    have ha := PT_rg hn1 hn2 hp
    have hEa := PT_ex hE hp (by omega)
    refine ⟨fun h => absurd h (nI_nlt (by omega) (by omega)), fun _ => ?_⟩
    generalize hKK : (fun (v1_1 v3_1 v6_1 v7_1 : Int32) σ1 => w_X9_value_67 fu v1_1 v3_1 v7_1 (v6_1 + (1 : Int32)) σ1 Q) = KK
    have hkk : ∀ s' v, kR σ s' → NX (okN N l) g (c - st) a v → KK (nI l) (nI i) (nI st) (nI v) s' := fun s' v h1 h2 => by
      rw [← hKK]
      show w_X9_value_67 fu (nI l) (nI i) (nI v) (nI st + 1) s' Q
      rw [nI_1]
      exact hnext (_, s') ⟨h1, v, rfl, a, hp, h2⟩
    clear hKK hnext
    refine ⟨20 + 1, pk_loopD (σ := Int32 × ds_S) (fun fu x u => w_X9_value_80 fu (nI l) (nI i) (nI a) (nI st) u.1 (nI x) u.2 Q KK) (fun x u => x ≤ 20 ∧ kR σ u.2 ∧ ((u.1 = 0 ∧ ∀ v, x < v → v ≤ 20 → ¬ (Ex (okN N l) g (c - st - 1) v ∧ okN N l a v)) ∨ ∃ v, u.1 = nI v ∧ x < v ∧ v ≤ 20 ∧ Ex (okN N l) g (c - st - 1) v ∧ okN N l a v ∧ ∀ v', x < v' → v' < v → ¬ (Ex (okN N l) g (c - st - 1) v' ∧ okN N l a v'))) ?_ ?_ 20 (0, s) ⟨Nat.le_refl _, hk', Or.inl ⟨rfl, fun v h1 h2 => by omega⟩⟩⟩
    · rintro fu ⟨v7, s'⟩ ⟨-, h1, h2⟩
      have h2' : (v7 = 0 ∧ ∀ v, 0 < v → v ≤ 20 → ¬ (Ex (okN N l) g (c - st - 1) v ∧ okN N l a v)) ∨ ∃ v, v7 = nI v ∧ 0 < v ∧ v ≤ 20 ∧ Ex (okN N l) g (c - st - 1) v ∧ okN N l a v ∧ ∀ v', 0 < v' → v' < v → ¬ (Ex (okN N l) g (c - st - 1) v' ∧ okN N l a v') := h2
      show w_X9_value_80 (fu + 1) (nI l) (nI i) (nI a) (nI st) v7 (nI 0) s' Q KK
      rw [w_X9_value_80]
      refine ⟨fun _ => ?_, fun h => absurd (by decide) h⟩
      rcases h2' with ⟨_, h⟩ | ⟨v, rfl, y1, y2, y3, y4, y5⟩
      · exfalso
        obtain ⟨v, v1, v2, v3, v4⟩ := NX_ex (ok := okN N l) (fun u v z => okN_comm.mp z) (show 1 ≤ c - st by omega) hEa
        exact h v (by omega) v2 ⟨v3, v4⟩
      · exact hkk s' v h1 ⟨⟨y1, y2, y3, y4⟩, fun v' z1 z2 => y5 v' (by omega) z2⟩
    · rintro fu x ⟨v7, s'⟩ ⟨hx, h1, h2⟩ hnext
      have h1' : kR σ s' := h1
      have h2' : (v7 = 0 ∧ ∀ v, x + 1 < v → v ≤ 20 → ¬ (Ex (okN N l) g (c - st - 1) v ∧ okN N l a v)) ∨ ∃ v, v7 = nI v ∧ x + 1 < v ∧ v ≤ 20 ∧ Ex (okN N l) g (c - st - 1) v ∧ okN N l a v ∧ ∀ v', x + 1 < v' → v' < v → ¬ (Ex (okN N l) g (c - st - 1) v' ∧ okN N l a v') := h2
      have hds : dA (okN N l) g 1000000 20 (s'.1 17) := by
        have : s'.1 17 = σ.1 17 := by funext k; exact h1'.1 17 k (by decide) (by decide)
        rw [this]; exact hd
      have ea : s'.1 17 a = nI (c - st) := (dM_lv Fok1 (by omega) (dA_M hds) ha.1 ha.2 (by omega)).mpr hEa
      have ek : nI (c - st) - 1 = nI (c - st - 1) := by
        obtain ⟨j, hj⟩ : ∃ j, c - st = j + 1 := ⟨c - st - 1, by omega⟩
        rw [hj]; exact nI_pred j
      have lv := dM_lv Fok1 (by omega) (dA_M hds) (v := x + 1) (by omega) (by omega) (show c - st - 1 ≤ 20 by omega)
      show w_X9_value_80 (fu + 1) (nI l) (nI i) (nI a) (nI st) v7 (nI (x + 1)) s' Q KK
      rw [w_X9_value_80, nI_clamp (n := x + 1) (by omega), nI_clamp (n := a) (by omega), ea, ek, pk_m1]
      have stay : ∀ s2, kR σ s2 → ¬ (Ex (okN N l) g (c - st - 1) (x + 1) ∧ okN N l a (x + 1)) → w_X9_value_80 fu (nI l) (nI i) (nI a) (nI st) v7 (nI x) s2 Q KK := by
        intro s2 k2 hn
        refine hnext (v7, s2) ⟨by omega, k2, ?_⟩
        rcases h2' with ⟨e, h⟩ | ⟨v, e, y1, y2, y3, y4, y5⟩
        · refine Or.inl ⟨e, fun v z1 z2 => ?_⟩
          by_cases q : v = x + 1
          · rw [q]; exact hn
          · exact h v (by omega) z2
        · refine Or.inr ⟨v, e, by omega, y2, y3, y4, fun v' z1 z2 => ?_⟩
          by_cases q : v' = x + 1
          · rw [q]; exact hn
          · exact y5 v' (by omega) z2
      have hsm' : SM N (N 4) 99 (N 7) s' := hS.r fun c k hc => h1'.1 c k (by omega) (by omega)
      refine ⟨fun h => absurd h (nI_nle (by omega) (by omega)), fun _ => ⟨vp_in_nI (by omega) (by decide), vp_in_nI (by omega) (by decide), fun hne => stay s' h1' fun z => hne (lv.mpr z.1), fun he => ev_ringOf hN hsm' hl ha.1 ha.2 (by omega) (by omega) fun r s2 hk2 hr => ?_⟩⟩
      obtain ⟨-, r0⟩ := RF_ok hN hr
      refine ⟨fun hge => stay s2 (h1'.trans hk2) fun z => r0.mp hge z.2, fun hlt => hnext (_, s2) ⟨by omega, h1'.trans hk2, Or.inr ⟨x + 1, rfl, by omega, by omega, lv.mp he, Classical.not_not.mp fun z => hlt (r0.mpr z), fun v' z1 z2 => by omega⟩⟩⟩
