/-! the class's news -/
def kN (σ s : ds_S) : Prop := (∀ c, ¬ (20 ≤ c ∧ c < 56) → c ≠ 57 → c ≠ 58 → s.1 c = σ.1 c) ∧ s.2 = σ.2
theorem kN.refl (σ : ds_S) : kN σ σ := ⟨fun _ _ _ _ => rfl, rfl⟩
theorem kN.trans {a b c : ds_S} (h : kN a b) (h2 : kN b c) : kN a c := ⟨fun x h3 h4 h5 => (h2.1 x h3 h4 h5).trans (h.1 x h3 h4 h5), h2.2.trans h.2⟩
theorem RC.n {N : Nt} {σ s : ds_S} (h : RC N σ) (hk : kN σ s) : RC N s := h.of fun c hc => hk.1 c (by omega) (by omega) (by omega)
/-- the steps at weight u, learnt -/
def lsN (N : Nt) (l u : Nat) (s : ds_S) : Prop := ∀ t b, t < N 0 0 → b < N 0 0 → ∃ A, s.1 58 (36 * u + 6 * t + b) = nI A ∧ MK A (fun x => stN N l u t b x)
theorem or3 {A x : Nat} {S : Nat → Bool} (hx : x < 6) (h : MK A S) : nI A ||| ((1 : Int32) <<< (nI x &&& 31)) = nI (A ||| 2 ^ x) ∧ MK (A ||| 2 ^ x) (fun y => S y || decide (y = x)) := by
  rw [sh_one x hx, fa_or]
  exact ⟨rfl, h.or (MK_bit hx)⟩
/-- NEXT lines up to k, as steps -/
noncomputable def stK (N : Nt) (l u t k b x : Nat) : Bool := bP (∃ j, j < k ∧ tlN N (wlN N l u) 99 t j = b ∧ hdN N (wlN N l u) 99 t j = x)
theorem stK_succ {N : Nt} {l u t k b x : Nat} : stK N l u t (k + 1) b x = (stK N l u t k b x || bP (tlN N (wlN N l u) 99 t k = b ∧ hdN N (wlN N l u) 99 t k = x)) := by
  unfold stK
  cases h : bP (∃ j, j < k + 1 ∧ tlN N (wlN N l u) 99 t j = b ∧ hdN N (wlN N l u) 99 t j = x) with
  | true =>
    obtain ⟨j, h1, h2⟩ := bP_iff.mp h
    by_cases e : j = k
    · rw [e] at h2
      rw [bP_iff.mpr h2]; simp
    · rw [bP_iff.mpr ⟨j, by omega, h2⟩]; rfl
  | false =>
    have h' := bP_no.mp h
    rw [bP_no.mpr (fun ⟨j, h1, h2⟩ => h' ⟨j, by omega, h2⟩), bP_no.mpr (fun h2 => h' ⟨k, by omega, h2⟩)]; rfl
theorem ev_learnSteps {N : Nt} (hN : Nok N) {σ : ds_S} (hC : RC N σ) {l u t : Nat} (hu1 : 1 ≤ u) (hu : u ≤ 20) (ht : t < N 0 0) (hW : WN N (wlN N l u) 99 t σ) {K : ds_S → Prop} (hK : ∀ s, (∀ c, c ≠ 58 → s.1 c = σ.1 c) → s.2 = σ.2 → (∀ i, ¬ (36 * u + 6 * t ≤ i ∧ i < 36 * u + 6 * t + 6) → s.1 58 i = σ.1 58 i) → (∀ b, b < N 0 0 → ∃ A, s.1 58 (36 * u + 6 * t + b) = nI A ∧ MK A (fun x => stN N l u t b x)) → K s) : ds_EV mt_X2_learnSteps Yc [.ref 56, .int (nI u), .int (nI t), .ref (20 + t)] σ K := by
  have hn := hN.1.2
  have hm := hN.2.1
  refine e_X2_learnSteps (nI u) (nI t) (20 + t) σ _ ?_
  generalize hQ : (fun r σ' => r = none ∧ K σ') = Q
  have hq : ∀ s, K s → Q none s := fun s h => by rw [← hQ]; exact ⟨rfl, h⟩
  clear hQ
  obtain ⟨⟨y0, y1, y3, y4, y5⟩, ⟨z0, z1, z3, z4, z5⟩, -⟩ := ways_at t (by omega)
  obtain ⟨k0, k1, k2, k3, k4, k5⟩ := ways_k t (by omega)
  have hG := hN.gok (wlN_ok hN (l := l) hu1 hu)
  have ix : ∀ b, nI u * (36 : Int32) + nI t * 6 + nI b = nI (36 * u + 6 * t + b) := fun b => by
    rw [show (36 : Int32) = nI 36 from rfl, show (6 : Int32) = nI 6 from rfl, pk_mul, pk_mul, nI_add, nI_add, Nat.mul_comm u, Nat.mul_comm t]
  unfold w_X2_learnSteps
  generalize hK1 : (fun (v1_1 v2_1 : Int32) σ1 => ∃ n, w_X2_learnSteps_37 n (20 + t) v1_1 v2_1 (0 : Int32) σ1 Q) = K1
  refine pk_loop (fun fu b s => w_X2_learnSteps_3 fu (20 + t) (nI u) (nI t) (nI b) s Q K1) (fun b s => (∀ c, c ≠ 58 → s.1 c = σ.1 c) ∧ s.2 = σ.2 ∧ (∀ i, ¬ (36 * u + 6 * t ≤ i ∧ i < 36 * u + 6 * t + 6) → s.1 58 i = σ.1 58 i) ∧ ∀ b', b' < b → s.1 58 (36 * u + 6 * t + b') = nI 0) (N 0 0) 0 σ (by omega) ⟨fun _ _ => rfl, rfl, fun _ _ => rfl, fun b h => by omega⟩ ?_ ?_
  · rintro fu s ⟨h1, h2, h3, h4⟩
    rw [w_X2_learnSteps_3]
    refine pk_le (N 0 0) (N 0 0) (fun _ => ?_) (fun h => by omega) (by rw [h1 1 (by decide)]; exact hC.1) rfl
    rw [← hK1]
    refine pk_loop (fun fu j s => w_X2_learnSteps_37 fu (20 + t) (nI u) (nI t) (nI j) s Q) (fun j s => (∀ c, c ≠ 58 → s.1 c = σ.1 c) ∧ s.2 = σ.2 ∧ (∀ i, ¬ (36 * u + 6 * t ≤ i ∧ i < 36 * u + 6 * t + 6) → s.1 58 i = σ.1 58 i) ∧ ∀ b, b < N 0 0 → ∃ A, s.1 58 (36 * u + 6 * t + b) = nI A ∧ MK A (fun x => stK N l u t j b x)) (N 0 7) 0 s (by omega) ⟨h1, h2, h3, fun b hb => ⟨0, h4 b hb, MK_0.cong fun x _ => (bP_no.mpr (fun ⟨j, h, _⟩ => by omega)).symm⟩⟩ ?_ ?_
    · rintro fu s ⟨h1, h2, h3, h4⟩
      rw [w_X2_learnSteps_37]
      exact pk_le (N 0 7) (N 0 7) (fun _ => hq _ (hK s h1 h2 h3 h4)) (fun h => by omega) (by rw [h1 1 (by decide)]; exact hC.2.1) rfl
    · rintro fu j s hj ⟨h1, h2, h3, h4⟩ hnext
      rw [w_X2_learnSteps_37, y4, y5, z4, z5, nI_clamp (n := j) (by omega)]
      obtain ⟨t9, tn⟩ := hW.2.1.1 j hj
      have vj : vp_in (nI j) 10 := vp_in_nI (by omega) (by decide)
      have e4 : s.1 (44 + t) j = σ.1 (44 + t) j := by rw [h1 (44 + t) (by omega)]
      have e5 : s.1 (50 + t) j = σ.1 (50 + t) j := by rw [h1 (50 + t) (by omega)]
      rw [e4, e5, nI_1]
      refine pk_le (N 0 7) j (fun h => by omega) (fun _ => ⟨k0, k4, vj, ?_⟩) (by rw [h1 1 (by decide)]; exact hC.2.1) rfl
      by_cases c : tlD (N 1) (N 2) (wlN N l u) (thN N 99) (dN N (wlN N l u) 99 t) j = 99
      · refine ⟨fun _ => hnext s ⟨h1, h2, h3, fun b hb => ?_⟩, fun h => absurd (t9 c) h⟩
        obtain ⟨A, a1, a2⟩ := h4 b hb
        refine ⟨A, a1, a2.cong fun x _ => ?_⟩
        rw [stK_succ, bP_no.mpr (fun z => by have : tlD (N 1) (N 2) (wlN N l u) (thN N 99) (dN N (wlN N l u) 99 t) j = b := z.1; omega), Bool.or_false]
      · obtain ⟨q1, q2⟩ := tn c
        have sm := tlD_some (th := thN N 99) (d := dN N (wlN N l u) 99 t) hG hj c
        rw [q1, q2]
        generalize hT : tlD (N 1) (N 2) (wlN N l u) (thN N 99) (dN N (wlN N l u) 99 t) j = T at *
        generalize hH : hdD (N 1) (N 2) (wlN N l u) (thN N 99) (dN N (wlN N l u) 99 t) j = H at *
        obtain ⟨A, a1, a2⟩ := h4 T sm.1
        have v756 : vp_in (nI (36 * u + 6 * t + T)) 756 := vp_in_nI (by omega) (by decide)
        obtain ⟨o1, o2⟩ := or3 (x := H) (by omega) a2
        rw [ix, nI_clamp (n := 36 * u + 6 * t + T) (by omega), a1, o1]
        refine ⟨fun h => absurd h (m1_nI (by omega)), fun _ => ⟨k0, k4, vj, v756, k0, k5, vj, v756, hnext _ ⟨fun c hc => ?_, h2, fun i hi => ?_, fun b hb => ?_⟩⟩⟩
        · exact (show (ds_wi s 58 _ _).1 c = s.1 c from if_neg hc).trans (h1 c hc)
        · rw [ds_wi_1, if_neg (by omega)]; exact h3 i hi
        · rw [ds_wi_1]
          by_cases e : b = T
          · rw [if_pos ⟨rfl, by rw [e]⟩]
            refine ⟨_, rfl, o2.cong fun x _ => ?_⟩
            rw [stK_succ, e]
            congr 1
            by_cases e2 : x = H
            · rw [bP_iff.mpr ⟨hT, by rw [e2]; exact hH⟩]; simp [e2]
            · rw [bP_no.mpr (fun z => e2 (by have : hdD (N 1) (N 2) (wlN N l u) (thN N 99) (dN N (wlN N l u) 99 t) j = x := z.2; omega))]; simp [e2]
          · rw [if_neg (by omega)]
            obtain ⟨B, b1, b2⟩ := h4 b hb
            refine ⟨B, b1, b2.cong fun x _ => ?_⟩
            rw [stK_succ, bP_no.mpr (fun z => by have : tlD (N 1) (N 2) (wlN N l u) (thN N 99) (dN N (wlN N l u) 99 t) j = b := z.1; omega), Bool.or_false]
  · rintro fu b s hb ⟨h1, h2, h3, h4⟩ hnext
    rw [w_X2_learnSteps_3, ix, nI_clamp (n := 36 * u + 6 * t + b) (by omega), nI_1]
    refine pk_le (N 0 0) b (fun h => by omega) (fun _ => ⟨vp_in_nI (by omega) (by decide), hnext _ ⟨fun c hc => ?_, h2, fun i hi => ?_, fun b' hb' => ?_⟩⟩) (by rw [h1 1 (by decide)]; exact hC.1) rfl
    · exact (show (ds_wi s 58 _ _).1 c = s.1 c from if_neg hc).trans (h1 c hc)
    · rw [ds_wi_1, if_neg (by omega)]; exact h3 i hi
    · rw [ds_wi_1]
      by_cases e : b' = b
      · rw [if_pos ⟨rfl, by rw [e]⟩]; rfl
      · rw [if_neg (by omega)]; exact h4 b' (by omega)
theorem ev_learn {N : Nt} (hN : Nok N) {σ : ds_S} (hC : RC N σ) {l u : Nat} (hl : l < N 0 7) (hu1 : 1 ≤ u) (hu : u ≤ 20) {K : ds_S → Prop} (hK : ∀ s, kN σ s → lsN N l u s → (∀ v, v ≤ 20 → v ≠ u → lsN N l v σ → lsN N l v s) → K s) : ds_EV mt_X2_learn Yc [.ref 56, .int (nI l), .int (nI u)] σ K := by
  have hn := hN.1.2
  have hm := hN.2.1
  refine e_X2_learn (nI l) (nI u) σ _ ?_
  generalize hQ : (fun r σ' => r = none ∧ K σ') = Q
  have hq : ∀ s, K s → Q none s := fun s h => by rw [← hQ]; exact ⟨rfl, h⟩
  clear hQ
  unfold w_X2_learn
  rw [nI_clamp (n := l) (by omega), hC.1]
  refine ⟨vp_in_nI (by omega) (by decide), ?_⟩
  generalize hs1 : ds_wi (ds_cp σ 64 57 10) 57 l (nI u) = s1
  have r1 : ∀ c, c ≠ 57 → s1.1 c = σ.1 c := fun c hc => by
    funext k
    rw [← hs1, ds_wi_1, if_neg (by omega), ds_cp_1, if_neg hc]
  have j1 : s1.2 = σ.2 := by rw [← hs1]; rfl
  have w57 : ∀ k, k < N 0 7 → s1.1 57 k = nI (wlN N l u k) := fun k hk => by
    rw [← hs1, ds_wi_1]
    unfold wlN
    by_cases e : k = l
    · rw [if_pos ⟨rfl, e⟩, if_pos e]
    · rw [if_neg (fun z => e z.2), if_neg e, ds_cp_1, if_pos rfl, if_pos (by omega)]
      exact (hC.2.2.1 k hk).2.2.2
  clear hs1
  have hC1 : RC N s1 := hC.of fun c hc => r1 c (by omega)
  refine ev_findSome hN hC1 (wlN_ok hN hu1 hu) TW57 w57 (mo := 99) (tg := fun _ => true) (fun t ht => q_bit_all _ (by omega) t ht) fun s2 hs2 hW => ?_
  have hC2 : RC N s2 := hC1.of fun c hc => hs2.2 c (by omega)
  have kN2 : kN σ s2 := ⟨fun c h1 h2 _ => (hs2.2 c h1).trans (r1 c h2), hs2.1.trans j1⟩
  have e58 : s2.1 58 = σ.1 58 := (hs2.2 58 (by omega)).trans (r1 58 (by decide))
  refine pk_loop (fun fu t s => w_X2_learn_54 fu (nI u) (nI t) s Q) (fun t s => kN σ s ∧ (∀ c, c ≠ 58 → s.1 c = s2.1 c) ∧ (∀ i, ¬ (36 * u ≤ i ∧ i < 36 * u + 36) → s.1 58 i = σ.1 58 i) ∧ ∀ t' b, t' < t → b < N 0 0 → ∃ A, s.1 58 (36 * u + 6 * t' + b) = nI A ∧ MK A (fun x => stN N l u t' b x)) (N 0 0) 0 s2 (by omega) ⟨kN2, fun _ _ => rfl, fun i _ => by rw [e58], fun t' b h => by omega⟩ ?_ ?_
  · rintro fu s ⟨h1, h2, h3, h4⟩
    rw [w_X2_learn_54]
    refine pk_le (N 0 0) (N 0 0) (fun _ => hq _ (hK s h1 (fun t b ht hb => h4 t b ht hb) fun v hv hvu hlsN t b ht hb => ?_)) (fun h => by omega) (hC.n h1).1 rfl
    obtain ⟨A, a1, a2⟩ := hlsN t b ht hb
    refine ⟨A, ?_, a2⟩
    rw [h3 _ (by omega)]; exact a1
  · rintro fu t s ht ⟨h1, h2, h3, h4⟩ hnext
    obtain ⟨-, -, y7⟩ := ways_at t (by omega)
    rw [w_X2_learn_54, nI_clamp (n := t) (by omega), y7, nI_1]
    have hWs : WN N (wlN N l u) 99 t s := WOK.cong (hW t ht rfl) (fun c h3 h4 _ => h2 c (by omega)) (by omega)
    refine pk_le (N 0 0) t (fun h => by omega) (fun _ => ⟨vp_in_nI (by omega) (by decide), ev_learnSteps hN (hC.n h1) hu1 hu ht hWs fun s' g1 g2 g3 g4 => hnext s' ⟨⟨fun c a b d => (g1 c d).trans (h1.1 c a b d), g2.trans h1.2⟩, fun c hc => (g1 c hc).trans (h2 c hc), fun i hi => ?_, fun t' b ht' hb => ?_⟩⟩) (hC.n h1).1 rfl
    · rw [g3 i (by omega)]; exact h3 i hi
    · by_cases e : t' = t
      · rw [e]; exact g4 b hb
      · obtain ⟨A, a1, a2⟩ := h4 t' b (by omega) hb
        refine ⟨A, ?_, a2⟩
        rw [g3 _ (by omega)]; exact a1
theorem stN_self {N : Nt} (hN : Nok N) {l u t x : Nat} (hu1 : 1 ≤ u) (hu : u ≤ 20) (ht : t < N 0 0) : stN N l u t t x = false := by
  refine bP_no.mpr fun ⟨j, hj, h1, _⟩ => ?_
  have := pt_t0 (hN.gok (wlN_ok hN (l := l) hu1 hu)) ht (dN_is hN (wlN_ok hN hu1 hu) 99 ht)
  exact pt_no this j hj h1
theorem st_in {N : Nt} (hN : Nok N) {l u t b x : Nat} (hu1 : 1 ≤ u) (hu : u ≤ 20) (hb : b < N 0 0) (h : stN N l u t b x = true) : x < N 0 0 := by
  obtain ⟨j, hj, h1, h2⟩ := bP_iff.mp h
  have hn := hN.1.2
  have hne : tlD (N 1) (N 2) (wlN N l u) (thN N 99) (dN N (wlN N l u) 99 t) j ≠ 99 := by
    have : tlD (N 1) (N 2) (wlN N l u) (thN N 99) (dN N (wlN N l u) 99 t) j = b := h1
    omega
  have sm := tlD_some (th := thN N 99) (d := dN N (wlN N l u) 99 t) (hN.gok (wlN_ok hN (l := l) hu1 hu)) hj hne
  have : hdD (N 1) (N 2) (wlN N l u) (thN N 99) (dN N (wlN N l u) 99 t) j = x := h2
  omega
theorem ev_hasRingC {N : Nt} (hN : Nok N) {σ : ds_S} (h0 : σ.1 1 0 = nI (N 0 0)) {l u v t : Nat} (hu1 : 1 ≤ u) (hu : u ≤ 20) (hv1 : 1 ≤ v) (hv : v ≤ 20) (ht : t < N 0 0) (hLu : lsN N l u σ) (hLv : lsN N l v σ) {K : Int32 → ds_S → Prop} (hK0 : ¬ rgN N l u v t → K 0 σ) (hK1 : rgN N l u v t → K 1 σ) : ds_EI mt_X2_hasRing Yc [.ref 56, .int (nI u), .int (nI v), .int (nI t)] σ K := by
  have hn := hN.1.2
  refine e_X2_hasRing (nI u) (nI v) (nI t) σ _ ?_
  generalize hQ : (fun r σ' => ∃ x, r = some (Value.int x) ∧ K x σ') = Q
  have hq : ∀ x s, K x s → Q (some (.int x)) s := fun x s h => by rw [← hQ]; exact ⟨x, rfl, h⟩
  clear hQ
  have ix : ∀ w b, nI w * (36 : Int32) + nI t * 6 + nI b = nI (36 * w + 6 * t + b) := fun w b => by
    rw [show (36 : Int32) = nI 36 from rfl, show (6 : Int32) = nI 6 from rfl, pk_mul, pk_mul, nI_add, nI_add, Nat.mul_comm w, Nat.mul_comm t]
  obtain ⟨m1, m2, m3⟩ := MK_all_n (N 0 0) hn
  unfold w_X2_hasRing
  rw [h0, m1]
  generalize hR : (fun b x => stN N l u t b x || stN N l v t b x) = R
  have hRn : ∀ b x, b < N 0 0 → R b x = true → x < N 0 0 := by
    intro b x hb h
    rw [← hR] at h
    have h' : (stN N l u t b x || stN N l v t b x) = true := h
    rcases Bool.or_eq_true_iff.mp h' with h | h
    · exact st_in hN hu1 hu hb h
    · exact st_in hN hv1 hv hb h
  have erg : rgN N l u v t ↔ hasR (N 0 0) R := by rw [← hR]; exact Iff.rfl
  have fin106 : ∀ B L, MK B L → (∀ x, N 0 0 ≤ x → L x = false) → ((∃ b, b < N 0 0 ∧ L b = true) ↔ hasR (N 0 0) R) → w_X2_hasRing_106 (nI B) σ Q := by
    intro B L hB hout hiff
    unfold w_X2_hasRing_106
    rw [hB.nz]
    refine ⟨fun h => hq _ _ (hK0 fun z => ?_), fun h => hq _ _ (hK1 ?_)⟩
    · obtain ⟨b, hb, hlb⟩ := hiff.mpr (erg.mp z)
      rw [h b (by omega)] at hlb
      exact absurd hlb (by decide)
    · refine erg.mpr (hiff.mp ?_)
      obtain ⟨x, hx⟩ := Classical.not_forall.mp h
      obtain ⟨h6, hx⟩ := Classical.not_imp.mp hx
      have hLx : L x = true := by cases q : L x; exact absurd q hx; rfl
      refine ⟨x, ?_, hLx⟩
      rcases Nat.lt_or_ge x (N 0 0) with c | c
      · exact c
      · rw [hout x c] at hLx; exact absurd hLx (by decide)
  refine pk_loop (σ := Int32) (fun fu r v4 => w_X2_hasRing_16 fu (nI u) (nI v) (nI t) v4 (nI r) σ Q (fun v4_1 σ1 => w_X2_hasRing_106 v4_1 σ1 Q)) (fun r v4 => ∃ B L, v4 = nI B ∧ MK B L ∧ (∀ x, N 0 0 ≤ x → L x = false) ∧ elI (N 0 0) R r L) (N 0 0) 0 _ (by omega) ⟨2 ^ N 0 0 - 1, fun x => decide (x < N 0 0), rfl, ⟨m2, m3⟩, fun x hx => by simp; omega, elI_0 fun S hS b hb _ => by simp; omega⟩ ?_ ?_
  · rintro fu v4 ⟨B, L, rfl, hB, hout, hE⟩
    rw [w_X2_hasRing_16]
    exact pk_le (N 0 0) (N 0 0) (fun _ => fin106 B L hB hout (elI_end hE)) (fun h => by omega) h0 rfl
  · rintro fu r v4 hr ⟨B, L, rfl, hB, hout, hE⟩ hnext
    rw [w_X2_hasRing_16]
    refine pk_le (N 0 0) r (fun h => by omega) (fun _ => ⟨fun hz => ?_, fun _ => ?_⟩) h0 rfl
    · refine fin106 B L hB hout ⟨fun ⟨b, hb, hlb⟩ => ?_, fun h => absurd h (elI_empty hE fun b hb => (hB.nz.mp hz) b (by omega))⟩
      rw [(hB.nz.mp hz) b (by omega)] at hlb
      exact absurd hlb (by decide)
    · generalize hKK : (fun (v1_1 v2_1 v3_1 v4_1 v5_1 : Int32) σ1 => w_X2_hasRing_16 fu v1_1 v2_1 v3_1 v4_1 (v5_1 + (1 : Int32)) σ1 Q (fun v4_1 σ1 => w_X2_hasRing_106 v4_1 σ1 Q)) = KK
      have hkk : ∀ v4, (∃ B L, v4 = nI B ∧ MK B L ∧ (∀ x, N 0 0 ≤ x → L x = false) ∧ elI (N 0 0) R (r + 1) L) → KK (nI u) (nI v) (nI t) v4 (nI r) σ := fun v4 h => by
        rw [← hKK]
        show w_X2_hasRing_16 fu (nI u) (nI v) (nI t) v4 (nI r + 1) σ Q _
        rw [nI_1]
        exact hnext v4 h
      clear hKK hnext
      refine pk_loop (σ := Int32) (fun fu j v4 => w_X2_hasRing_36 fu (nI u) (nI v) (nI t) v4 (nI r) (nI j) σ Q KK) (fun j v4 => ∃ B L', v4 = nI B ∧ MK B L' ∧ (∀ x, N 0 0 ≤ x → L' x = false) ∧ elJ (N 0 0) R L j L') (N 0 0) 0 _ (by omega) ⟨B, L, rfl, hB, hout, elJ_0 hE⟩ ?_ ?_
      · rintro fu v4 ⟨B, L', rfl, hB', hout', hJ⟩
        rw [w_X2_hasRing_36]
        exact pk_le (N 0 0) (N 0 0) (fun _ => hkk _ ⟨B, L', rfl, hB', hout', elJ_end hE hJ⟩) (fun h => by omega) h0 rfl
      · rintro fu j v4 hj ⟨B, L', rfl, hB', hout', hJ⟩ hnext
        obtain ⟨A1, a1, a2⟩ := hLu t j ht hj
        obtain ⟨A2, b1, b2⟩ := hLv t j ht hj
        have hor := a2.or b2
        rw [w_X2_hasRing_36, ix, ix, nI_clamp (n := 36 * u + 6 * t + j) (by omega), nI_clamp (n := 36 * v + 6 * t + j) (by omega), a1, b1, fa_or, hor.and0 hB', MK_cl B hB'.1 j (by omega), nI_1]
        have v1 : vp_in (nI (36 * u + 6 * t + j)) 756 := vp_in_nI (by omega) (by decide)
        have v2 : vp_in (nI (36 * v + 6 * t + j)) 756 := vp_in_nI (by omega) (by decide)
        have eR : ∀ x, (stN N l u t j x || stN N l v t j x) = R j x := fun x => by rw [← hR]
        refine pk_le (N 0 0) j (fun h => by omega) (fun _ => ⟨v1, v2, fun h => hnext _ ⟨B, L', rfl, hB', hout', elJ_keep hj hJ ?_⟩, fun h => hnext _ ⟨_, _, rfl, hB'.less (by omega), fun x hx => ?_, elJ_drop hj hJ ?_⟩⟩) h0 rfl
        · obtain ⟨x, hx⟩ := Classical.not_forall.mp h
          obtain ⟨h6, hx⟩ := Classical.not_imp.mp hx
          have hx' := Classical.not_not.mp hx
          have : R j x = true := by rw [← eR]; exact hx'.1
          exact ⟨x, hRn j x hj this, this, hx'.2⟩
        · show (if x = j then false else L' x) = false
          rw [hout' x hx]; split <;> rfl
        · rintro ⟨x, x1, x2, x3⟩
          exact h x (by omega) ⟨by rw [← eR] at x2; exact x2, x3⟩
theorem ev_leastRing {N : Nt} (hN : Nok N) {σ : ds_S} (h0 : σ.1 1 0 = nI (N 0 0)) {l u v : Nat} (hu1 : 1 ≤ u) (hu : u ≤ 20) (hv1 : 1 ≤ v) (hv : v ≤ 20) (hLu : lsN N l u σ) (hLv : lsN N l v σ) {K : Int32 → ds_S → Prop} (hK : ∀ r, RF N l u v r → K r σ) : ds_EI mt_X2_leastRing Yc [.ref 56, .int (nI u), .int (nI v)] σ K := by
  have hn := hN.1.2
  refine e_X2_leastRing (nI u) (nI v) σ _ ?_
  generalize hQ : (fun r σ' => ∃ x, r = some (Value.int x) ∧ K x σ') = Q
  have hq : ∀ x s, K x s → Q (some (.int x)) s := fun x s h => by rw [← hQ]; exact ⟨x, rfl, h⟩
  clear hQ
  unfold w_X2_leastRing
  refine pk_loop (σ := Unit) (fun fu t _ => w_X2_leastRing_2 fu (nI u) (nI v) (nI t) σ Q) (fun t _ => ∀ t', t' < t → ¬ rgN N l u v t') (N 0 0) 0 () (by omega) (fun t' h => by omega) ?_ ?_
  · rintro fu - h
    show w_X2_leastRing_2 (fu + 1) (nI u) (nI v) (nI (N 0 0)) σ Q
    rw [w_X2_leastRing_2]
    exact pk_le (N 0 0) (N 0 0) (fun _ => hq _ _ (hK _ (Or.inr ⟨h, rfl⟩))) (fun h => by omega) h0 rfl
  · rintro fu t - ht h hnext
    show w_X2_leastRing_2 (fu + 1) (nI u) (nI v) (nI t) σ Q
    rw [w_X2_leastRing_2, nI_1]
    refine pk_le (N 0 0) t (fun h => by omega) (fun _ => ev_hasRingC hN h0 hu1 hu hv1 hv ht hLu hLv (fun hr => ⟨fun _ => hnext () fun t' ht' => ?_, fun z => absurd rfl z⟩) (fun hr => ⟨fun z => absurd z (by decide), fun _ => hq _ _ (hK _ (Or.inl ⟨t, ht, hr, h, rfl⟩))⟩)) h0 rfl
    by_cases e : t' = t
    · rw [e]; exact hr
    · exact h t' (by omega)
