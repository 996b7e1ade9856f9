/-! the reference's news -/
def kR (σ s : ds_S) : Prop := (∀ c k, c ≠ 9 → c ≠ 16 → s.1 c k = σ.1 c k) ∧ s.2 = σ.2
theorem kR.refl (σ : ds_S) : kR σ σ := ⟨fun _ _ _ _ => rfl, rfl⟩
theorem kR.trans {a b c : ds_S} (h : kR a b) (h2 : kR b c) : kR a c := ⟨fun x k h3 h4 => (h2.1 x k h3 h4).trans (h.1 x k h3 h4), h2.2.trans h.2⟩
theorem kR.wi {σ s : ds_S} {k : Nat} {x : Int32} (h : kR σ s) : kR σ (ds_wi s 16 k x) := ⟨fun c j h1 h2 => by rw [ds_wi_1, if_neg (by omega)]; exact h.1 c j h1 h2, h.2⟩
theorem SM.r {N : Nt} {w x : Nat → Nat} {mo : Nat} {σ s : ds_S} (h : SM N w mo x σ) (hk : ∀ c k, c < 8 → s.1 c k = σ.1 c k) : SM N w mo x s := by
  obtain ⟨⟨a, b, c, d⟩, e, f⟩ := h
  refine ⟨⟨?_, ?_, ?_, ?_⟩, fun l hl => ?_, fun i hi => ?_⟩
  · rw [hk 0 0 (by omega)]; exact a
  · rw [hk 0 7 (by omega)]; exact b
  · rw [hk 0 9 (by omega)]; exact c
  · rw [hk 0 13 (by omega)]; exact d
  · rw [hk 1 l (by omega), hk 2 l (by omega), hk 3 l (by omega), hk 4 l (by omega), hk 6 l (by omega)]; exact e l hl
  · rw [hk 7 i (by omega)]; exact f i hi
theorem ev_addGoes {N : Nt} (hN : Nok N) {σ : ds_S} (hS : SM N (N 4) 99 (N 7) σ) {l u t : Nat} (hl : l < N 0 7) (hu1 : 1 ≤ u) (hu : u ≤ 20) (ht : t < N 0 0) {G : Nat → Nat → Bool} (hG0 : ∀ b, b < N 0 0 → ∃ A, σ.1 16 b = nI A ∧ MK A (G b)) {K : ds_S → Prop} (hK : ∀ s, kR σ s → (∀ b, b < N 0 0 → ∃ A, s.1 16 b = nI A ∧ MK A (fun x => G b x || stN N l u t b x)) → K s) : ds_EV mt_X9_addGoes Ym [.ref 0, .int (nI l), .int (nI u), .int (nI t)] σ K := by
  have hn := hN.1.2
  have hm := hN.2.1
  refine e_X9_addGoes (nI l) (nI u) (nI t) σ _ ?_
  generalize hQ : (fun r σ' => r = none ∧ K σ') = Q
  have hq : ∀ s, K s → Q none s := fun s h => by rw [← hQ]; exact ⟨rfl, h⟩
  clear hQ
  have hwok := wlN_ok hN (l := l) hu1 hu
  have hG := hN.gok hwok
  have hd := dN_is hN hwok 99 ht
  have v10 : vp_in (nI l) 10 := vp_in_nI (by omega) (by decide)
  unfold w_X9_addGoes
  rw [nI_clamp (n := l) (by omega), (hS.2.1 l hl).2.2.2.1]
  have sm0 : SM N (wlN N l u) 99 (N 7) (ds_wi σ 4 l (nI u)) := by
    obtain ⟨q0, ql, qx⟩ := hS
    refine ⟨q0, fun k hk => ?_, qx⟩
    obtain ⟨a, b, c, d, e⟩ := ql k hk
    refine ⟨a, b, c, ?_, e⟩
    rw [ds_wi_1]
    unfold wlN
    by_cases z : k = l
    · rw [if_pos ⟨rfl, z⟩, if_pos z]
    · rw [if_neg (fun y => z y.2), if_neg z]; exact d
  refine ⟨v10, v10, ev_findFar hG hm ht hd (sm0.gm hN) fun r hr => ?_⟩
  have e9 : ∀ x, x < N 0 0 → (ds_si (ds_wi σ 4 l (nI u)) 9 r).1 9 x = nI (fm (dN N (wlN N l u) 99 t) x) := hr
  have sm1 : SM N (wlN N l u) 99 (N 7) (ds_si (ds_wi σ 4 l (nI u)) 9 r) := sm0.k (kM.refl _).si9
  have k4 : ∀ c k, c ≠ 9 → ¬ (c = 4 ∧ k = l) → (ds_si (ds_wi σ 4 l (nI u)) 9 r).1 c k = σ.1 c k := fun c k h1 h2 => by rw [ds_si_1, if_neg h1, ds_wi_1, if_neg h2]
  have e16 : (ds_si (ds_wi σ 4 l (nI u)) 9 r).1 16 = σ.1 16 := rfl
  have e2 : (ds_si (ds_wi σ 4 l (nI u)) 9 r).2 = σ.2 := rfl
  generalize ds_si (ds_wi σ 4 l (nI u)) 9 r = s1 at e9 sm1 k4 e16 e2 ⊢
  refine pk_loop (fun fu j s => w_X9_addGoes_23 fu (nI l) (nI (N 4 l)) (nI j) s Q) (fun j s => (∀ c, c ≠ 16 → s.1 c = s1.1 c) ∧ s.2 = σ.2 ∧ ∀ b, b < N 0 0 → ∃ A, s.1 16 b = nI A ∧ MK A (fun x => G b x || stK N l u t j b x)) (N 0 7) 0 s1 (by omega) ⟨fun _ _ => rfl, e2, fun b hb => ?_⟩ ?_ ?_
  · obtain ⟨A, a1, a2⟩ := hG0 b hb
    refine ⟨A, by rw [e16]; exact a1, a2.cong fun x _ => ?_⟩
    have : stK N l u t 0 b x = false := bP_no.mpr fun ⟨j, h, _⟩ => by omega
    rw [this, Bool.or_false]
  · rintro fu s ⟨h1, h2, h3⟩
    rw [w_X9_addGoes_23]
    refine pk_le (N 0 7) (N 0 7) (fun _ => ⟨v10, hq _ (hK _ ⟨fun c k z1 z2 => ?_, h2⟩ fun b hb => ?_)⟩) (fun h => by omega) (by rw [h1 0 (by decide)]; exact sm1.1.2.1) rfl
    · rw [nI_clamp (n := l) (by omega), ds_wi_1]
      by_cases e : c = 4 ∧ k = l
      · rw [if_pos e, e.1, e.2]; exact (hS.2.1 l hl).2.2.2.1.symm
      · rw [if_neg e, h1 c z2]; exact k4 c k z1 e
    · obtain ⟨A, a1, a2⟩ := h3 b hb
      exact ⟨A, by rw [ds_wi_1, if_neg (by omega)]; exact a1, a2⟩
  · rintro fu j s hj ⟨h1, h2, h3⟩ hnext
    rw [w_X9_addGoes_23]
    obtain ⟨p1, p2, p3, p4, p6⟩ := sm1.2.1 j hj
    obtain ⟨g1, g2, g3, g4, g5⟩ := hG.2 j hj
    have vj : vp_in (nI j) 10 := vp_in_nI (by omega) (by decide)
    have va : vp_in (nI (N 1 j)) 6 := vp_in_nI (by omega) (by decide)
    have vb : vp_in (nI (N 2 j)) 6 := vp_in_nI (by omega) (by decide)
    have sms : SM N (wlN N l u) 99 (N 7) s := sm1.r fun c k hc => by rw [h1 c (by omega)]
    have gms := sms.gm hN
    have e9s : ∀ x, x < N 0 0 → s.1 9 x = nI (fm (dN N (wlN N l u) 99 t) x) := fun x hx => by rw [h1 9 (by decide)]; exact e9 x hx
    have q1 : s.1 1 j = nI (N 1 j) := (sms.2.1 j hj).1
    have q2 : s.1 2 j = nI (N 2 j) := (sms.2.1 j hj).2.1
    obtain ⟨A, a1, a2⟩ := h3 (N 1 j) g1
    obtain ⟨B, b1, b2⟩ := h3 (N 2 j) g2
    rw [nI_clamp (n := j) (by omega), q1, nI_clamp (n := N 1 j) (by omega), a1]
    have cs := tlD_cases (th := thN N 99) (d := dN N (wlN N l u) 99 t) hG hj
    have etl : ∀ b x, bP (tlN N (wlN N l u) 99 t j = b ∧ hdN N (wlN N l u) 99 t j = x) = bP (tlD (N 1) (N 2) (wlN N l u) (thN N 99) (dN N (wlN N l u) 99 t) j = b ∧ hdD (N 1) (N 2) (wlN N l u) (thN N 99) (dN N (wlN N l u) 99 t) j = x) := fun b x => rfl
    have b68 : ∀ t0 A', (t0 = 0 ∧ A' = A ∧ tlD (N 1) (N 2) (wlN N l u) (thN N 99) (dN N (wlN N l u) 99 t) j ≠ N 1 j) ∨ (t0 = nI (2 ^ N 2 j) ∧ A' = A ||| 2 ^ N 2 j ∧ tlD (N 1) (N 2) (wlN N l u) (thN N 99) (dN N (wlN N l u) 99 t) j = N 1 j) → w_X9_addGoes_68 (nI l) (nI (N 4 l)) (nI j) t0 (nI A) (nI (N 1 j)) s Q (fun v1_2 v4_2 v5_2 σ2 => w_X9_addGoes_23 fu v1_2 v4_2 v5_2 σ2 Q) := by
      intro t0 A' hc
      have eA : nI A ||| t0 = nI A' := by
        rcases hc with ⟨rfl, rfl, _⟩ | ⟨rfl, rfl, _⟩
        · rw [show (0 : Int32) = nI 0 from rfl, fa_or, Nat.or_zero]
        · rw [fa_or]
      have mA : MK A' (fun x => G (N 1 j) x || stK N l u t (j + 1) (N 1 j) x) := by
        rcases hc with ⟨_, rfl, hne⟩ | ⟨_, rfl, he⟩
        · refine a2.cong fun x _ => ?_
          rw [stK_succ, etl, bP_no.mpr (fun z => hne z.1), Bool.or_false]
        · refine (a2.or (MK_bit (b := N 2 j) (by omega))).cong fun x _ => ?_
          rw [stK_succ, etl, ← Bool.or_assoc]
          congr 1
          rcases cs with ⟨e, _⟩ | ⟨e1, e2, _⟩ | ⟨e1, _⟩
          · omega
          · by_cases q : x = N 2 j
            · rw [bP_iff.mpr ⟨e1, by rw [e2, q]⟩]; simp [q]
            · rw [bP_no.mpr (fun z => q (by rw [← z.2, e2]))]; simp [q]
          · omega
      unfold w_X9_addGoes_68
      have smw : SM N (wlN N l u) 99 (N 7) (ds_wi s 16 (N 1 j) (nI A')) := sms.r fun c k hc => by rw [ds_wi_1, if_neg (by omega)]
      rw [nI_clamp (n := N 1 j) (by omega), nI_clamp (n := j) (by omega), q2, nI_clamp (n := N 2 j) (by omega), eA]
      have rb : (ds_wi s 16 (N 1 j) (nI A')).1 16 (N 2 j) = nI B := by rw [ds_wi_1, if_neg (by omega)]; exact b1
      refine ⟨va, vj, vb, (ev_isNext hG hm hd (smw.gm hN) (fun x hx => by rw [ds_wi_1, if_neg (by omega)]; exact e9s x hx) hj 1 (by omega)).mo ?_⟩
      rintro r1 s' ⟨hr1, rfl⟩
      rw [show (if (1 : Nat) = 0 then N 1 j else N 2 j) = N 2 j from rfl] at hr1
      have q1' : (ds_wi s 16 (N 1 j) (nI A')).1 1 j = nI (N 1 j) := (smw.2.1 j hj).1
      rw [rb, q1', nI_1]
      have fin : ∀ B' x, x = nI B' → MK B' (fun x => G (N 2 j) x || stK N l u t (j + 1) (N 2 j) x) → w_X9_addGoes_23 fu (nI l) (nI (N 4 l)) (nI (j + 1)) (ds_wi (ds_wi s 16 (N 1 j) (nI A')) 16 (N 2 j) x) Q := by
        intro B' x hx mB
        refine hnext _ ⟨fun c hc => ?_, h2, fun b hb => ?_⟩
        · funext k
          rw [ds_wi_1, if_neg (by omega), ds_wi_1, if_neg (by omega), h1 c hc]
        · rw [ds_wi_1]
          by_cases e : b = N 2 j
          · rw [if_pos ⟨rfl, e⟩, e]
            exact ⟨B', hx, mB⟩
          · rw [if_neg (fun z => e z.2), ds_wi_1]
            by_cases e2 : b = N 1 j
            · rw [if_pos ⟨rfl, e2⟩, e2]
              exact ⟨A', rfl, mA⟩
            · rw [if_neg (fun z => e2 z.2)]
              obtain ⟨C, c1, c2⟩ := h3 b hb
              refine ⟨C, c1, c2.cong fun x _ => ?_⟩
              rw [stK_succ, etl, bP_no.mpr (fun z => ?_), Bool.or_false]
              rcases cs with ⟨e, _⟩ | ⟨e1, _⟩ | ⟨e1, _⟩ <;> omega
      refine ⟨fun h => ⟨vb, fin B _ ?_ ?_⟩, fun h => ⟨vj, vb, fin (B ||| 2 ^ N 1 j) _ ?_ ?_⟩⟩
      · rw [show (0 : Int32) = nI 0 from rfl, fa_or, Nat.or_zero]
      · have hne : ¬ tlD (N 1) (N 2) (wlN N l u) (thN N 99) (dN N (wlN N l u) 99 t) j = N 2 j := fun z => by rw [if_pos z] at hr1; rw [hr1] at h; exact absurd h (by decide)
        refine b2.cong fun x _ => ?_
        rw [stK_succ, etl, bP_no.mpr (fun z => hne z.1), Bool.or_false]
      · rw [sh_one _ (by omega), fa_or]
      · have he : tlD (N 1) (N 2) (wlN N l u) (thN N 99) (dN N (wlN N l u) 99 t) j = N 2 j := by
          by_cases z : tlD (N 1) (N 2) (wlN N l u) (thN N 99) (dN N (wlN N l u) 99 t) j = N 2 j
          · exact z
          · rw [if_neg z] at hr1; exact absurd hr1 h
        refine (b2.or (MK_bit (b := N 1 j) (by omega))).cong fun x _ => ?_
        rw [stK_succ, etl, ← Bool.or_assoc]
        congr 1
        rcases cs with ⟨e, _⟩ | ⟨e1, _⟩ | ⟨e1, e2, _⟩
        · omega
        · omega
        · by_cases q : x = N 1 j
          · rw [bP_iff.mpr ⟨e1, by rw [e2, q]⟩]; simp [q]
          · rw [bP_no.mpr (fun z => q (by rw [← z.2, e2]))]; simp [q]
    refine pk_le (N 0 7) j (fun h => by omega) (fun _ => ⟨vj, va, (ev_isNext hG hm hd gms e9s hj 0 (by omega)).mo ?_⟩) (by rw [h1 0 (by decide)]; exact sm1.1.2.1) rfl
    rintro r1 s' ⟨hr1, rfl⟩
    rw [show (if (0 : Nat) = 0 then N 1 j else N 2 j) = N 1 j from rfl] at hr1
    refine ⟨fun h => b68 _ A (Or.inl ⟨rfl, rfl, fun z => ?_⟩), fun h => ⟨vj, b68 _ (A ||| 2 ^ N 2 j) (Or.inr ⟨?_, rfl, ?_⟩)⟩⟩
    · rw [if_pos z] at hr1; rw [hr1] at h; exact absurd h (by decide)
    · rw [q2, sh_one _ (by omega)]
    · by_cases z : tlD (N 1) (N 2) (wlN N l u) (thN N 99) (dN N (wlN N l u) 99 t) j = N 1 j
      · exact z
      · rw [if_neg z] at hr1; exact absurd hr1 h
theorem ev_hasRingM {N : Nt} (hN : Nok N) {σ : ds_S} (hS : SM N (N 4) 99 (N 7) σ) {l u v t : Nat} (hl : l < N 0 7) (hu1 : 1 ≤ u) (hu : u ≤ 20) (hv1 : 1 ≤ v) (hv : v ≤ 20) (ht : t < N 0 0) {K : Int32 → ds_S → Prop} (hK0 : ∀ s, kR σ s → ¬ rgN N l u v t → K 0 s) (hK1 : ∀ s, kR σ s → rgN N l u v t → K 1 s) : ds_EI mt_X9_hasRing Ym [.ref 0, .int (nI l), .int (nI u), .int (nI v), .int (nI t)] σ K := by
  have hn := hN.1.2
  refine e_X9_hasRing (nI l) (nI u) (nI v) (nI t) σ _ ?_
  generalize hQ : (fun r σ' => ∃ x, r = some (Value.int x) ∧ K x σ') = Q
  have hq : ∀ x s, K x s → Q (some (.int x)) s := fun x s h => by rw [← hQ]; exact ⟨x, rfl, h⟩
  clear hQ
  unfold w_X9_hasRing
  generalize hK2 : (fun (v1_1 v2_1 v3_1 v4_1 : Int32) σ1 => ds_EV mt_X9_addGoes Ym [.ref 0, .int v1_1, .int v2_1, .int v4_1] σ1 (fun σ2 => ds_EV mt_X9_addGoes Ym [.ref 0, .int v1_1, .int v3_1, .int v4_1] σ2 (fun σ3 => ∃ n, w_X9_hasRing_60 n ((((1 : Int32) <<< ((σ3.1 0 0) &&& 31)) - (1 : Int32)) &&& (((1 : Int32) <<< (v4_1 &&& 31)) ^^^ (-1 : Int32))) (0 : Int32) σ3 Q))) = K2
  refine pk_loop (fun fu b s => w_X9_hasRing_3 fu (nI l) (nI u) (nI v) (nI t) (nI b) s Q K2) (fun b s => kR σ s ∧ ∀ b', b' < b → s.1 16 b' = nI 0) 6 0 σ (by omega) ⟨kR.refl _, fun b h => by omega⟩ ?_ ?_
  · rintro fu s ⟨hk, h16⟩
    rw [w_X9_hasRing_3]
    refine pk_le 6 6 (fun _ => ?_) (fun h => by omega)
    rw [← hK2]
    have sms := hS.r (s := s) fun c k hc => hk.1 c k (by omega) (by omega)
    refine ev_addGoes hN sms hl hu1 hu ht (G := fun _ _ => false) (fun b hb => ⟨0, h16 b (by omega), MK_0⟩) fun s2 hk2 h2 => ?_
    have sms2 := sms.r (s := s2) fun c k hc => hk2.1 c k (by omega) (by omega)
    refine ev_addGoes hN sms2 hl hv1 hv ht h2 fun s3 hk3 h3 => ?_
    have sms3 := sms2.r (s := s3) fun c k hc => hk3.1 c k (by omega) (by omega)
    have kk := (hk.trans hk2).trans hk3
    obtain ⟨m1, m2, m3⟩ := MK_all_n (N 0 0) hn
    have mk0 : MK (2 ^ N 0 0 - 1) (fun x => decide (x < N 0 0)) := ⟨m2, m3⟩
    rw [sms3.1.1, m1, MK_cl _ m2 t (by omega)]
    have mk1 := mk0.less (b := t) (by omega)
    generalize hR : (fun b x => stN N l u t b x || stN N l v t b x) = R
    have hRn : ∀ b x, b < N 0 0 → R b x = true → x < N 0 0 := by
      intro b x hb h
      rw [← hR] at h
      have h' : (stN N l u t b x || stN N l v t b x) = true := h
      rcases Bool.or_eq_true_iff.mp h' with h | h
      · exact st_in hN hu1 hu hb h
      · exact st_in hN hv1 hv hb h
    have hRt : ∀ x, R t x = false := fun x => by
      rw [← hR]
      show (stN N l u t t x || stN N l v t t x) = false
      rw [stN_self hN hu1 hu ht, stN_self hN hv1 hv ht]; rfl
    have erg : rgN N l u v t ↔ hasR (N 0 0) R := by rw [← hR]; exact Iff.rfl
    refine pk_loop (σ := Int32) (fun fu r v5 => w_X9_hasRing_60 fu v5 (nI r) s3 Q) (fun r v5 => ∃ B L, v5 = nI B ∧ MK B L ∧ (∀ x, N 0 0 ≤ x → L x = false) ∧ elI (N 0 0) R r L) (N 0 0) 0 _ (by omega) ⟨_, _, rfl, mk1, fun x hx => ?_, elI_0 fun S hS2 b hb hSb => ?_⟩ ?_ ?_
    · show (if x = t then false else decide (x < N 0 0)) = false
      rw [if_neg (by omega)]; simp; omega
    · show (if b = t then false else decide (b < N 0 0)) = true
      by_cases e : b = t
      · exfalso
        obtain ⟨x, x1, x2, x3⟩ := hS2 b hb hSb
        rw [e, hRt] at x2; exact absurd x2 (by decide)
      · rw [if_neg e]; simp; omega
    · rintro fu v5 ⟨B, L, rfl, hB, hout, hE⟩
      rw [w_X9_hasRing_60, hB.nz]
      have hiff := elI_end hE
      refine pk_le (N 0 0) (N 0 0) (fun _ => ⟨fun h => hq _ _ (hK0 s3 kk fun z => ?_), fun h => hq _ _ (hK1 s3 kk ?_)⟩) (fun h => by omega) sms3.1.1 rfl
      · obtain ⟨b, hb, hlb⟩ := hiff.mpr (erg.mp z)
        rw [h b (by omega)] at hlb
        exact absurd hlb (by decide)
      · refine erg.mpr (hiff.mp ?_)
        obtain ⟨x, hx⟩ := Classical.not_forall.mp h
        obtain ⟨h6, hx⟩ := Classical.not_imp.mp hx
        have hLx : L x = true := by cases q : L x; exact absurd q hx; rfl
        refine ⟨x, ?_, hLx⟩
        rcases Nat.lt_or_ge x (N 0 0) with c | c
        · exact c
        · rw [hout x c] at hLx; exact absurd hLx (by decide)
    · rintro fu r v5 hr ⟨B, L, rfl, hB, hout, hE⟩ hnext
      rw [w_X9_hasRing_60]
      refine pk_le (N 0 0) r (fun h => by omega) (fun _ => ?_) sms3.1.1 rfl
      generalize hKK : (fun (v5_1 v6_1 : Int32) σ1 => w_X9_hasRing_60 fu v5_1 (v6_1 + (1 : Int32)) σ1 Q) = KK
      have hkk : ∀ v5, (∃ B L, v5 = nI B ∧ MK B L ∧ (∀ x, N 0 0 ≤ x → L x = false) ∧ elI (N 0 0) R (r + 1) L) → KK v5 (nI r) s3 := fun v5 h => by
        rw [← hKK]
        show w_X9_hasRing_60 fu v5 (nI r + 1) s3 Q
        rw [nI_1]
        exact hnext v5 h
      clear hKK hnext
      refine pk_loop (σ := Int32) (fun fu j v5 => w_X9_hasRing_72 fu v5 (nI r) (nI j) s3 Q KK) (fun j v5 => ∃ B L', v5 = nI B ∧ MK B L' ∧ (∀ x, N 0 0 ≤ x → L' x = false) ∧ elJ (N 0 0) R L j L') (N 0 0) 0 _ (by omega) ⟨B, L, rfl, hB, hout, elJ_0 hE⟩ ?_ ?_
      · rintro fu v5 ⟨B, L', rfl, hB', hout', hJ⟩
        rw [w_X9_hasRing_72]
        exact pk_le (N 0 0) (N 0 0) (fun _ => hkk _ ⟨B, L', rfl, hB', hout', elJ_end hE hJ⟩) (fun h => by omega) sms3.1.1 rfl
      · rintro fu j v5 hj ⟨B, L', rfl, hB', hout', hJ⟩ hnext
        obtain ⟨A, a1, a2⟩ := h3 j hj
        have eR : ∀ x, ((false || stN N l u t j x) || stN N l v t j x) = R j x := fun x => by rw [← hR, Bool.false_or]
        rw [w_X9_hasRing_72, nI_clamp (n := j) (by omega), a1, a2.and0 hB', MK_cl B hB'.1 j (by omega), nI_1]
        refine pk_le (N 0 0) j (fun h => by omega) (fun _ => ⟨vp_in_nI (by omega) (by decide), fun h => hnext _ ⟨B, L', rfl, hB', hout', elJ_keep hj hJ ?_⟩, fun h => hnext _ ⟨_, _, rfl, hB'.less (by omega), fun x hx => ?_, elJ_drop hj hJ ?_⟩⟩) sms3.1.1 rfl
        · obtain ⟨x, hx⟩ := Classical.not_forall.mp h
          obtain ⟨h6, hx⟩ := Classical.not_imp.mp hx
          have hx' := Classical.not_not.mp hx
          have : R j x = true := by rw [← eR]; exact hx'.1
          exact ⟨x, hRn j x hj this, this, hx'.2⟩
        · show (if x = j then false else L' x) = false
          rw [hout' x hx]; split <;> rfl
        · rintro ⟨x, x1, x2, x3⟩
          exact h x (by omega) ⟨by rw [← eR] at x2; exact x2, x3⟩
  · rintro fu b s hb ⟨hk, h16⟩ hnext
    rw [w_X9_hasRing_3, nI_clamp (n := b) (by omega), nI_1]
    refine pk_le 6 b (fun h => by omega) (fun _ => ⟨vp_in_nI hb (by decide), hnext _ ⟨hk.wi, fun b' hb' => ?_⟩⟩)
    rw [ds_wi_1]
    by_cases e : b' = b
    · rw [if_pos ⟨rfl, e⟩]; rfl
    · rw [if_neg (fun z => e z.2)]; exact h16 b' (by omega)
theorem ev_ringOf {N : Nt} (hN : Nok N) {σ : ds_S} (hS : SM N (N 4) 99 (N 7) σ) {l u v : Nat} (hl : l < N 0 7) (hu1 : 1 ≤ u) (hu : u ≤ 20) (hv1 : 1 ≤ v) (hv : v ≤ 20) {K : Int32 → ds_S → Prop} (hK : ∀ r s, kR σ s → RF N l u v r → K r s) : ds_EI mt_X9_ringOf Ym [.ref 0, .int (nI l), .int (nI u), .int (nI v)] σ K := by
  have hn := hN.1.2
  refine e_X9_ringOf (nI l) (nI u) (nI v) σ _ ?_
  generalize hQ : (fun r σ' => ∃ x, r = some (Value.int x) ∧ K x σ') = Q
  have hq : ∀ x s, K x s → Q (some (.int x)) s := fun x s h => by rw [← hQ]; exact ⟨x, rfl, h⟩
  clear hQ
  unfold w_X9_ringOf
  refine pk_loop (fun fu t s => w_X9_ringOf_3 fu (nI l) (nI u) (nI v) (nI t) s Q) (fun t s => kR σ s ∧ ∀ t', t' < t → ¬ rgN N l u v t') (N 0 0) 0 σ (by omega) ⟨kR.refl _, fun t' h => by omega⟩ ?_ ?_
  · rintro fu s ⟨hk, h⟩
    have sms := hS.r (s := s) fun c k hc => hk.1 c k (by omega) (by omega)
    rw [w_X9_ringOf_3]
    exact pk_le (N 0 0) (N 0 0) (fun _ => hq _ _ (hK _ s hk (Or.inr ⟨h, rfl⟩))) (fun h => by omega) sms.1.1 rfl
  · rintro fu t s ht ⟨hk, h⟩ hnext
    have sms := hS.r (s := s) fun c k hc => hk.1 c k (by omega) (by omega)
    rw [w_X9_ringOf_3, nI_1]
    refine pk_le (N 0 0) t (fun h => by omega) (fun _ => ev_hasRingM hN sms hl hu1 hu hv1 hv ht (fun s2 hk2 hr => ⟨fun _ => hnext s2 ⟨hk.trans hk2, fun t' ht' => ?_⟩, fun z => absurd rfl z⟩) (fun s2 hk2 hr => ⟨fun z => absurd z (by decide), fun _ => hq _ _ (hK _ s2 (hk.trans hk2) (Or.inl ⟨t, ht, hr, h, rfl⟩))⟩)) sms.1.1 rfl
    by_cases e : t' = t
    · rw [e]; exact hr
    · exact h t' (by omega)
