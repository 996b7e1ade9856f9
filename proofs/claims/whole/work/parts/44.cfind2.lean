section CF
variable {n m t tw : Nat} {fa fb w : Nat → Nat} {th : Nat → Bool} {d f : Nat → Nat} {σ : ds_S}
theorem ev_nearest (hn : n ≤ 6) (ht : t < 6) {v : Int32} {dn : Nat → Bool} (h0 : σ.1 1 0 = nI n) (hf : ∀ x, x < n → σ.1 (26 + t) x = nI (f x)) (hf2 : ∀ x, x < n → f x ≤ 1000) (hv : ∀ x, x < n → q_bit v (nI x) = if dn x = true then 0 else 1) {K : Int32 → ds_S → Prop} (hK0 : (∀ y, y < n → dn y = false → 1000 ≤ f y) → K (-1) σ) (hK1 : ∀ b, b < n → dn b = false → f b < 1000 → (∀ y, y < n → dn y = false → f b ≤ f y) → K (nI b) σ) : ds_EI mt_X7_nearest Yc [.ref (20 + t), .ref 1, .int v] σ K := by
  refine e_X7_nearest (20 + t) v σ _ ?_
  generalize hQ : (fun r σ' => ∃ x, r = some (Value.int x) ∧ K x σ') = Q
  have hq : ∀ x, K x σ → Q (some (.int x)) σ := fun x h => by rw [← hQ]; exact ⟨x, rfl, h⟩
  clear hQ
  obtain ⟨⟨y0, -⟩, ⟨y1, -⟩, -⟩ := ways_at t ht
  obtain ⟨k0, k1, -⟩ := ways_k t ht
  refine pk_loop (σ := Int32 × Int32) (fun fu i s => w_X7_nearest_10 fu (20 + t) v s.1 s.2 (nI i) σ Q) (fun i s => (s = (-1, 1000) ∧ ∀ y, y < i → dn y = false → 1000 ≤ f y) ∨ ∃ b, s = (nI b, nI (f b)) ∧ b < i ∧ dn b = false ∧ f b < 1000 ∧ ∀ y, y < i → dn y = false → f b ≤ f y) n 0 (-1, 1000) (by omega) (Or.inl ⟨rfl, fun y hy => by omega⟩) ?_ ?_
  · intro fu s hs
    show w_X7_nearest_10 (fu + 1) (20 + t) v s.1 s.2 (nI n) σ Q
    rw [w_X7_nearest_10]
    refine pk_le n n (fun _ => ?_) (fun h => by omega) h0 rfl
    rcases hs with ⟨rfl, h⟩ | ⟨b, rfl, h1, h2, h3, h4⟩
    · exact hq _ (hK0 h)
    · exact hq _ (hK1 b h1 h2 h3 h4)
  · intro fu i s hi hs hnext
    show w_X7_nearest_10 (fu + 1) (20 + t) v s.1 s.2 (nI i) σ Q
    rw [w_X7_nearest_10, y0, y1, nI_clamp (n := i) (by omega), hf i hi, nI_1]
    have vi : vp_in (nI i) 6 := vp_in_nI (by omega) (by decide)
    refine pk_le n i (fun h => by omega) (fun _ => ⟨k0, k1, vi, ?_⟩) h0 rfl
    have qv : ((v >>> (nI i &&& 31)) &&& (1 : Int32)) = if dn i = true then 0 else 1 := hv i hi
    rw [qv]
    have hfi := hf2 i hi
    have nx : ∀ a b, _ → w_X7_nearest_10 fu (20 + t) v a b (nI (i + 1)) σ Q := fun a b h => hnext (a, b) h
    have stay : dn i = true ∨ (∃ u, s.2 = nI u ∧ u ≤ f i) → w_X7_nearest_10 fu (20 + t) v s.1 s.2 (nI (i + 1)) σ Q := by
      intro hc
      refine hnext s ?_
      rcases hs with ⟨rfl, h⟩ | ⟨b, rfl, h1, h2, h3, h4⟩
      · refine Or.inl ⟨rfl, fun y hy hd => ?_⟩
        by_cases e : y = i
        · subst e
          rcases hc with hc | ⟨u, hu, hc⟩
          · rw [hc] at hd; exact absurd hd (by decide)
          · have : nI 1000 = nI u := hu
            by_cases hb : u < 2 ^ 31
            · have := (nI_eq (a := 1000) (by omega) hb).mp this; omega
            · omega
        · exact h y (by omega) hd
      · refine Or.inr ⟨b, rfl, by omega, h2, h3, fun y hy hd => ?_⟩
        by_cases e : y = i
        · subst e
          rcases hc with hc | ⟨u, hu, hc⟩
          · rw [hc] at hd; exact absurd hd (by decide)
          · have : nI (f b) = nI u := hu
            by_cases hb : u < 2 ^ 31
            · have := (nI_eq (by omega) hb).mp this; omega
            · omega
        · exact h4 y (by omega) hd
    obtain ⟨u, hu, hub, huy⟩ : ∃ u, s.2 = nI u ∧ u ≤ 1000 ∧ ∀ y, y < i → dn y = false → u ≤ f y := by
      rcases hs with ⟨rfl, h⟩ | ⟨b, rfl, h1, h2, h3, h4⟩
      · exact ⟨1000, rfl, by omega, h⟩
      · exact ⟨f b, rfl, by omega, h4⟩
    refine pk_le u (f i) (fun h => stay (Or.inr ⟨u, hu, h⟩)) (fun h => ?_) hu rfl
    cases hdi : dn i with
    | true =>
      refine ⟨fun _ => stay (Or.inl hdi), fun h => absurd h (by decide)⟩
    | false =>
      refine ⟨fun h => absurd rfl h, fun _ => ⟨k0, k1, vi, ?_⟩⟩
      refine nx _ _ (Or.inr ⟨i, rfl, by omega, hdi, by omega, fun y hy hd => ?_⟩)
      by_cases e : y = i
      · rw [e]; exact Nat.le_refl _
      · have := huy y (by omega) hd
        omega
theorem come_66 (hG : Gok n m fa fb w) (hm : m ≤ 10) (ht : t < 6) (hw : TW tw) (hC : GC n m fa fb w tw σ) {l b o : Nat} (hl : l < m) (hb : b < n) (ho : o < n) {r : Nat → Int32} (hr : ∀ x, x < n → r x = nI (f x)) (hf : ∀ x, x < n → f x ≤ 1000) {v4 t0 : Int32} (h0 : t0 = nI o) {Q : Option Value → ds_S → Prop} {K : Int32 → Int32 → Int32 → ds_S → Prop}
    (hK : ∀ r', (∀ x, x < n → r' x = nI (rlx f o b (w l) x)) → K (nI b) v4 (nI (l + 1)) (ds_si σ (26 + t) r')) : w_X7_comeNearerBy_66 (20 + t) tw (nI b) v4 (nI l) t0 (ds_si σ (26 + t) r) Q K := by
  have hn := hG.1
  obtain ⟨g1, g2, g3, g4, g5⟩ := hG.2 l hl
  subst h0
  unfold w_X7_comeNearerBy_66
  obtain ⟨⟨y0, -⟩, ⟨y1, -⟩, -⟩ := ways_at t ht
  obtain ⟨k0, k1, -⟩ := ways_k t ht
  obtain ⟨k2, y2, y3⟩ := hw
  have vb : vp_in (nI b) 6 := vp_in_nI (by omega) (by decide)
  have vo : vp_in (nI o) 6 := vp_in_nI (by omega) (by decide)
  have vl : vp_in (nI l) 10 := vp_in_nI (by omega) (by decide)
  have ew : (ds_si σ (26 + t) r).1 tw l = nI (w l) := by rw [ds_si_1, if_neg (by omega)]; exact (hC.2.2 l hl).2.2
  have eb : (ds_si σ (26 + t) r).1 (26 + t) b = nI (f b) := by rw [ds_si_1, if_pos rfl]; exact hr b hb
  have eo : (ds_si σ (26 + t) r).1 (26 + t) o = nI (f o) := by rw [ds_si_1, if_pos rfl]; exact hr o ho
  rw [y0, y1, y2, nI_clamp (n := b) (by omega), nI_clamp (n := o) (by omega), nI_clamp (n := l) (by omega), ew, eb, eo, nI_add, ds_wi_si, ds_wi_si, nI_1]
  have b1 := hf b hb
  have b2 := hf o ho
  refine ⟨k0, k1, vb, k2, vl, k0, k0, k1, vo, pk_le (f o) (f b + w l) (fun h => ⟨k0, k1, vo, k1, vo, hK _ fun x hx => ?_⟩) (fun h => ⟨k1, vo, hK _ fun x hx => ?_⟩)⟩
  · have hr' : rlx f o b (w l) x = f x := if_neg (fun q => by omega)
    rw [upd_nI hr x hx, hr']
    congr 1
    split
    · next e => rw [e]
    · rfl
  · rw [upd_nI hr x hx]
    unfold rlx
    congr 1
    by_cases e : x = o
    · rw [if_pos e, if_pos ⟨e, h⟩]
    · rw [if_neg e, if_neg (fun q => e q.1)]
theorem ev_come (hG : Gok n m fa fb w) (hm : m ≤ 10) (ht : t < 6) (htn : t < n) (hw : TW tw) (hd : isD n m fa fb w th t d) (hC : GC n m fa fb w tw σ) {v : Int32} (hv : ∀ l, l < m → q_bit v (nI l) = if th l = true then 1 else 0) {b : Nat} (hb : b < n) (hfr : ∀ x, x < n → σ.1 (26 + t) x = nI (f x)) (hf : preD 1000 n m fa fb w th t f) (hfb : f b = d b) {K : ds_S → Prop}
    (hK : ∀ r g, (∀ x, x < n → r x = nI (g x)) → preD 1000 n m fa fb w th t g → (∀ x, g x ≤ f x) → (∀ l, l < m → th l = true → (fa l = b → g (fb l) ≤ d b + w l) ∧ (fb l = b → g (fa l) ≤ d b + w l)) → K (ds_si σ (26 + t) r)) : ds_EV mt_X7_comeNearerBy Yc [.ref (20 + t), .int (nI b), .ref 1, .ref tw, .int v] σ K := by
  have hn := hG.1
  refine e_X7_comeNearerBy (20 + t) (nI b) tw v σ _ ?_
  generalize hQ : (fun r σ' => r = none ∧ K σ') = Q
  have hq : ∀ s, K s → Q none s := fun s h => by rw [← hQ]; exact ⟨rfl, h⟩
  clear hQ
  refine pk_loop (fun fu i s => w_X7_comeNearerBy_3 fu (20 + t) tw (nI b) v (nI i) s Q) (fun j s => ∃ g r, s = ds_si σ (26 + t) r ∧ (∀ x, x < n → r x = nI (g x)) ∧ preD 1000 n m fa fb w th t g ∧ (∀ x, g x ≤ f x) ∧ ∀ l, l < j → th l = true → (fa l = b → g (fb l) ≤ d b + w l) ∧ (fb l = b → g (fa l) ≤ d b + w l)) m 0 σ (by omega) ⟨f, σ.1 (26 + t), (ds_si_self _ _).symm, hfr, hf, fun _ => Nat.le_refl _, fun l h => by omega⟩ ?_ ?_
  · rintro fu s ⟨g, r, rfl, hr, hp, hle, hg⟩
    rw [w_X7_comeNearerBy_3]
    have e1 : (ds_si σ (26 + t) r).1 1 1 = nI m := by rw [ds_si_1, if_neg (by omega)]; exact hC.2.1
    exact pk_le m m (fun _ => hq _ (hK r g hr hp hle hg)) (fun h => by omega) e1 rfl
  · rintro fu j s hj ⟨g, r, rfl, hr, hp, hle, hg⟩ hnext
    rw [w_X7_comeNearerBy_3]
    have e1 : (ds_si σ (26 + t) r).1 1 1 = nI m := by rw [ds_si_1, if_neg (by omega)]; exact hC.2.1
    obtain ⟨x1, x2, x3⟩ := hC.2.2 j hj
    have z1 : (ds_si σ (26 + t) r).1 61 j = nI (fa j) := by rw [ds_si_1, if_neg (by omega)]; exact x1
    have z2 : (ds_si σ (26 + t) r).1 62 j = nI (fb j) := by rw [ds_si_1, if_neg (by omega)]; exact x2
    obtain ⟨g1, g2, g3, g4, g5⟩ := hG.2 j hj
    have vj : vp_in (nI j) 10 := vp_in_nI (by omega) (by decide)
    have gb : g b = d b := by
      have h1 := hd.le_pre hG (Nat.le_refl _) hp (g b) b hb rfl
      have h2 := hle b
      omega
    rw [nI_clamp (n := j) (by omega), z1, z2, nI_1]
    have skip : ¬ (th j = true ∧ (fa j = b ∨ fb j = b)) → w_X7_comeNearerBy_3 fu (20 + t) tw (nI b) v (nI (j + 1)) (ds_si σ (26 + t) r) Q := by
      intro hs
      refine hnext _ ⟨g, r, rfl, hr, hp, hle, fun l hl htl => ?_⟩
      by_cases e : l = j
      · subst e
        exact ⟨fun q => absurd ⟨htl, Or.inl q⟩ hs, fun q => absurd ⟨htl, Or.inr q⟩ hs⟩
      · exact hg l (by omega) htl
    have go : ∀ o, th j = true → (fa j = b ∧ fb j = o) ∨ (fb j = b ∧ fa j = o) → ∀ r', (∀ x, x < n → r' x = nI (rlx g o b (w j) x)) → w_X7_comeNearerBy_3 fu (20 + t) tw (nI b) v (nI (j + 1)) (ds_si σ (26 + t) r') Q := by
      intro o hth ho r' hr'
      have q1 : ∀ x, rlx g o b (w j) x ≤ g x := fun x => rlx_le ..
      have q2 := rlx_got g o b (w j)
      refine hnext _ ⟨_, r', rfl, hr', hp.rel hG hj hth (by rcases ho with ⟨a, c⟩ | ⟨a, c⟩; exact Or.inr ⟨c, a⟩; exact Or.inl ⟨c, a⟩), fun x => Nat.le_trans (q1 x) (hle x), fun l hl htl => ?_⟩
      by_cases e : l = j
      · subst e
        rcases ho with ⟨a, c⟩ | ⟨a, c⟩
        · exact ⟨fun _ => by rw [c]; omega, fun q => absurd (a.trans q.symm) g3⟩
        · exact ⟨fun q => absurd (q.trans a.symm) g3, fun _ => by rw [c]; omega⟩
      · have := hg l (by omega) htl
        have s1 := q1 (fa l)
        have s2 := q1 (fb l)
        exact ⟨fun q => by have := this.1 q; omega, fun q => by have := this.2 q; omega⟩
    have b42 : fa j = b ∨ fb j = b → w_X7_comeNearerBy_42 (20 + t) tw (nI b) v (nI j) (nI (fa j)) (nI (fb j)) (ds_si σ (26 + t) r) Q (fun v1_1 v4_1 v5_1 σ1 => w_X7_comeNearerBy_3 fu (20 + t) tw v1_1 v4_1 v5_1 σ1 Q) := by
      intro hab
      unfold w_X7_comeNearerBy_42
      have qv : ((v >>> (nI j &&& 31)) &&& (1 : Int32)) = if th j = true then 1 else 0 := hv j hj
      rw [qv, nI_1]
      cases hth : th j with
      | false => exact ⟨fun _ => skip (fun q => by rw [hth] at q; exact absurd q.1 (by decide)), fun h => absurd h (by decide)⟩
      | true =>
        refine ⟨fun h => absurd rfl h, fun _ => pk_ne (fa j) b (fun h => ?_) (fun h => ?_)⟩
        · have hfb' : fb j = b := by rcases hab with q | q; exact absurd q h; exact q
          exact come_66 hG hm ht hw hC hj hb g1 hr hp.2.1 rfl (go (fa j) hth (Or.inr ⟨hfb', rfl⟩))
        · exact come_66 hG hm ht hw hC hj hb g2 hr hp.2.1 rfl (go (fb j) hth (Or.inl ⟨h, rfl⟩))
    refine pk_le m j (fun h => by omega) (fun _ => ⟨vj, vj, pk_eq (fa j) b (fun h => b42 (Or.inl h)) (fun h => pk_ne (fb j) b (fun h2 => skip (fun q => by rcases q.2 with q | q; exact h q; exact h2 q)) (fun h2 => b42 (Or.inr h2)))⟩) e1 rfl
end CF
