/-! the reference's sums -/
theorem pk_ne {x y : Int32} {A B : Prop} (a b : Nat) (g : a ≠ b → B) (f : a = b → A) (hx : x = nI a := by rfl) (hy : y = nI b := by rfl) (ha : a < 2 ^ 31 := by omega) (hb : b < 2 ^ 31 := by omega) : (¬ x = y → B) ∧ (x = y → A) := And.symm (pk_eq a b f g hx hy ha hb)
/-- what the reference's ways read -/
def GM (n m : Nat) (fa fb w : Nat → Nat) (th : Nat → Bool) (σ : ds_S) : Prop := σ.1 0 0 = nI n ∧ σ.1 0 7 = nI m ∧ ∀ l, l < m → σ.1 1 l = nI (fa l) ∧ σ.1 2 l = nI (fb l) ∧ σ.1 4 l = nI (w l) ∧ q_th (σ.1 6 l) (nI l) (σ.1 0 13) = (if th l = true then 1 else 0)
section MF
variable {n m t : Nat} {fa fb w : Nat → Nat} {th : Nat → Bool} {d f : Nat → Nat} {σ : ds_S}
theorem upd_nI {r : Nat → Int32} {f : Nat → Nat} {n x v : Nat} (h : ∀ z, z < n → r z = nI (f z)) : ∀ z, z < n → upd r x (nI v) z = nI (if z = x then v else f z) := by
  intro z hz
  by_cases e : z = x
  · rw [e, pk_us, if_pos rfl]
  · rw [pk_un e, if_neg e]; exact h z hz
theorem far_129 (hG : Gok n m fa fb w) (hM : GM n m fa fb w th σ) (hm : m ≤ 10) {l : Nat} (hl : l < m) {r : Nat → Int32} (hr : ∀ x, x < n → r x = nI (f x)) (hf : ∀ x, x < n → f x ≤ 1000000) {v2 t0 t1 v4 v5 : Int32} (h0 : t0 = nI (rlx f (fa l) (fb l) (w l) (fa l))) (h1 : t1 = nI (fa l)) (h4 : v4 = nI (fa l)) (h5 : v5 = nI (fb l)) {Q : Option Value → ds_S → Prop} {K : Int32 → Int32 → ds_S → Prop}
    (hK : ∀ r', (∀ x, x < n → r' x = nI (rlx (rlx f (fa l) (fb l) (w l)) (fb l) (fa l) (w l) x)) → K v2 (nI (l + 1)) (ds_si σ 9 r')) : w_X9_findFar_129 v2 (nI l) v4 v5 t0 t1 (ds_si σ 9 r) Q K := by
  obtain ⟨g1, g2, g3, g4, g5⟩ := hG.2 l hl
  have hn := hG.1
  subst h1 h4 h5
  unfold w_X9_findFar_129
  have va : vp_in (nI (fa l)) 6 := vp_in_nI (by omega) (by decide)
  have vb : vp_in (nI (fb l)) 6 := vp_in_nI (by omega) (by decide)
  have vl : vp_in (nI l) 10 := vp_in_nI (by omega) (by decide)
  have ew : (ds_si σ 9 r).1 4 l = nI (w l) := (hM.2.2 l hl).2.2.1
  rw [nI_clamp (n := fa l) (by omega), nI_clamp (n := fb l) (by omega), nI_clamp (n := l) (by omega), ew, ds_wi_si, h0]
  have hr2 := upd_nI (x := fa l) (v := rlx f (fa l) (fb l) (w l) (fa l)) hr
  have hr3 : ∀ z, z < n → upd r (fa l) (nI (rlx f (fa l) (fb l) (w l) (fa l))) z = nI (rlx f (fa l) (fb l) (w l) z) := by
    intro z hz
    rw [hr2 z hz]
    split
    · next e => rw [e]
    · next e => congr 1; unfold rlx; rw [if_neg (fun q => e q.1)]
  generalize hg : rlx f (fa l) (fb l) (w l) = g at *
  have hgl : ∀ x, x < n → g x ≤ 1000000 := fun x hx => Nat.le_trans (by rw [← hg]; exact rlx_le ..) (hf x hx)
  generalize upd r (fa l) (nI (g (fa l))) = r2 at *
  have e1 : (ds_si σ 9 r2).1 9 (fa l) = nI (g (fa l)) := hr3 _ g1
  have e2 : (ds_si σ 9 r2).1 9 (fb l) = nI (g (fb l)) := hr3 _ g2
  have b1 := hgl _ g1
  have b2 := hgl _ g2
  rw [e1, e2, nI_add, ds_wi_si, ds_wi_si, nI_1]
  refine ⟨va, va, vl, vb, pk_le (g (fb l)) (g (fa l) + w l) (fun h => ⟨vb, vb, hK _ fun x hx => ?_⟩) (fun h => ⟨va, vl, vb, hK _ fun x hx => ?_⟩)⟩
  · have hr' : rlx g (fb l) (fa l) (w l) x = g x := if_neg (fun q => by omega)
    rw [upd_nI hr3 x hx, hr']
    congr 1
    split
    · next e => rw [e]
    · rfl
  · rw [upd_nI hr3 x hx]
    unfold rlx
    congr 1
    by_cases e : x = fb l
    · rw [if_pos e, if_pos ⟨e, h⟩]
    · rw [if_neg e, if_neg (fun q => e q.1)]
theorem ev_findFar (hG : Gok n m fa fb w) (hm : m ≤ 10) (ht : t < n) (hd : isD n m fa fb w th t d) (hM : GM n m fa fb w th σ) {K : ds_S → Prop} (hK : ∀ r, (∀ x, x < n → r x = nI (if d x < 1000 then d x else 1000000)) → K (ds_si σ 9 r)) : ds_EV mt_X9_findFar Ym [.ref 0, .int (nI t)] σ K := by
  have hn := hG.1
  refine e_X9_findFar (nI t) σ _ ?_
  generalize hQ : (fun r σ' => r = none ∧ K σ') = Q
  have hq : ∀ r, (∀ x, x < n → r x = nI (if d x < 1000 then d x else 1000000)) → Q none (ds_si σ 9 r) := fun r h => by rw [← hQ]; exact ⟨rfl, hK r h⟩
  clear hQ hK
  unfold w_X9_findFar
  generalize hK1 : (fun σ1 => ∃ n, w_X9_findFar_33 n (0 : Int32) σ1 Q) = K1
  refine pk_loop (fun fu i s => w_X9_findFar_2 fu (nI t) (nI i) s Q K1) (fun i s => ∃ r, s = ds_si σ 9 r ∧ ∀ x, x < i → r x = nI (if x = t then 0 else 1000000)) 6 0 σ (by omega) ⟨σ.1 9, (ds_si_self σ 9).symm, fun x hx => by omega⟩ ?_ ?_
  · intro fu s ⟨r, hs, hr⟩
    rw [w_X9_findFar_2]
    refine ⟨fun _ => ?_, fun h => absurd (show (6 : Int32) ≤ nI 6 by decide) h⟩
    rw [← hK1]
    refine pk_loop (fun fu i s => w_X9_findFar_33 fu (nI i) s Q) (fun i s => ∃ f r, s = ds_si σ 9 r ∧ (∀ x, x < n → r x = nI (f x)) ∧ preD 1000000 n m fa fb w th t f ∧ rdD n d f i) n 0 s (by omega) ?_ ?_ ?_
    · have hp : preD 1000000 n m fa fb w th t (fun x => if x = t then 0 else 1000000) := by
        refine ⟨by simp, fun x _ => ?_, fun x _ hxt hlt => ?_⟩
        · by_cases e : x = t <;> simp [e]
        · simp [hxt] at hlt
      exact ⟨_, r, hs, fun x hx => hr x (by omega), hp, rdD_0 hG hd hp⟩
    · rintro fu s ⟨f, r, rfl, hr, hp, hk⟩
      rw [w_X9_findFar_33]
      have e0 : (ds_si σ 9 r).1 0 0 = nI n := hM.1
      refine ⟨fun _ => hq r fun x hx => ?_, fun h => absurd (by rw [e0]; exact nI_le (Nat.le_refl _) (by omega)) h⟩
      rw [hr x hx, rdD_end hG hd (by omega) hp hk hx]
    · rintro fu i s hi ⟨f, r, rfl, hr, hp, hk⟩ hnext
      rw [w_X9_findFar_33]
      have e0 : (ds_si σ 9 r).1 0 0 = nI n := hM.1
      refine pk_le n i (fun h => by omega) (fun _ => ?_) e0 rfl
      generalize hK2 : (fun v2_1 σ1 => w_X9_findFar_33 fu (v2_1 + (1 : Int32)) σ1 Q) = K2
      have hk2 : ∀ s', (∃ f r, s' = ds_si σ 9 r ∧ (∀ x, x < n → r x = nI (f x)) ∧ preD 1000000 n m fa fb w th t f ∧ rdD n d f (i + 1)) → K2 (nI i) s' := fun s' h => by
        rw [← hK2]
        show w_X9_findFar_33 fu (nI i + 1) s' Q
        rw [nI_1]
        exact hnext s' h
      clear hK2 hnext
      refine pk_loop (fun fu j s => w_X9_findFar_43 fu (nI i) (nI j) s Q K2) (fun j s => ∃ g r, s = ds_si σ 9 r ∧ (∀ x, x < n → r x = nI (g x)) ∧ preD 1000000 n m fa fb w th t g ∧ (∀ x, g x ≤ f x) ∧ ∀ l, l < j → th l = true → g (fa l) ≤ f (fb l) + w l ∧ g (fb l) ≤ f (fa l) + w l) m 0 _ (by omega) ⟨f, r, rfl, hr, hp, fun _ => Nat.le_refl _, fun l h => by omega⟩ ?_ ?_
      · rintro fu s ⟨g, r, rfl, hr, hp, hle, hg⟩
        rw [w_X9_findFar_43]
        have e0 : (ds_si σ 9 r).1 0 7 = nI m := hM.2.1
        exact pk_le m m (fun _ => hk2 _ ⟨g, r, rfl, hr, hp, rdD_succ hG hd hp hk hg⟩) (fun h => by omega) e0 rfl
      · rintro fu j s hj ⟨g, r, rfl, hr, hp, hle, hg⟩ hnext
        rw [w_X9_findFar_43]
        have e0 : (ds_si σ 9 r).1 0 7 = nI m := hM.2.1
        obtain ⟨x1, x2, x3, x4⟩ := hM.2.2 j hj
        have y1 : (ds_si σ 9 r).1 1 j = nI (fa j) := x1
        have y2 : (ds_si σ 9 r).1 2 j = nI (fb j) := x2
        have y3 : (ds_si σ 9 r).1 4 j = nI (w j) := x3
        have y4 : q_th ((ds_si σ 9 r).1 6 j) (nI j) ((ds_si σ 9 r).1 0 13) = (if th j = true then 1 else 0) := x4
        obtain ⟨g1, g2, g3, g4, g5⟩ := hG.2 j hj
        have vj : vp_in (nI j) 10 := vp_in_nI (by omega) (by decide)
        have va : vp_in (nI (fa j)) 6 := vp_in_nI (by omega) (by decide)
        have vb : vp_in (nI (fb j)) 6 := vp_in_nI (by omega) (by decide)
        refine pk_le m j (fun h => by omega) (fun _ => ?_) e0 rfl
        rw [nI_clamp (n := j) (by omega), y4, y1, y2, y3, nI_clamp (n := fa j) (by omega), nI_clamp (n := fb j) (by omega)]
        have e1 : (ds_si σ 9 r).1 9 (fa j) = nI (g (fa j)) := hr _ g1
        have e2 : (ds_si σ 9 r).1 9 (fb j) = nI (g (fb j)) := hr _ g2
        rw [e1, e2, nI_add, nI_1]
        have b1 := hp.2.1 _ g1
        have b2 := hp.2.1 _ g2
        refine ⟨vj, vj, vj, fun h => ?_, fun h => ?_⟩
        · have hth : th j = false := by
            cases e : th j
            · rfl
            · rw [e] at h; simp at h
          refine hnext _ ⟨g, r, rfl, hr, hp, hle, fun l hl htl => ?_⟩
          by_cases e : l = j
          · rw [e, hth] at htl; exact absurd htl (by decide)
          · exact hg l (by omega) htl
        · have hth : th j = true := by
            cases e : th j
            · rw [e] at h; simp at h
            · rfl
          have fin : ∀ r', (∀ x, x < n → r' x = nI (rlx (rlx g (fa j) (fb j) (w j)) (fb j) (fa j) (w j) x)) → w_X9_findFar_43 fu (nI i) (nI (j + 1)) (ds_si σ 9 r') Q K2 := by
            intro r' hr'
            have q1 : ∀ x, rlx g (fa j) (fb j) (w j) x ≤ g x := fun x => rlx_le ..
            have q2 : ∀ x, rlx (rlx g (fa j) (fb j) (w j)) (fb j) (fa j) (w j) x ≤ rlx g (fa j) (fb j) (w j) x := fun x => rlx_le ..
            refine hnext _ ⟨_, r', rfl, hr', (hp.rel hG hj hth (Or.inl ⟨rfl, rfl⟩)).rel hG hj hth (Or.inr ⟨rfl, rfl⟩), fun x => Nat.le_trans (q2 x) (Nat.le_trans (q1 x) (hle x)), fun l hl htl => ?_⟩
            by_cases e : l = j
            · subst e
              have s1 := rlx_got g (fa l) (fb l) (w l)
              have s2 := rlx_got (rlx g (fa l) (fb l) (w l)) (fb l) (fa l) (w l)
              have s3 := q1 (fa l)
              have s4 := q2 (fa l)
              have s5 := hle (fa l)
              have s6 := hle (fb l)
              constructor <;> omega
            · have s1 := hg l (by omega) htl
              have s2 := q1 (fa l)
              have s3 := q2 (fa l)
              have s4 := q1 (fb l)
              have s5 := q2 (fb l)
              constructor <;> omega
          refine ⟨vb, vj, va, pk_le (g (fa j)) (g (fb j) + w j) (fun h => ⟨va, ?_⟩) (fun h => ⟨vb, vj, ?_⟩)⟩
          · refine far_129 hG hM hm hj hr hp.2.1 ?_ rfl rfl rfl fin
            rw [rlx_at, if_neg (by omega)]
          · refine far_129 hG hM hm hj hr hp.2.1 ?_ rfl rfl rfl fin
            rw [rlx_at, if_pos h]
  · rintro fu i s hi ⟨r, rfl, hr⟩ hnext
    rw [w_X9_findFar_2]
    have vi : vp_in (nI i) 6 := vp_in_nI (by omega) (by decide)
    refine pk_le 6 i (fun h => by omega) (fun _ => ?_)
    rw [nI_clamp (n := i) (by omega), ds_wi_si, ds_wi_si, nI_1]
    have nx : ∀ v, v = (if i = t then 0 else 1000000) → w_X9_findFar_2 fu (nI t) (nI (i + 1)) (ds_si σ 9 (upd r i (nI v))) Q K1 := by
      intro v hv
      refine hnext _ ⟨_, rfl, fun x hx => ?_⟩
      by_cases e : x = i
      · rw [e, pk_us, hv]
      · rw [pk_un e]; exact hr x (by omega)
    exact pk_ne i t (fun h => ⟨vi, nx 1000000 (by rw [if_neg h])⟩) (fun h => ⟨vi, nx 0 (by rw [if_pos h])⟩)
end MF
