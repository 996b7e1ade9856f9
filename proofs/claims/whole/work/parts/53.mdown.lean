section MD
variable {n m t : Nat} {fa fb w : Nat → Nat} {th : Nat → Bool} {d : Nat → Nat} {σ : ds_S}
/-- what the reference's goDown changes -/
def kD (σ s : ds_S) : Prop := s.1 = σ.1 ∧ ∀ c k, c ≠ 10 → c ≠ 11 → ¬ (c = 0 ∧ k = 16) → s.2 c k = σ.2 c k
theorem kD.refl (σ : ds_S) : kD σ σ := ⟨rfl, fun _ _ _ _ _ => rfl⟩
theorem kD.wl {σ s : ds_S} {c k : Nat} {x : Int64} (h : kD σ s) (hc : c = 10 ∨ c = 11 ∨ (c = 0 ∧ k = 16)) : kD σ (ds_wl s c k x) := ⟨h.1, fun c' k' h1 h2 h3 => by rw [ds_wl_2, if_neg (by omega)]; exact h.2 c' k' h1 h2 h3⟩
theorem kD.l {σ s s' : ds_S} (h : kD σ s) (h2 : kL 11 10 s s') : kD σ s' := ⟨h2.1.trans h.1, fun c k h3 h4 h5 => by rw [h2.2 c h4 h3]; exact h.2 c k h3 h4 h5⟩
theorem kD.k {σ s : ds_S} (h : kD σ s) : kM σ s := ⟨fun c k _ _ => by rw [h.1], fun c k h1 h2 => h.2 c k (by omega) (by omega) (by omega)⟩
theorem ev_goDown (hG : Gok n m fa fb w) (hm : m ≤ 10) (hd : isD n m fa fb w th t d) (hM : GM n m fa fb w th σ) (hf : ∀ x, x < n → σ.1 9 x = nI (fm d x)) {x0 : Nat → Nat} (hx : ∀ b, b < n → σ.2 10 b = lN (x0 b)) (hxb : ∀ b, b < n → x0 b ≤ 1000000) {K : ds_S → Prop}
    (hK : ∀ s F X, kD σ s → isF n m d (tlD fa fb w th d) (hdD fa fb w th d) (prodN (fun b => max 1 (pt (tlD fa fb w th d) b m)) n) x0 X F → s.2 0 16 = lN (prodN (fun b => max 1 (pt (tlD fa fb w th d) b m)) n) → (∀ k, k < 2 * m → s.2 11 k = lN (ov fa fb (tlD fa fb w th d) F k)) → K s) : ds_EV mt_X9_goDown Ym [.ref 0] σ K := by
  have hn := hG.1
  refine e_X9_goDown σ _ ?_
  generalize hQ : (fun r σ' => r = none ∧ K σ') = Q
  have hq : ∀ s, K s → Q none s := fun s h => by rw [← hQ]; exact ⟨rfl, h⟩
  clear hQ
  have hFG : FG n m d (tlD fa fb w th d) (hdD fa fb w th d) := fgD (t := t) hG hm
  have hptl : ∀ b, pt (tlD fa fb w th d) b m ≤ m := fun b => by rw [← ptD_pt]; exact ptD_le ..
  unfold w_X9_goDown
  generalize hK3 : (fun (v1_3 : Int32) σ3 => ∃ n, w_X9_goDown_122 n v1_3 (0 : Int32) σ3 Q) = K3
  generalize hK2 : (fun σ2 => ∃ n, w_X9_goDown_74 n (0 : Int32) (0 : Int32) σ2 Q K3) = K2
  generalize hK1 : (fun σ1 => ∃ n, w_X9_goDown_51 n (0 : Int32) σ1 Q K2) = K1
  refine pk_loop (fun fu i s => w_X9_goDown_7 fu (nI i) s Q K1) (fun i s => kD σ s ∧ (∀ b, b < n → s.2 10 b = lN (x0 b)) ∧ s.2 0 16 = lN (prodN (fun b => max 1 (pt (tlD fa fb w th d) b m)) i)) n 0 _ (by omega) ⟨(kD.refl σ).wl (by omega), fun b hb => by rw [ds_wl_2, if_neg (by omega)]; exact hx b hb, by rw [ds_wl_2, if_pos ⟨rfl, rfl⟩]; rfl⟩ ?_ ?_
  · rintro fu s ⟨hk, hx', hW⟩
    rw [w_X9_goDown_7]
    refine pk_le n n (fun _ => ?_) (fun h => by omega) (by rw [hk.1]; exact hM.1) rfl
    rw [← hK1]
    refine pk_loop (fun fu i s => w_X9_goDown_51 fu (nI i) s Q K2) (fun i s => kD σ s ∧ (∀ b, b < n → s.2 10 b = lN (x0 b)) ∧ s.2 0 16 = lN (prodN (fun b => max 1 (pt (tlD fa fb w th d) b m)) n) ∧ ∀ k, k < i → s.2 11 k = lN 0) 20 0 s (by omega) ⟨hk, hx', hW, fun k h => by omega⟩ ?_ ?_
    · rintro fu s ⟨hk, hx', hW, hz⟩
      rw [w_X9_goDown_51]
      refine pk_le 20 20 (fun _ => ?_) (fun h => by omega)
      rw [← hK2]
      refine pk_loop (fun fu i s => w_X9_goDown_74 fu 0 (nI i) s Q K3) (fun i s => kD σ s ∧ (∀ b, b < n → i ≤ b → s.2 10 b = lN (x0 b)) ∧ (∀ b, b < n → b < i → d b < 1000 → s.2 10 b = lN (x0 b * prodN (fun b => max 1 (pt (tlD fa fb w th d) b m)) n)) ∧ s.2 0 16 = lN (prodN (fun b => max 1 (pt (tlD fa fb w th d) b m)) n) ∧ ∀ k, k < 20 → s.2 11 k = lN 0) n 0 s (by omega) ⟨hk, fun b hb _ => hx' b hb, fun b _ h => by omega, hW, hz⟩ ?_ ?_
      · rintro fu s ⟨hk, -, hx', hW, hz⟩
        rw [w_X9_goDown_74]
        refine pk_le n n (fun _ => ?_) (fun h => by omega) (by rw [hk.1]; exact hM.1) rfl
        rw [← hK3]
        have bdW := pt_prod_le hFG
        have bdX : sumN x0 n * prodN (fun b => max 1 (pt (tlD fa fb w th d) b m)) n < 2 ^ 63 := by
          have h1 : sumN x0 n ≤ sumN (fun _ => 1000000) n := sumN_le hxb
          have h2 : ∀ k, k ≤ 6 → sumN (fun _ => 1000000) k ≤ 6000000 := by decide
          have h3 := h2 n hn
          have : sumN x0 n * prodN (fun b => max 1 (pt (tlD fa fb w th d) b m)) n ≤ 6000000 * 151200 := Nat.mul_le_mul (by omega) bdW
          omega
        generalize hWW : prodN (fun b => max 1 (pt (tlD fa fb w th d) b m)) n = W at *
        refine pk_loop (σ := Int32 × ds_S) (fun fu i v => w_X9_goDown_122 fu v.1 (nI i) v.2 Q) (fun i v => ∃ dn X F, kD σ v.2 ∧ v.2.2 0 16 = lN W ∧ FI n m d (tlD fa fb w th d) (hdD fa fb w th d) W x0 dn X F ∧ FS 11 10 n m d fa fb (tlD fa fb w th d) (fun _ => 0) F X v.2 ∧ (∀ x, x < n → q_bit v.1 (nI x) = if dn x = true then 1 else 0) ∧ ((∀ x, x < n → d x < 1000 → dn x = true) ∨ fa_cnt dn n = i)) n 0 (0, s) (by omega) ⟨fun _ => false, fun b => x0 b * W, fun _ => 0, hk, hW, FI_0 hFG (by rw [hWW]; exact Nat.dvd_refl _) (fun b _ _ => rfl), ⟨fun k hk2 => ?_, fun b hb hdb => hx' b hb hb hdb⟩, fun x hx2 => ?_, Or.inr (cnt_none n)⟩ ?_ ?_
        · show s.2 11 k = _
          rw [hz k (by omega)]
          simp [ov]
        · show q_bit 0 (nI x) = 0
          have : ∀ x, x < 10 → q_bit 0 (nI x) = 0 := by decide +kernel
          exact this x (by omega)
        · rintro fu ⟨v, s⟩ ⟨dn, X, F, hk, hW, hFI, hFS, hv, hend⟩
          have hk' : kD σ s := hk
          show w_X9_goDown_122 (fu + 1) v (nI n) s Q
          rw [w_X9_goDown_122]
          refine pk_le n n (fun _ => hq _ (hK s F X hk' (FI_end hFG hFI fun b hb hdb _ => ?_) hW fun k hk2 => ?_)) (fun h => by omega) (by rw [hk'.1]; exact hM.1) rfl
          · rcases hend with h | h
            · exact h b hb hdb
            · exact cnt_full n h b hb
          · rw [hFS.1 k hk2, Nat.zero_add]
        · rintro fu i ⟨v, s⟩ hi ⟨dn, X, F, hk, hW, hFI, hFS, hv, hend⟩ hnext
          have hk' : kD σ s := hk
          have hv' : ∀ x, x < n → q_bit v (nI x) = if dn x = true then 1 else 0 := hv
          have hFS' : FS 11 10 n m d fa fb (tlD fa fb w th d) (fun _ => 0) F X s := hFS
          have hf' : ∀ x, x < n → s.1 9 x = nI (fm d x) := fun x hx => by rw [hk'.1]; exact hf x hx
          have hM' := hM.eq1 hk'.1
          show w_X9_goDown_122 (fu + 1) v (nI i) s Q
          rw [w_X9_goDown_122]
          refine pk_le n i (fun h => by omega) (fun _ => ?_) hM'.1 rfl
          generalize hKK : (fun (v1_1 v2_1 v3_1 : Int32) (σ1 : ds_S) => ((v3_1 < 0 → w_X9_goDown_122 fu v1_1 (v2_1 + (1 : Int32)) σ1 Q) ∧ (¬ v3_1 < 0 → ds_EV mt_X9_parts Ym [.ref 0, .int v3_1] σ1 (fun σ2 => w_X9_goDown_122 fu (v1_1 ||| ((1 : Int32) <<< (v3_1 &&& 31))) (v2_1 + (1 : Int32)) σ2 Q)))) = KK
          have hkk : ∀ u, (u = -1 ∧ ∀ y, y < n → d y < 1000 → dn y = true) ∨ (∃ c, u = nI c ∧ c < n ∧ d c < 1000 ∧ dn c = false ∧ ∀ y, y < n → d y < 1000 → dn y = false → d y ≤ d c) → KK v (nI i) u s := by
            intro u hu
            rw [← hKK]
            show (u < 0 → w_X9_goDown_122 fu v (nI i + 1) s Q) ∧ (¬ u < 0 → ds_EV mt_X9_parts Ym [.ref 0, .int u] s (fun σ2 => w_X9_goDown_122 fu (v ||| ((1 : Int32) <<< (u &&& 31))) (nI i + 1) σ2 Q))
            rw [nI_1]
            rcases hu with ⟨rfl, hu⟩ | ⟨c, rfl, hc, hdc, hnc, hmax⟩
            · exact ⟨fun _ => hnext (v, s) ⟨dn, X, F, hk', hW, hFI, hFS', hv', Or.inl hu⟩, fun h => absurd (by decide) h⟩
            · refine ⟨fun h => absurd h (nI_pos (by omega)), fun _ => ev_parts hG hm hd hM' hf' hc hdc (fun l hl htl => (hFI.2.1 l hl).2 (Or.inr (by rw [htl]; exact hnc))) (Nat.lt_of_le_of_lt (hFI.2.2.2.2.2 c hc hdc) bdX) hFS' fun s' hs' hFS2 => hnext (_, s') ⟨_, _, _, hk'.l hs', ?_, FI_step hFG hFI hc hdc hnc hmax, hFS2, q_bit_more (by omega) hc hv', ?_⟩⟩
              · show s'.2 0 16 = _
                rw [hs'.2 0 (by decide) (by decide)]; exact hW
              · rcases hend with h | h
                · have := h c hc hdc
                  rw [hnc] at this
                  exact absurd this (by decide)
                · right
                  rw [cnt_up hnc n hc, h]
          clear hKK hnext
          refine pk_loop (σ := Int32) (fun fu j u => w_X9_goDown_135 fu v (nI i) u (nI j) s Q KK) (fun j u => (u = -1 ∧ ∀ y, y < j → d y < 1000 → dn y = true) ∨ (∃ c, u = nI c ∧ c < n ∧ d c < 1000 ∧ dn c = false ∧ ∀ y, y < j → d y < 1000 → dn y = false → d y ≤ d c)) n 0 (-1) (by omega) (Or.inl ⟨rfl, fun y h => by omega⟩) ?_ ?_
          · rintro fu u hu
            rw [w_X9_goDown_135]
            exact pk_le n n (fun _ => hkk u hu) (fun h => by omega) hM'.1 rfl
          · rintro fu j u hj hu hnext
            rw [w_X9_goDown_135]
            have vj : vp_in (nI j) 6 := vp_in_nI (by omega) (by decide)
            have qv : ((v >>> (nI j &&& 31)) &&& (1 : Int32)) = if dn j = true then 1 else 0 := hv' j hj
            have bj := hd.1.2.1 j hj
            have bfj : fm d j ≤ 1000000 := by unfold fm; split <;> omega
            rw [qv, nI_clamp (n := j) (by omega), hf' j hj, nI_1]
            refine pk_le n j (fun h => by omega) (fun _ => ?_) hM'.1 rfl
            have stay : (dn j = true ∨ 1000 ≤ d j ∨ ∃ c, u = nI c ∧ c < n ∧ d c < 1000 ∧ d j ≤ d c) → w_X9_goDown_135 fu v (nI i) u (nI (j + 1)) s Q KK := by
              intro hs
              refine hnext u ?_
              rcases hu with ⟨rfl, hu⟩ | ⟨c, rfl, hc, hdc, hnc, hmax⟩
              · refine Or.inl ⟨rfl, fun y hy hdy => ?_⟩
                by_cases q : y = j
                · subst q
                  rcases hs with h | h | ⟨c, h, hc, _⟩
                  · exact h
                  · omega
                  · exact absurd h.symm (m1_nI (by omega))
                · exact hu y (by omega) hdy
              · refine Or.inr ⟨c, rfl, hc, hdc, hnc, fun y hy hdy hny => ?_⟩
                by_cases q : y = j
                · subst q
                  rcases hs with h | h | ⟨c', h, hc', _, h2⟩
                  · rw [h] at hny; exact absurd hny (by decide)
                  · omega
                  · have := (nI_eq (by omega) (by omega)).mp h
                    subst this; exact h2
                · exact hmax y (by omega) hdy hny
            cases hdj : dn j with
            | true => exact ⟨fun _ => stay (Or.inl hdj), fun h => absurd h (by decide)⟩
            | false =>
              refine ⟨fun h => absurd rfl h, fun _ => ⟨vj, pk_le 1000000 (fm d j) (fun h => stay (Or.inr (Or.inl ?_))) (fun h => ?_)⟩⟩
              · unfold fm at h; split at h <;> omega
              · have hdj1 : d j < 1000 := by unfold fm at h; split at h <;> omega
                have ej : fm d j = d j := if_pos hdj1
                rcases hu with ⟨rfl, hu⟩ | ⟨c, rfl, hc, hdc, hnc, hmax⟩
                · refine ⟨fun _ => hnext _ (Or.inr ⟨j, rfl, hj, hdj1, hdj, fun y hy hdy hny => ?_⟩), fun h => absurd (by decide) h⟩
                  by_cases q : y = j
                  · rw [q]; exact Nat.le_refl _
                  · have := hu y (by omega) hdy
                    rw [hny] at this; exact absurd this (by decide)
                · have ec : fm d c = d c := if_pos hdc
                  refine ⟨fun h => absurd h (nI_pos (by omega)), fun _ => ⟨vj, vp_in_nI (by omega) (by decide), ?_⟩⟩
                  rw [nI_clamp (n := c) (by omega), hf' c hc, ec, ej]
                  refine pk_le (d j) (d c) (fun h => stay (Or.inr (Or.inr ⟨c, rfl, hc, hdc, h⟩))) (fun h => hnext _ (Or.inr ⟨j, rfl, hj, hdj1, hdj, fun y hy hdy hny => ?_⟩))
                  by_cases q : y = j
                  · rw [q]; exact Nat.le_refl _
                  · have := hmax y (by omega) hdy hny
                    omega
      · rintro fu i s hi ⟨hk, hxa, hxb', hW, hz⟩ hnext
        rw [w_X9_goDown_74]
        have vi : vp_in (nI i) 6 := vp_in_nI (by omega) (by decide)
        have bi := hd.1.2.1 i hi
        have bfi : fm d i ≤ 1000000 := by unfold fm; split <;> omega
        have ef : s.1 9 i = nI (fm d i) := by rw [hk.1]; exact hf i hi
        rw [nI_clamp (n := i) (by omega), ef, hxa i hi (Nat.le_refl _), hW, lN_mul, nI_1]
        refine pk_le n i (fun h => by omega) (fun _ => ⟨vi, pk_le 1000000 (fm d i) (fun h => ⟨vi, hnext _ ⟨hk.wl (by omega), fun b hb hib => ?_, fun b hb hib hdb => ?_, ?_, fun k hk2 => ?_⟩⟩) (fun h => ⟨vi, vi, hnext _ ⟨hk.wl (by omega), fun b hb hib => ?_, fun b hb hib hdb => ?_, ?_, fun k hk2 => ?_⟩⟩)⟩) (by rw [hk.1]; exact hM.1) rfl
        · rw [ds_wl_2, if_neg (by omega)]; exact hxa b hb (by omega)
        · by_cases q : b = i
          · exfalso; rw [q] at hdb; unfold fm at h; rw [if_pos hdb] at h; omega
          · rw [ds_wl_2, if_neg (by omega)]; exact hxb' b hb (by omega) hdb
        · rw [ds_wl_2, if_neg (by omega)]; exact hW
        · rw [ds_wl_2, if_neg (by omega)]; exact hz k hk2
        · rw [ds_wl_2, if_neg (by omega)]; exact hxa b hb (by omega)
        · by_cases q : b = i
          · rw [ds_wl_2, if_pos ⟨rfl, q⟩, q]
          · rw [ds_wl_2, if_neg (by omega)]; exact hxb' b hb (by omega) hdb
        · rw [ds_wl_2, if_neg (by omega)]; exact hW
        · rw [ds_wl_2, if_neg (by omega)]; exact hz k hk2
    · rintro fu i s hi ⟨hk, hx', hW, hz⟩ hnext
      rw [w_X9_goDown_51]
      have vi : vp_in (nI i) 20 := vp_in_nI (by omega) (by decide)
      rw [nI_clamp (n := i) (by omega), nI_1]
      refine pk_le 20 i (fun h => by omega) (fun _ => ⟨vi, hnext _ ⟨hk.wl (by omega), fun b hb => ?_, ?_, fun k hk2 => ?_⟩⟩)
      · rw [ds_wl_2, if_neg (by omega)]; exact hx' b hb
      · rw [ds_wl_2, if_neg (by omega)]; exact hW
      · by_cases q : k = i
        · rw [ds_wl_2, if_pos ⟨rfl, q⟩]; rfl
        · rw [ds_wl_2, if_neg (by omega)]; exact hz k (by omega)
  · rintro fu i s hi ⟨hk, hx', hW⟩ hnext
    rw [w_X9_goDown_7]
    have hf' : ∀ x, x < n → s.1 9 x = nI (fm d x) := fun x hx => by rw [hk.1]; exact hf x hx
    have hM' := hM.eq1 hk.1
    refine pk_le n i (fun h => by omega) (fun _ => (ev_nextOf hG hm hd hM' hf' hi).mo ?_) hM'.1 rfl
    rintro r s' ⟨rfl, rfl⟩
    rw [q_ones_nb fa fb w th d i hm, hW, nI_1]
    have hp := hptl i
    have fin : ∀ v, v = max 1 (pt (tlD fa fb w th d) i m) → w_X9_goDown_7 fu (nI (i + 1)) (ds_wl s' 0 16 (lN (prodN (fun b => max 1 (pt (tlD fa fb w th d) b m)) i) * lN v)) Q K1 := by
      intro v hv
      refine hnext _ ⟨hk.wl (by omega), fun b hb => ?_, ?_⟩
      · rw [ds_wl_2, if_neg (by omega)]; exact hx' b hb
      · rw [ds_wl_2, if_pos ⟨rfl, rfl⟩, lN_mul, hv]; rfl
    refine pk_le (pt (tlD fa fb w th d) i m) 0 (fun h => fin 1 (by omega)) (fun h => ?_)
    rw [nI_l (by omega)]
    exact fin _ (by omega)
end MD
