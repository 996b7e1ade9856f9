/-! the class's flows -/
theorem ev_fillL {c L : Nat} {v : Int64} {σ : ds_S} {K : ds_S → Prop} (hk : ds_k Yc c 11) (hL : Yc.2.2.1 c = L) (hn : L < 2 ^ 31) (h : ∀ s, s.1 = σ.1 → (∀ c', c' ≠ c → s.2 c' = σ.2 c') → (∀ k, k < L → s.2 c k = v) → K s) : ds_EV mt_J7_fill_d0a16 Yc [.ref c, .long v] σ K := by
  refine e_J7_fill_d0a16 c v σ _ ⟨hk, ?_⟩
  generalize hQ : (fun r σ' => r = none ∧ K σ') = Q
  have hq : ∀ s, K s → Q none s := fun s h => by rw [← hQ]; exact ⟨rfl, h⟩
  clear hQ
  rw [hL]
  refine pk_loop (fun fu i s => w_J7_fill_d0a16_6 fu c v (nI i) (nI L) s Q) (fun i s => s.1 = σ.1 ∧ (∀ c', c' ≠ c → s.2 c' = σ.2 c') ∧ ∀ k, k < i → s.2 c k = v) L 0 σ (by omega) ⟨rfl, fun _ _ => rfl, fun k h => by omega⟩ ?_ ?_
  · rintro fu s ⟨h1, h2, h3⟩
    rw [w_J7_fill_d0a16_6]
    exact pk_le L L (fun _ => hq _ (h s h1 h2 h3)) (fun h => by omega)
  · rintro fu i s hi ⟨h1, h2, h3⟩ hnext
    rw [w_J7_fill_d0a16_6, hL, nI_clamp (n := i) (by omega), nI_1]
    refine pk_le L i (fun h => by omega) (fun _ => ⟨hk, vp_in_nI hi hn, hnext _ ⟨h1, fun c' hc' => ?_, fun k hk2 => ?_⟩⟩)
    · rw [ds_wl_row _ _ _ _ hc']; exact h2 c' hc'
    · rw [ds_wl_2]
      by_cases q : k = i
      · rw [if_pos ⟨rfl, q⟩]
      · rw [if_neg (fun z => q z.2)]; exact h3 k (by omega)
section CD
variable {n m t tw : Nat} {fa fb w : Nat → Nat} {th : Nat → Bool} {d : Nat → Nat} {σ : ds_S}
theorem ev_divide (hG : Gok n m fa fb w) (hm : m ≤ 10) (ht : t < 6) (h1 : σ.1 1 1 = nI m) (h61 : ∀ l, l < m → σ.1 61 l = nI (fa l)) (hW : nxR n fa fb w th d t m σ) {c e : Nat} (hc : c < n) {A F X : Nat → Nat} (hF0 : ∀ l, l < m → tlD fa fb w th d l = c → F l = 0) (hS : FS 10 9 n m d fa fb (tlD fa fb w th d) A F X σ) {K : ds_S → Prop}
    (hK : ∀ s, kL 10 9 σ s → FS 10 9 n m d fa fb (tlD fa fb w th d) A (goF (tlD fa fb w th d) c e F) (goX (tlD fa fb w th d) (hdD fa fb w th d) c e X m) s → K s) : ds_EV mt_X0_divide Yc [.ref 8, .ref 1, .ref (20 + t), .int (nI c), .long (lN e)] σ K := by
  have hn := hG.1
  refine e_X0_divide (20 + t) (nI c) (lN e) σ _ ?_
  generalize hQ : (fun r σ' => r = none ∧ K σ') = Q
  have hq : ∀ s, K s → Q none s := fun s h => by rw [← hQ]; exact ⟨rfl, h⟩
  clear hQ
  obtain ⟨⟨y0, y1, y3, y4, y5⟩, ⟨z0, z1, z3, z4, z5⟩, -⟩ := ways_at t ht
  obtain ⟨k0, k1, k2, k3, k4, k5⟩ := ways_k t ht
  unfold w_X0_divide
  refine pk_loop (fun fu j s => w_X0_divide_3 fu (20 + t) (nI c) (lN e) (nI j) s Q) (fun j s => kL 10 9 σ s ∧ FS 10 9 n m d fa fb (tlD fa fb w th d) A (goFj (tlD fa fb w th d) c e F j) (goX (tlD fa fb w th d) (hdD fa fb w th d) c e X j) s) m 0 σ (by omega) ⟨kL.refl _ _ _, ?_⟩ ?_ ?_
  · have e1 : goFj (tlD fa fb w th d) c e F 0 = F := by funext l; exact if_neg (by omega)
    rw [e1]
    exact hS
  · rintro fu s ⟨hk, hs⟩
    rw [w_X0_divide_3]
    exact pk_le m m (fun _ => hq _ (hK s hk (fl_end hs))) (fun h => by omega) (by rw [hk.1]; exact h1) rfl
  · rintro fu j s hj ⟨hk, hs⟩ hnext
    rw [w_X0_divide_3, y4, z4, nI_clamp (n := j) (by omega), hk.1, h61 j hj, nI_1]
    obtain ⟨g1, g2, g3, g4, g5⟩ := hG.2 j hj
    have vj : vp_in (nI j) 10 := vp_in_nI (by omega) (by decide)
    obtain ⟨t9, tn⟩ := hW.1 j hj
    have iff : σ.1 (44 + t) j = nI c ↔ tlD fa fb w th d j = c := by
      by_cases q : tlD fa fb w th d j = 99
      · rw [t9 q]
        exact ⟨fun e => absurd e.symm (m1_nI (by omega)), fun e => by omega⟩
      · rw [(tn q).1]
        have := (tlD_some (th := th) (d := d) hG hj q).1
        exact nI_eq (by omega) (by omega)
    have b47 : tlD fa fb w th d j = c → ∀ y, y ≤ 1 → (c = if y = 0 then fa j else fb j) → w_X0_divide_47 (20 + t) (nI c) (lN e) (nI j) (nI y) ((2 : Int32) * nI j) s Q (fun v3_1 v4_1 v6_1 σ1 => w_X0_divide_3 fu (20 + t) v3_1 v4_1 v6_1 σ1 Q) := by
      intro htj y hy hcy
      have h9 : tlD fa fb w th d j ≠ 99 := by omega
      have sm := tlD_some (th := th) (d := d) hG hj h9
      have vh : vp_in (nI (hdD fa fb w th d j)) 6 := vp_in_nI (by omega) (by decide)
      have vy : vp_in (nI (2 * j + y)) 20 := vp_in_nI (by omega) (by decide)
      have ix : (2 : Int32) * nI j + nI y = nI (2 * j + y) := by rw [show (2 : Int32) = nI 2 from rfl, pk_mul, nI_add]
      unfold w_X0_divide_47
      rw [y5, z5, ix, nI_clamp (n := 2 * j + y) (by omega), nI_clamp (n := j) (by omega), hk.1, (tn h9).2, nI_clamp (n := hdD fa fb w th d j) (by omega), nI_1]
      exact ⟨vy, vy, k0, k5, vj, vh, vh, hnext _ ⟨hk.step, fl_step (by decide) hj g3 hy htj hcy (hF0 j hj htj) hs sm.2.1 (by omega)⟩⟩
    refine pk_le m j (fun h => by omega) (fun _ => ⟨k0, k4, vj, fun h => hnext s ⟨hk, fl_skip (fun z => h (iff.mpr z)) hs⟩, fun h => ⟨vj, pk_ne (fa j) c (fun q => ?_) (fun q => ?_)⟩⟩) h1 rfl
    · have htj := iff.mp h
      refine b47 htj 1 (by omega) ?_
      rcases tlD_cases (th := th) (d := d) hG hj with ⟨e, _⟩ | ⟨e, _⟩ | ⟨e, _⟩
      · omega
      · omega
      · rw [if_neg (by decide)]; omega
    · exact b47 (iff.mp h) 0 (by omega) (by rw [if_pos rfl]; exact q.symm)
theorem cmp_le0 {v : Nat} (h : v < 2 ^ 63) : lg_cmp (lN v) 0 ≤ 0 ↔ v = 0 := by
  rw [lg_cmp_le, lN_le0 h]
theorem ev_pass (hG : Gok n m fa fb w) (hm : m ≤ 10) (htn : t < n) (hd : isD n m fa fb w th t d) (h1 : σ.1 1 1 = nI m) (h61 : ∀ l, l < m → σ.1 61 l = nI (fa l)) (hW : WOK n m fa fb w th d t σ) {A x0 : Nat → Nat} (hxb : ∀ b, b < n → x0 b ≤ 1000000) (hS : FS 10 9 n m d fa fb (tlD fa fb w th d) A (fun _ => 0) (fun b => x0 b * 151200) σ) {K : ds_S → Prop}
    (hK : ∀ s F X, kL 10 9 σ s → isF n m d (tlD fa fb w th d) (hdD fa fb w th d) 151200 x0 X F → (∀ k, k < 2 * m → s.2 10 k = lN (A k + ov fa fb (tlD fa fb w th d) F k)) → K s) : ds_EV mt_X0_pass Yc [.ref 8, .ref 1, .ref (20 + t)] σ K := by
  have hn := hG.1
  have ht : t < 6 := by omega
  refine e_X0_pass (20 + t) σ _ ?_
  generalize hQ : (fun r σ' => r = none ∧ K σ') = Q
  have hq : ∀ s, K s → Q none s := fun s h => by rw [← hQ]; exact ⟨rfl, h⟩
  clear hQ
  obtain ⟨⟨y0, y1, y3, y4, y5⟩, ⟨z0, z1, z3, z4, z5⟩, -⟩ := ways_at t ht
  obtain ⟨k0, k1, k2, k3, k4, k5⟩ := ways_k t ht
  obtain ⟨-, hnx, r, o, hr, hrn, hr0, hord, hoD, hall⟩ := id hW
  have hFG : FG n m d (tlD fa fb w th d) (hdD fa fb w th d) := fgD (t := t) hG hm
  have hptl : ∀ b, pt (tlD fa fb w th d) b m ≤ m := fun b => by rw [← ptD_pt]; exact ptD_le ..
  have bdX : sumN x0 n * 151200 < 2 ^ 63 := by
    have h1 : sumN x0 n ≤ sumN (fun _ => 1000000) n := sumN_le hxb
    have h2 : ∀ k, k ≤ 6 → sumN (fun _ => 1000000) k ≤ 6000000 := by decide
    have h3 := h2 n hn
    omega
  unfold w_X0_pass
  obtain ⟨r', rfl⟩ : ∃ r', r = r' + 1 := ⟨r - 1, by omega⟩
  rw [hr, nI_pred]
  refine ⟨k0, r' + 1, pk_loopD (fun fu i s => w_X0_pass_7 fu (20 + t) (nI i) s Q) (fun i s => i ≤ r' ∧ ∃ dn X F, kL 10 9 σ s ∧ FI n m d (tlD fa fb w th d) (hdD fa fb w th d) 151200 x0 dn X F ∧ FS 10 9 n m d fa fb (tlD fa fb w th d) A F X s ∧ ∀ x, x < n → (dn x = true ↔ ∃ j, i < j ∧ j < r' + 1 ∧ o j = x)) ?_ ?_ r' σ ⟨Nat.le_refl _, fun _ => false, _, _, kL.refl _ _ _, FI_0 hFG (pt_dvd hFG) (fun b _ _ => rfl), hS, fun x _ => ⟨fun z => absurd z Bool.false_ne_true, fun ⟨j, a, b, _⟩ => by omega⟩⟩⟩
  · rintro fu s ⟨-, dn, X, F, hk, hFI, hFS, hdn⟩
    rw [w_X0_pass_7]
    refine ⟨fun _ => hq _ (hK s F X hk (FI_end hFG hFI fun b hb hdb hpb => ?_) hFS.1), fun h => absurd (by decide) h⟩
    rw [hdn b hb]
    obtain ⟨j, hj, hjb⟩ := hall b hb hdb
    refine ⟨j, ?_, hj, hjb⟩
    rcases Nat.eq_zero_or_pos j with q | q
    · exfalso
      have hbt : b = t := by rw [← hjb, q]; exact hoD.2.2.2 (by omega)
      apply hpb
      unfold pt
      refine sumN_zero fun l hl => if_neg fun z => ?_
      have sm := tlD_some (th := th) (d := d) hG hl (by omega)
      have g := hG.2 l hl
      rw [z, hbt, hd.1.1] at sm
      omega
    · exact q
  · rintro fu i s ⟨hi, dn, X, F, hk, hFI, hFS, hdn⟩ hnext
    have hi' : i + 1 < r' + 1 := by omega
    have ho := hoD.1 (i + 1) hi'
    have hno : dn (o (i + 1)) = false := by
      cases q : dn (o (i + 1))
      · rfl
      · obtain ⟨j, a, b, c⟩ := (hdn _ ho.1).mp q
        have := hoD.2.1 j (i + 1) b hi' c
        omega
    have hmax : ∀ y, y < n → d y < 1000 → dn y = false → d y ≤ d (o (i + 1)) := by
      intro y hy hdy hny
      obtain ⟨j, hj, hjy⟩ := hall y hy hdy
      have : ¬ i + 1 < j := fun z => by
        have := (hdn y hy).mpr ⟨j, z, hj, hjy⟩
        rw [hny] at this
        exact absurd this (by decide)
      rw [← hjy]
      exact hoD.2.2.1 j (i + 1) (by omega) hi'
    have hdn' : ∀ x, x < n → ((if x = o (i + 1) then true else dn x) = true ↔ ∃ j, i < j ∧ j < r' + 1 ∧ o j = x) := by
      intro x hx
      by_cases q : x = o (i + 1)
      · rw [if_pos q]
        exact ⟨fun _ => ⟨i + 1, by omega, hi', q.symm⟩, fun _ => rfl⟩
      · rw [if_neg q, hdn x hx]
        constructor
        · rintro ⟨j, a, b, c⟩
          exact ⟨j, by omega, b, c⟩
        · rintro ⟨j, a, b, c⟩
          refine ⟨j, ?_, b, c⟩
          by_cases e : j = i + 1
          · rw [e] at c; exact absurd c.symm q
          · omega
    have hF0 : ∀ l, l < m → tlD fa fb w th d l = o (i + 1) → F l = 0 := fun l hl htl => (hFI.2.1 l hl).2 (Or.inr (by rw [htl]; exact hno))
    have step := FI_step hFG hFI ho.1 ho.2 hno hmax
    have bX := hFI.2.2.2.2.2 _ ho.1 ho.2
    have ev : s.1 (32 + t) (i + 1) = nI (o (i + 1)) := by rw [hk.1]; exact hord _ hi'
    have ep : s.1 (38 + t) (o (i + 1)) = nI (pt (tlD fa fb w th d) (o (i + 1)) m) := by rw [hk.1, ← ptD_pt]; exact hnx.2 _ ho.1
    have ea : s.2 9 (o (i + 1)) = lN (X (o (i + 1))) := hFS.2 _ ho.1 ho.2
    have v1 : vp_in (nI (i + 1)) 6 := vp_in_nI (by omega) (by decide)
    have v2 : vp_in (nI (o (i + 1))) 6 := vp_in_nI (by omega) (by decide)
    have hp := hptl (o (i + 1))
    show w_X0_pass_7 (fu + 1) (20 + t) (nI (i + 1)) s Q
    rw [w_X0_pass_7, y1, z1, y3, z3, nI_clamp (n := i + 1) (by omega), ev, nI_clamp (n := o (i + 1)) (by omega), ep, ea, pk_m1, nI_l (n := pt (tlD fa fb w th d) (o (i + 1)) m) (by omega)]
    refine ⟨fun h => absurd h (nI_nle (by omega) (by omega)), fun _ => ⟨k0, k2, v1, v2, fun h => ?_, fun h => ⟨k0, k3, v2, fun h2 => ?_, fun h2 => ⟨v2, k0, k3, v2, ?_, ?_⟩⟩⟩⟩
    · have x0' := (cmp_le0 (by omega)).mp h
      refine hnext s ⟨by omega, _, _, _, hk, step, fl_none (Or.inr ⟨?_, hF0⟩) hFS, hdn'⟩
      rw [x0', Nat.zero_div]
    · have p0 : pt (tlD fa fb w th d) (o (i + 1)) m = 0 := by
        have := (nI_leI (a := pt (tlD fa fb w th d) (o (i + 1)) m) (b := 0) (by omega) (by omega)).mp h2
        omega
      exact hnext s ⟨by omega, _, _, _, hk, step, fl_none (Or.inl p0) hFS, hdn'⟩
    · intro z
      have := (pk_lNe0 (by omega)).mp z
      rw [this] at h2
      exact h2 (by decide)
    · have p1 : 0 < pt (tlD fa fb w th d) (o (i + 1)) m := by
        rcases Nat.eq_zero_or_pos (pt (tlD fa fb w th d) (o (i + 1)) m) with q | q
        · rw [q] at h2; exact absurd (by decide) h2
        · exact q
      rw [pk_lDiv (by omega) p1 (by omega)]
      refine ev_divide hG hm ht (by rw [hk.1]; exact h1) (fun l hl => by rw [hk.1]; exact h61 l hl) ?_ ho.1 hF0 hFS fun s' hs' hFS' => hnext s' ⟨by omega, _, _, _, hk.trans hs', step, hFS', hdn'⟩
      unfold nxR
      rw [hk.1]
      exact hnx
end CD
