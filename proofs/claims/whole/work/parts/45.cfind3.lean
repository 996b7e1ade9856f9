theorem i_sub_eq {a b c : Nat} (ha : a < 2 ^ 30) (hb : b < 2 ^ 30) (hc : c < 2 ^ 30) : nI a - nI b = nI c ↔ a = b + c := by
  rw [fa_eq, pk_sub_toInt ha hb, nI_toInt (by omega)]
  omega
theorem i_neg_sub (x y : Int32) : -(x - y) = y - x := by
  apply Int32.toBitVec_inj.mp
  simp only [Int32.toBitVec_neg, Int32.toBitVec_sub]
  rw [BitVec.neg_sub, BitVec.add_comm, ← BitVec.sub_eq_add_neg]
theorem i_sub_le {a b : Nat} (ha : a < 2 ^ 30) (hb : b < 2 ^ 30) : nI a - nI b ≤ 0 ↔ a ≤ b := by
  rw [fa_le, pk_sub_toInt ha hb]
  show (a : Int) - b ≤ 0 ↔ _
  omega
/-- how many of the first lines are NEXT of a box -/
def ptD (fa fb w : Nat → Nat) (th : Nat → Bool) (d : Nat → Nat) (b : Nat) : Nat → Nat
  | 0 => 0
  | k + 1 => ptD fa fb w th d b k + (if tlD fa fb w th d k = b then 1 else 0)
theorem ptD_le (fa fb w : Nat → Nat) (th : Nat → Bool) (d : Nat → Nat) (b k : Nat) : ptD fa fb w th d b k ≤ k := by
  induction k with
  | zero => exact Nat.le_refl _
  | succ k ih => rw [ptD]; split <;> omega
section CN
variable {n m t tw : Nat} {fa fb w : Nat → Nat} {th : Nat → Bool} {d f : Nat → Nat} {σ : ds_S}
/-- tails, heads and parts, of the first lines -/
def nxR (n : Nat) (fa fb w : Nat → Nat) (th : Nat → Bool) (d : Nat → Nat) (t j : Nat) (s : ds_S) : Prop := (∀ l, l < j → (tlD fa fb w th d l = 99 → s.1 (44 + t) l = -1) ∧ (tlD fa fb w th d l ≠ 99 → s.1 (44 + t) l = nI (tlD fa fb w th d l) ∧ s.1 (50 + t) l = nI (hdD fa fb w th d l))) ∧ ∀ b, b < n → s.1 (38 + t) b = nI (ptD fa fb w th d b j)
def kpN (t : Nat) (σ s : ds_S) : Prop := s.2 = σ.2 ∧ ∀ c, c ≠ 38 + t → c ≠ 44 + t → c ≠ 50 + t → s.1 c = σ.1 c
theorem nx_no {j : Nat} {s : ds_S} (hG : Gok n m fa fb w) (h9 : tlD fa fb w th d j = 99) (hR : nxR n fa fb w th d t j s) : nxR n fa fb w th d t (j + 1) (ds_wi s (44 + t) j (-1)) := by
  have hn := hG.1
  obtain ⟨h1, h2⟩ := hR
  refine ⟨fun l hl => ?_, fun b hb => ?_⟩
  · by_cases e : l = j
    · subst e
      exact ⟨fun _ => by rw [ds_wi_1, if_pos ⟨rfl, rfl⟩], fun q => absurd h9 q⟩
    · rw [ds_wi_1, if_neg (fun q => e q.2), ds_wi_1, if_neg (fun q => by omega)]
      exact h1 l (by omega)
  · rw [ds_wi_1, if_neg (by omega), h2 b hb, ptD, if_neg (by omega), Nat.add_zero]
theorem nx_yes {j T H : Nat} {s : ds_S} {x : Int32} (hT : T < n) (hG : Gok n m fa fb w) (h9 : tlD fa fb w th d j = T) (h8 : hdD fa fb w th d j = H) (hR : nxR n fa fb w th d t j s) : nxR n fa fb w th d t (j + 1) (ds_wi (ds_wi (ds_wi (ds_wi s (44 + t) j x) (44 + t) j (nI T)) (50 + t) j (nI H)) (38 + t) T (nI (ptD fa fb w th d T j + 1))) := by
  have hn := hG.1
  obtain ⟨h1, h2⟩ := hR
  refine ⟨fun l hl => ?_, fun b hb => ?_⟩
  · simp only [ds_wi_1]
    by_cases e : l = j
    · subst e
      rw [if_neg (by omega), if_neg (by omega), if_pos (by simp), if_neg (by omega), if_pos (by simp), h9, h8]
      exact ⟨fun q => by omega, fun _ => ⟨rfl, rfl⟩⟩
    · rw [if_neg (by omega), if_neg (by omega), if_neg (by omega), if_neg (by omega), if_neg (by omega), if_neg (by omega), if_neg (by omega), if_neg (by omega)]
      exact h1 l (by omega)
  · simp only [ds_wi_1]
    rw [ptD, h9]
    by_cases e : b = T
    · subst e
      rw [if_pos (by simp), if_pos rfl]
    · rw [if_neg (by omega), if_neg (by omega), if_neg (by omega), if_neg (by omega), if_neg (by omega), h2 b hb]
      rfl
theorem ev_findNext (hG : Gok n m fa fb w) (hm : m ≤ 10) (ht : t < 6) (hw : TW tw) (hd : isD n m fa fb w th t d) (hC : GC n m fa fb w tw σ) {v : Int32} (hv : ∀ l, l < m → q_bit v (nI l) = if th l = true then 1 else 0) (hfr : ∀ x, x < n → σ.1 (26 + t) x = nI (d x)) {K : ds_S → Prop}
    (hK : ∀ s, kpN t σ s → nxR n fa fb w th d t m s → K s) : ds_EV mt_X7_findNext Yc [.ref (20 + t), .ref 1, .ref tw, .int v] σ K := by
  have hn := hG.1
  refine e_X7_findNext (20 + t) tw v σ _ ?_
  generalize hQ : (fun r σ' => r = none ∧ K σ') = Q
  have hq : ∀ s, K s → Q none s := fun s h => by rw [← hQ]; exact ⟨rfl, h⟩
  clear hQ
  obtain ⟨⟨y0, y1, y3, y4, y5⟩, ⟨z0, z1, z3, z4, z5⟩, -⟩ := ways_at t ht
  obtain ⟨k0, k1, k2, k3, k4, k5⟩ := ways_k t ht
  unfold w_X7_findNext
  rw [y3]
  refine ⟨k0, ev_fill k3 (by rw [z3]; decide) ?_⟩
  rw [z3]
  refine pk_loop (fun fu i s => w_X7_findNext_11 fu (20 + t) tw v (nI i) s Q) (fun j s => kpN t σ s ∧ nxR n fa fb w th d t j s) m 0 _ (by omega) ⟨⟨rfl, fun c h1 h2 h3 => by rw [ds_si_1, if_neg h1]⟩, fun l h => by omega, fun b hb => by rw [ds_si_1, if_pos rfl, if_pos (by omega)]; rfl⟩ ?_ ?_
  · rintro fu s ⟨hs, hR⟩
    rw [w_X7_findNext_11]
    have e1 : s.1 1 1 = nI m := by rw [hs.2 1 (by omega) (by omega) (by omega)]; exact hC.2.1
    exact pk_le m m (fun _ => hq _ (hK s hs hR)) (fun h => by omega) e1 rfl
  · rintro fu j s hj ⟨hs, hR⟩ hnext
    rw [w_X7_findNext_11]
    have e1 : s.1 1 1 = nI m := by rw [hs.2 1 (by omega) (by omega) (by omega)]; exact hC.2.1
    obtain ⟨x1, x2, x3⟩ := hC.2.2 j hj
    have z1' : s.1 61 j = nI (fa j) := by rw [hs.2 61 (by omega) (by omega) (by omega)]; exact x1
    have z2' : s.1 62 j = nI (fb j) := by rw [hs.2 62 (by omega) (by omega) (by omega)]; exact x2
    have htw := hw.2.2
    have z3' : s.1 tw j = nI (w j) := by rw [hs.2 tw (by omega) (by omega) (by omega)]; exact x3
    obtain ⟨g1, g2, g3, g4, g5⟩ := hG.2 j hj
    have e2 : s.1 (26 + t) (fa j) = nI (d (fa j)) := by rw [hs.2 (26 + t) (by omega) (by omega) (by omega)]; exact hfr _ g1
    have e3 : s.1 (26 + t) (fb j) = nI (d (fb j)) := by rw [hs.2 (26 + t) (by omega) (by omega) (by omega)]; exact hfr _ g2
    have b1 := hd.1.2.1 _ g1
    have b2 := hd.1.2.1 _ g2
    have l1 : d (fa j) < 1000 → d (fa j) ≤ 100 := hd.le100 hG g1
    have l2 : d (fb j) < 1000 → d (fb j) ≤ 100 := hd.le100 hG g2
    have vj : vp_in (nI j) 10 := vp_in_nI (by omega) (by decide)
    have va : vp_in (nI (fa j)) 6 := vp_in_nI (by omega) (by decide)
    have vb : vp_in (nI (fb j)) 6 := vp_in_nI (by omega) (by decide)
    have qv : ((v >>> (nI j &&& 31)) &&& (1 : Int32)) = if th j = true then 1 else 0 := hv j hj
    rw [nI_clamp (n := j) (by omega), z1', z2', z3', y0, z0, nI_clamp (n := fa j) (by omega), nI_clamp (n := fb j) (by omega), e2, e3, i_neg_sub, qv, hw.2.1]
    refine pk_le m j (fun h => by omega) (fun _ => ⟨vj, vj, k0, k1, va, k0, k1, vb, ?_⟩) e1 rfl
    have no : tlD fa fb w th d j = 99 → w_X7_findNext_89 (20 + t) tw v (nI j) (nI (fa j)) (nI (fb j)) (nI (d (fa j)) - nI (d (fb j))) 0 s Q (fun v3_1 v4_1 σ1 => w_X7_findNext_11 fu (20 + t) tw v3_1 v4_1 σ1 Q) := by
      intro h9
      unfold w_X7_findNext_89
      rw [y4, z4, nI_clamp (n := j) (by omega), nI_1]
      refine ⟨k0, k4, vj, fun _ => hnext _ ⟨⟨hs.1, fun c h1 h2 h3 => ?_⟩, nx_no hG h9 hR⟩, fun h => absurd rfl h⟩
      show (ds_wi s (44 + t) j (-1)).1 c = _
      rw [show (ds_wi s (44 + t) j (-1)).1 c = s.1 c from if_neg h2]
      exact hs.2 c h1 h2 h3
    have fin : ∀ T H, T < n → H < n → tlD fa fb w th d j = T → hdD fa fb w th d j = H → ∀ {K' : Int32 → Int32 → ds_S → Prop}, (∀ s', kpN t σ s' ∧ nxR n fa fb w th d t (j + 1) s' → K' v (nI (j + 1)) s') → w_X7_findNext_141 (20 + t) tw v (nI j) (nI H) (nI j) (50 + t) (ds_wi (ds_wi s (44 + t) j (-1)) (44 + t) j (nI T)) Q K' := by
      intro T H hT hH h9 h8 K' hK'
      unfold w_X7_findNext_141
      have vT : vp_in (nI T) 6 := vp_in_nI (by omega) (by decide)
      have rd : (ds_wi (ds_wi (ds_wi s (44 + t) j (-1)) (44 + t) j (nI T)) (50 + t) j (nI H)).1 (44 + t) j = nI T := by
        rw [ds_wi_1, if_neg (by omega), ds_wi_1, if_pos ⟨rfl, rfl⟩]
      have rp : (ds_wi (ds_wi (ds_wi s (44 + t) j (-1)) (44 + t) j (nI T)) (50 + t) j (nI H)).1 (38 + t) T = nI (ptD fa fb w th d T j) := by
        rw [ds_wi_1, if_neg (by omega), ds_wi_1, if_neg (by omega), ds_wi_1, if_neg (by omega)]
        exact hR.2 T hT
      rw [nI_clamp (n := j) (by omega), y3, y4, z3, z4, z5, rd, nI_clamp (n := T) (by omega), rp, nI_1, nI_1]
      refine ⟨k5, vj, k0, k0, k4, vj, k3, vT, k3, vT, hK' _ ⟨⟨hs.1, fun c h1 h2 h3 => ?_⟩, nx_yes hT hG h9 h8 hR⟩⟩
      have e : ∀ (s0 : ds_S) (c0 k0 : Nat) (x0 : Int32), c ≠ c0 → (ds_wi s0 c0 k0 x0).1 c = s0.1 c := fun s0 c0 k0 x0 h => if_neg h
      rw [e _ _ _ _ h1, e _ _ _ _ h3, e _ _ _ _ h2, e _ _ _ _ h2]
      exact hs.2 c h1 h2 h3
    have yesA : th j = true → d (fa j) = d (fb j) + w j → w_X7_findNext_89 (20 + t) tw v (nI j) (nI (fa j)) (nI (fb j)) (nI (d (fa j)) - nI (d (fb j))) 1 s Q (fun v3_1 v4_1 σ1 => w_X7_findNext_11 fu (20 + t) tw v3_1 v4_1 σ1 Q) := by
      intro hth hx
      obtain ⟨h9, h8⟩ := tlD_0 (th := th) (d := d) hG hj hth (by omega) hx
      have ng : ¬ (nI (d (fa j)) - nI (d (fb j)) ≤ 0) := fun q => by have := (i_sub_le (by omega) (by omega)).mp q; omega
      unfold w_X7_findNext_89
      rw [y4, z4, nI_clamp (n := j) (by omega), nI_1]
      refine ⟨k0, k4, vj, fun h => absurd h (by decide), fun _ => ⟨k0, fun h => absurd h ng, fun _ => ?_⟩⟩
      unfold w_X7_findNext_122
      rw [z4, y5, nI_clamp (n := j) (by omega)]
      exact ⟨k4, vj, k0, fun h => absurd h ng, fun _ => fin _ _ g1 g2 h9 h8 hnext⟩
    have yesB : th j = true → d (fb j) = d (fa j) + w j → w_X7_findNext_89 (20 + t) tw v (nI j) (nI (fa j)) (nI (fb j)) (nI (d (fa j)) - nI (d (fb j))) 1 s Q (fun v3_1 v4_1 σ1 => w_X7_findNext_11 fu (20 + t) tw v3_1 v4_1 σ1 Q) := by
      intro hth hx
      obtain ⟨h9, h8⟩ := tlD_1 (th := th) (d := d) hG hj hth (by omega) hx
      have ng : (nI (d (fa j)) - nI (d (fb j)) ≤ 0) := (i_sub_le (by omega) (by omega)).mpr (by omega)
      unfold w_X7_findNext_89
      rw [y4, z4, nI_clamp (n := j) (by omega), nI_1]
      refine ⟨k0, k4, vj, fun h => absurd h (by decide), fun _ => ⟨k0, fun _ => ?_, fun h => absurd ng h⟩⟩
      unfold w_X7_findNext_122
      rw [z4, y5, nI_clamp (n := j) (by omega)]
      exact ⟨k4, vj, k0, fun _ => fin _ _ g2 g1 h9 h8 hnext, fun h => absurd ng h⟩
    cases hth : th j with
    | false =>
      refine ⟨fun _ => no ?_, fun h => absurd h (by decide)⟩
      unfold tlD
      rw [hth]
      simp
    | true =>
      refine ⟨fun h => absurd rfl h, fun _ => ⟨hw.1, vj, fun h => yesA hth ?_, fun h => ⟨hw.1, vj, fun h2 => no ?_, fun h2 => yesB hth ?_⟩⟩⟩
      · exact (i_sub_eq (by omega) (by omega) (by omega)).mp h
      · rw [i_sub_eq (by omega) (by omega) (by omega)] at h h2
        unfold tlD
        rw [if_neg (fun q => h q.2.2), if_neg (fun q => h2 q.2.2)]
      · exact (i_sub_eq (by omega) (by omega) (by omega)).mp h2
end CN
