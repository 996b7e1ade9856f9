theorem bv_or3 (a b c : BitVec 32) : (a ||| b) &&& c = (a &&& c) ||| (b &&& c) := by
  ext j hj
  simp only [BitVec.getElem_and, BitVec.getElem_or]
  cases a[j] <;> cases b[j] <;> cases c[j] <;> rfl
theorem q_bit_or (x y i : Int32) : q_bit (x ||| y) i = q_bit x i ||| q_bit y i := by
  unfold q_bit
  apply Int32.toBitVec_inj.mp
  simp only [Int32.toBitVec_and, Int32.toBitVec_or, Int32.toBitVec_shiftRight, BitVec.sshiftRight']
  rw [BitVec.sshiftRight_or_distrib]
  exact bv_or3 _ _ _
theorem q_bit_one : ∀ b, b < 10 → ∀ l, l < 10 → q_bit ((1 : Int32) <<< (nI b &&& 31)) (nI l) = if l = b then 1 else 0 := by decide +kernel
/-- one more in a set of bits -/
theorem q_bit_more {v : Int32} {dn : Nat → Bool} {n b : Nat} (hn : n ≤ 10) (hb : b < n) (h : ∀ x, x < n → q_bit v (nI x) = if dn x = true then 1 else 0) : ∀ x, x < n → q_bit (v ||| ((1 : Int32) <<< (nI b &&& 31))) (nI x) = if (if x = b then true else dn x) = true then 1 else 0 := by
  intro x hx
  rw [q_bit_or, h x hx, q_bit_one b (by omega) x (by omega)]
  by_cases e : x = b
  · simp [e]
    cases dn b <;> rfl
  · simp [e]
/-- flows and letters as they lie in two rows of longs -/
def FS (cF cX n m : Nat) (d fa fb tl A F X : Nat → Nat) (s : ds_S) : Prop := (∀ k, k < 2 * m → s.2 cF k = lN (A k + ov fa fb tl F k)) ∧ ∀ b, b < n → d b < 1000 → s.2 cX b = lN (X b)
def kL (cF cX : Nat) (σ s : ds_S) : Prop := s.1 = σ.1 ∧ ∀ c, c ≠ cF → c ≠ cX → s.2 c = σ.2 c
theorem kL.refl (cF cX : Nat) (σ : ds_S) : kL cF cX σ σ := ⟨rfl, fun _ _ _ => rfl⟩
theorem kL.trans {cF cX : Nat} {a b c : ds_S} (h : kL cF cX a b) (h2 : kL cF cX b c) : kL cF cX a c := ⟨h2.1.trans h.1, fun x h3 h4 => (h2.2 x h3 h4).trans (h.2 x h3 h4)⟩
/-- the first j lines of c are done -/
def goFj (tl : Nat → Nat) (c e : Nat) (F : Nat → Nat) (j l : Nat) : Nat := if l < j ∧ tl l = c then e else F l
theorem ov_cong {fa fb tl F G : Nat → Nat} {m k : Nat} (h : ∀ l, l < m → F l = G l) (hk : k < 2 * m) : ov fa fb tl F k = ov fa fb tl G k := by
  unfold ov
  rw [h (k / 2) (by omega)]
theorem ds_wl_row (σ : ds_S) (c k : Nat) (x : Int64) {c' : Nat} (h : c' ≠ c) : (ds_wl σ c k x).2 c' = σ.2 c' := by
  funext k'
  rw [ds_wl_2, if_neg (fun q => h q.1)]
theorem kL.step {cF cX a b : Nat} {x y : Int64} {σ s : ds_S} (h : kL cF cX σ s) : kL cF cX σ (ds_wl (ds_wl s cF a x) cX b y) := ⟨h.1, fun c h1 h2 => by rw [ds_wl_row _ _ _ _ h2, ds_wl_row _ _ _ _ h1]; exact h.2 c h1 h2⟩
theorem fl_step {cF cX n m : Nat} {d fa fb tl hd A F X : Nat → Nat} {s : ds_S} (hne : cF ≠ cX) {c e j y : Nat} (hj : j < m) (hab : fa j ≠ fb j) (hy : y ≤ 1) (htl : tl j = c) (hcy : c = if y = 0 then fa j else fb j) (hF0 : F j = 0) (hS : FS cF cX n m d fa fb tl A (goFj tl c e F j) (goX tl hd c e X j) s) (hh : hd j < n) (hdh : d (hd j) < 1000) :
    FS cF cX n m d fa fb tl A (goFj tl c e F (j + 1)) (goX tl hd c e X (j + 1)) (ds_wl (ds_wl s cF (2 * j + y) (s.2 cF (2 * j + y) + lN e)) cX (hd j) (s.2 cX (hd j) + lN e)) := by
  obtain ⟨h1, h2⟩ := hS
  refine ⟨fun k hk => ?_, fun b hb hdb => ?_⟩
  · rw [ds_wl_row _ _ _ _ hne, ds_wl_2]
    by_cases q : k = 2 * j + y
    · rw [if_pos ⟨rfl, q⟩, q, h1 _ (by omega), lN_add, ov_slot hy, ov_slot hy]
      rw [if_pos (htl.trans hcy), if_pos (htl.trans hcy)]
      have e1 : goFj tl c e F j j = F j := if_neg (by omega)
      have e2 : goFj tl c e F (j + 1) j = e := if_pos ⟨by omega, htl⟩
      rw [e1, e2, hF0, Nat.add_zero]
    · rw [if_neg (fun z => q z.2), h1 k hk]
      congr 2
      unfold ov
      by_cases q2 : k / 2 = j
      · rw [q2]
        have hk2 : k % 2 ≠ y := by omega
        have : ¬ tl j = (if k % 2 = 0 then fa j else fb j) := by
          rw [htl, hcy]
          rcases (show y = 0 ∨ y = 1 by omega) with r | r
          · rw [if_pos r, if_neg (by omega)]; exact hab
          · rw [if_neg (by omega), if_pos (by omega)]; exact Ne.symm hab
        rw [if_neg this, if_neg this]
      · have : goFj tl c e F j (k / 2) = goFj tl c e F (j + 1) (k / 2) := by
          unfold goFj
          by_cases r : tl (k / 2) = c
          · by_cases r2 : k / 2 < j
            · rw [if_pos ⟨r2, r⟩, if_pos ⟨by omega, r⟩]
            · rw [if_neg (fun z => r2 z.1), if_neg (fun z => by omega)]
          · rw [if_neg (fun z => r z.2), if_neg (fun z => r z.2)]
        rw [this]
  · rw [ds_wl_2]
    have sc : goX tl hd c e X (j + 1) b = goX tl hd c e X j b + (if tl j = c ∧ hd j = b then e else 0) := by unfold goX; rw [sumN, Nat.add_assoc]
    by_cases q : b = hd j
    · rw [if_pos ⟨rfl, q⟩, h2 _ hh hdh, lN_add, sc, q, if_pos ⟨htl, rfl⟩]
    · rw [if_neg (fun z => q z.2), ds_wl_row _ _ _ _ (Ne.symm hne), h2 b hb hdb, sc, if_neg (fun z => q z.2.symm), Nat.add_zero]
theorem fl_skip {cF cX n m : Nat} {d fa fb tl hd A F X : Nat → Nat} {s : ds_S} {c e j : Nat} (htl : tl j ≠ c) (hS : FS cF cX n m d fa fb tl A (goFj tl c e F j) (goX tl hd c e X j) s) : FS cF cX n m d fa fb tl A (goFj tl c e F (j + 1)) (goX tl hd c e X (j + 1)) s := by
  have e1 : goFj tl c e F (j + 1) = goFj tl c e F j := by
    funext l
    unfold goFj
    by_cases r : tl l = c
    · by_cases r2 : l < j
      · rw [if_pos ⟨by omega, r⟩, if_pos ⟨r2, r⟩]
      · have : l ≠ j := fun z => htl (z ▸ r)
        rw [if_neg (fun z => by omega), if_neg (fun z => r2 z.1)]
    · rw [if_neg (fun z => r z.2), if_neg (fun z => r z.2)]
  have e2 : goX tl hd c e X (j + 1) = goX tl hd c e X j := by
    funext b
    show X b + (sumN _ j + (if tl j = c ∧ hd j = b then e else 0)) = X b + sumN _ j
    rw [if_neg (fun z => htl z.1), Nat.add_zero]
  rw [e1, e2]
  exact hS
theorem fl_end {cF cX n m : Nat} {d fa fb tl A F X' : Nat → Nat} {s : ds_S} {c e : Nat} (hS : FS cF cX n m d fa fb tl A (goFj tl c e F m) X' s) : FS cF cX n m d fa fb tl A (goF tl c e F) X' s := by
  refine ⟨fun k hk => ?_, hS.2⟩
  rw [hS.1 k hk]
  congr 2
  refine ov_cong (m := m) (fun l hl => ?_) hk
  unfold goFj goF
  by_cases q : tl l = c
  · rw [if_pos ⟨hl, q⟩, if_pos q]
  · rw [if_neg (fun z => q z.2), if_neg q]
theorem fl_none {cF cX n m : Nat} {d fa fb tl hd A F X : Nat → Nat} {s : ds_S} {c e : Nat} (hp : pt tl c m = 0 ∨ (e = 0 ∧ ∀ l, l < m → tl l = c → F l = 0)) (hS : FS cF cX n m d fa fb tl A F X s) : FS cF cX n m d fa fb tl A (goF tl c e F) (goX tl hd c e X m) s := by
  refine ⟨fun k hk => ?_, fun b hb hdb => ?_⟩
  · rw [hS.1 k hk]
    congr 2
    refine ov_cong (m := m) (fun l hl => ?_) hk
    unfold goF
    by_cases q : tl l = c
    · rw [if_pos q]
      rcases hp with hp | ⟨hp, hz⟩
      · exact absurd q (pt_no hp l hl)
      · rw [hp]; exact hz l hl q
    · rw [if_neg q]
  · rw [hS.2 b hb hdb]
    congr 1
    unfold goX
    rw [sumN_zero fun l hl => ?_, Nat.add_zero]
    by_cases q : tl l = c ∧ hd l = b
    · rw [if_pos q]
      rcases hp with hp | ⟨hp, hz⟩
      · exact absurd q.1 (pt_no hp l hl)
      · exact hp
    · rw [if_neg q]
section MP
variable {n m t : Nat} {fa fb w : Nat → Nat} {th : Nat → Bool} {d : Nat → Nat} {σ : ds_S}
theorem GM.eq1 (h : GM n m fa fb w th σ) {s : ds_S} (e : s.1 = σ.1) : GM n m fa fb w th s := by unfold GM; rw [e]; exact h
theorem ev_parts (hG : Gok n m fa fb w) (hm : m ≤ 10) (hd : isD n m fa fb w th t d) (hM : GM n m fa fb w th σ) (hf : ∀ x, x < n → σ.1 9 x = nI (fm d x)) {c : Nat} (hc : c < n) (hdc : d c < 1000) {F X : Nat → Nat} (hF0 : ∀ l, l < m → tlD fa fb w th d l = c → F l = 0) (hXb : X c < 2 ^ 63) (hS : FS 11 10 n m d fa fb (tlD fa fb w th d) (fun _ => 0) F X σ) {K : ds_S → Prop}
    (hK : ∀ s, kL 11 10 σ s → FS 11 10 n m d fa fb (tlD fa fb w th d) (fun _ => 0) (goF (tlD fa fb w th d) c (X c / pt (tlD fa fb w th d) c m) F) (goX (tlD fa fb w th d) (hdD fa fb w th d) c (X c / pt (tlD fa fb w th d) c m) X m) s → K s) : ds_EV mt_X9_parts Ym [.ref 0, .int (nI c)] σ K := by
  have hn := hG.1
  refine e_X9_parts (nI c) σ _ ?_
  generalize hQ : (fun r σ' => r = none ∧ K σ') = Q
  have hq : ∀ s, K s → Q none s := fun s h => by rw [← hQ]; exact ⟨rfl, h⟩
  clear hQ
  unfold w_X9_parts
  refine (ev_nextOf hG hm hd hM hf hc).mo ?_
  rintro r σ1 ⟨rfl, rfl⟩
  rw [q_ones_nb fa fb w th d c hm]
  have hgf : ∀ l, l < m → tlD fa fb w th d l = c → hdD fa fb w th d l < n ∧ d (hdD fa fb w th d l) < 1000 ∧ ((c = fa l ∧ hdD fa fb w th d l = fb l) ∨ (c = fb l ∧ hdD fa fb w th d l = fa l ∧ c ≠ fa l)) := by
    intro l hl h
    have g := hG.2 l hl
    rcases tlD_cases (th := th) (d := d) hG hl with ⟨e, _⟩ | ⟨e1, e2, a, b', c'⟩ | ⟨e1, e2, a, b', c'⟩
    · omega
    · exact ⟨by omega, by rw [e2]; omega, Or.inl ⟨by omega, e2⟩⟩
    · exact ⟨by omega, by rw [e2]; omega, Or.inr ⟨by omega, e2, by omega⟩⟩
  have hself : ∀ j, goX (tlD fa fb w th d) (hdD fa fb w th d) c (X c / pt (tlD fa fb w th d) c m) X j c = X c ∨ m < j := by
    intro j
    by_cases hj : j ≤ m
    · left
      unfold goX
      rw [sumN_zero fun l hl => if_neg fun q => ?_, Nat.add_zero]
      have := tlD_some (th := th) (d := d) hG (show l < m by omega) (by omega)
      have g := hG.2 l (by omega)
      rw [q.1, q.2] at this
      omega
    · right; omega
  generalize htl : tlD fa fb w th d = tl at *
  generalize hhd : hdD fa fb w th d = hdd at *
  have hpl : pt tl c m ≤ m := by
    rw [← htl, ← ptD_pt]; exact ptD_le ..
  by_cases hp : pt tl c m = 0
  · refine ⟨1, ?_⟩
    rw [w_X9_parts_14]
    have fin := hq _ (hK σ1 (kL.refl _ _ _) (fl_none (Or.inl hp) hS))
    exact ⟨fun _ => fin, fun _ => ⟨fun _ => fin, fun h => absurd (by rw [hp]; decide) h⟩⟩
  · generalize he : X c / pt tl c m = e at *
    have nb : ∀ l, l < m → q_bit (nI (nbD fa fb w th d c m)) (nI l) = if tl l = c then 1 else 0 := by
      intro l hl
      unfold nbD
      rw [bitl hm (fun l _ => by show (if _ then 1 else 0) ≤ 1; split <;> omega) hl, htl]
      split <;> rfl
    refine pk_loop (fun fu j s => w_X9_parts_14 fu (nI c) (nI (nbD fa fb w th d c m)) (nI (pt tl c m)) (nI j) s Q) (fun j s => kL 11 10 σ1 s ∧ FS 11 10 n m d fa fb tl (fun _ => 0) (goFj tl c e F j) (goX tl hdd c e X j) s) m 0 σ1 (by omega) ⟨kL.refl _ _ _, ?_⟩ ?_ ?_
    · have e1 : goFj tl c e F 0 = F := by funext l; exact if_neg (by omega)
      rw [e1]
      exact hS
    · rintro fu s ⟨hk, hs⟩
      rw [w_X9_parts_14]
      exact pk_le m m (fun _ => hq _ (hK s hk (fl_end hs))) (fun h => by omega) (by rw [hk.1]; exact hM.2.1) rfl
    · rintro fu j s hj ⟨hk, hs⟩ hnext
      rw [w_X9_parts_14]
      obtain ⟨x1, x2, x3, x4⟩ := hM.2.2 j hj
      obtain ⟨g1, g2, g3, g4, g5⟩ := hG.2 j hj
      have vj : vp_in (nI j) 10 := vp_in_nI (by omega) (by decide)
      have vc : vp_in (nI c) 6 := vp_in_nI (by omega) (by decide)
      have qv : (((nI (nbD fa fb w th d c m)) >>> (nI j &&& 31)) &&& (1 : Int32)) = if tl j = c then 1 else 0 := nb j hj
      rw [qv, nI_clamp (n := j) (by omega), hk.1, x1, nI_1]
      refine pk_le m j (fun h => by omega) (fun _ => ⟨fun h => absurd h (nI_nle (by omega) (by omega)), fun _ => ?_⟩) hM.2.1 rfl
      by_cases htj : tl j = c
      · rw [if_pos htj]
        obtain ⟨hh, hdh, hcase⟩ := hgf j hj htj
        refine ⟨fun h => absurd rfl h, fun _ => ⟨vj, ?_⟩⟩
        have b77 : ∀ y, y ≤ 1 → (c = if y = 0 then fa j else fb j) → w_X9_parts_77 (nI c) (nI (nbD fa fb w th d c m)) (nI (pt tl c m)) (nI j) (nI y) (nI (hdd j)) s Q (fun v1_1 v2_1 v3_1 v4_1 σ1 => w_X9_parts_14 fu v1_1 v2_1 v3_1 v4_1 σ1 Q) := by
          intro y hy hcy
          unfold w_X9_parts_77
          have vy : vp_in (nI (2 * j + y)) 20 := vp_in_nI (by omega) (by decide)
          have vh : vp_in (nI (hdd j)) 6 := vp_in_nI (by omega) (by decide)
          have ix : (2 : Int32) * nI j + nI y = nI (2 * j + y) := by rw [show (2 : Int32) = nI 2 from rfl, pk_mul, nI_add]
          have ec : s.2 10 c = lN (X c) := by
            rw [hs.2 c hc hdc]
            rcases hself j with q | q
            · rw [q]
            · omega
          have dv : lN (X c) / lN (pt tl c m) = lN e := by rw [pk_lDiv hXb (by omega) (by omega), he]
          have nz : ¬ lN (pt tl c m) = 0 := fun z => hp ((pk_lNe0 (by omega)).mp z)
          rw [ix, nI_clamp (n := 2 * j + y) (by omega), nI_clamp (n := c) (by omega), nI_clamp (n := hdd j) (by omega), nI_l (n := pt tl c m) (by omega), ec, dv, nI_1]
          exact ⟨vy, vc, nz, vy, vh, vc, nz, vh, hnext _ ⟨hk.step, fl_step (by decide) hj g3 hy htj hcy (hF0 j hj htj) hs hh hdh⟩⟩
        refine pk_ne (fa j) c (fun h => ?_) (fun h => ?_)
        · rcases hcase with ⟨q, _⟩ | ⟨q1, q2, q3⟩
          · exact absurd q.symm h
          · unfold w_X9_parts_53
            rw [nI_clamp (n := j) (by omega), hk.1, x1]
            refine ⟨fun _ => ⟨vj, ?_⟩, fun h => absurd h (by decide)⟩
            rw [← q2]
            exact b77 1 (by omega) q1
        · rcases hcase with ⟨q, q2⟩ | ⟨q1, q2, q3⟩
          · unfold w_X9_parts_53
            rw [nI_clamp (n := j) (by omega), hk.1, x2]
            refine ⟨fun h => absurd rfl h, fun _ => ⟨vj, ?_⟩⟩
            rw [← q2]
            exact b77 0 (by omega) q
          · exact absurd h.symm q3
      · rw [if_neg htj]
        exact ⟨fun _ => hnext s ⟨hk, fl_skip htj hs⟩, fun h => absurd h (by decide)⟩
end MP
