/-- what the reference holds where there is no way -/
def fm (d : Nat → Nat) (x : Nat) : Nat := if d x < 1000 then d x else 1000000
section MN
variable {n m t : Nat} {fa fb w : Nat → Nat} {th : Nat → Bool} {d : Nat → Nat} {σ : ds_S}
theorem next_39 (hG : Gok n m fa fb w) (hm : m ≤ 10) (hd : isD n m fa fb w th t d) (hM : GM n m fa fb w th σ) (hf : ∀ x, x < n → σ.1 9 x = nI (fm d x)) {l x y : Nat} (hl : l < m) (hx : x < n) (hy : y < n) {Q : Option Value → ds_S → Prop} (hQ : Q (some (.int (if th l = true ∧ d x < 1000 ∧ d x = d y + w l then 1 else 0))) σ) : w_X9_isNext_39 (nI l) (nI x) (nI y) σ Q := by
  have hn := hG.1
  unfold w_X9_isNext_39
  obtain ⟨x1, x2, x3, x4⟩ := hM.2.2 l hl
  have g := hG.2 l hl
  have vl : vp_in (nI l) 10 := vp_in_nI (by omega) (by decide)
  have vx : vp_in (nI x) 6 := vp_in_nI (by omega) (by decide)
  have vy : vp_in (nI y) 6 := vp_in_nI (by omega) (by decide)
  have bx := hd.1.2.1 x hx
  have by' := hd.1.2.1 y hy
  rw [nI_clamp (n := l) (by omega), nI_clamp (n := x) (by omega), nI_clamp (n := y) (by omega), x4, hf x hx, hf y hy, x3, nI_add]
  cases hth : th l with
  | false =>
    rw [hth, if_neg (by simp)] at hQ
    exact ⟨vl, fun _ => hQ, fun h => absurd rfl h⟩
  | true =>
    have bb : fm d x ≤ 1000000 ∧ fm d y ≤ 1000000 := by unfold fm; constructor <;> split <;> omega
    refine ⟨vl, fun h => absurd h (by decide), fun _ => ⟨vx, pk_le 1000000 (fm d x) (fun h => ?_) (fun h => ⟨vy, pk_le 1000000 (fm d y) (fun h2 => ?_) (fun h2 => ⟨vy, vl, vx, pk_ne (fm d y + w l) (fm d x) (fun h3 => ?_) (fun h3 => ?_)⟩)⟩)⟩⟩
    · rw [if_neg (fun q => by unfold fm at h; rw [if_pos q.2.1] at h; omega)] at hQ; exact hQ
    · rw [if_neg (fun q => by unfold fm at h2; rw [if_pos (by omega)] at h2; omega)] at hQ; exact hQ
    · rw [if_neg (fun q => by unfold fm at h3; rw [if_pos (by omega), if_pos (by omega)] at h3; omega)] at hQ; exact hQ
    · have q1 : d x < 1000 := by unfold fm at h; split at h <;> omega
      have q2 : d y < 1000 := by unfold fm at h2; split at h2 <;> omega
      have e1 : fm d x = d x := if_pos q1
      have e2 : fm d y = d y := if_pos q2
      rw [if_pos ⟨hth, q1, by omega⟩] at hQ; exact hQ
theorem ev_isNext (hG : Gok n m fa fb w) (hm : m ≤ 10) (hd : isD n m fa fb w th t d) (hM : GM n m fa fb w th σ) (hf : ∀ x, x < n → σ.1 9 x = nI (fm d x)) {l : Nat} (hl : l < m) (y : Nat) (hy : y ≤ 1) : ds_EI mt_X9_isNext Ym [.ref 0, .int (nI l), .int (nI y)] σ (fun r σ' => r = (if tlD fa fb w th d l = (if y = 0 then fa l else fb l) then 1 else 0) ∧ σ' = σ) := by
  have hn := hG.1
  obtain ⟨x1, x2, x3, x4⟩ := hM.2.2 l hl
  obtain ⟨g1, g2, g3, g4, g5⟩ := hG.2 l hl
  have vl : vp_in (nI l) 10 := vp_in_nI (by omega) (by decide)
  refine e_X9_isNext (nI l) (nI y) σ _ ?_
  unfold w_X9_isNext w_X9_isNext_19
  rw [nI_clamp (n := l) (by omega), x1, x2]
  rcases (show y = 0 ∨ y = 1 by omega) with rfl | rfl
  · refine ⟨fun h => absurd rfl h, fun _ => ⟨vl, fun h => absurd rfl h, fun _ => ⟨vl, next_39 hG hm hd hM hf hl g1 g2 ⟨_, rfl, ?_, rfl⟩⟩⟩⟩
    rw [if_pos rfl]
    simp only [tlD_fa hG hl]
  · refine ⟨fun _ => ⟨vl, fun _ => ⟨vl, next_39 hG hm hd hM hf hl g2 g1 ⟨_, rfl, ?_, rfl⟩⟩, fun h => absurd h (by decide)⟩, fun h => absurd h (by decide)⟩
    simp only [show (if (1 : Nat) = 0 then fa l else fb l) = fb l from rfl, tlD_fb hG hl]
/-- the lines NEXT of a box, as bits -/
def nbD (fa fb w : Nat → Nat) (th : Nat → Bool) (d : Nat → Nat) (b m : Nat) : Nat := bitsOf (fun l => if tlD fa fb w th d l = b then 1 else 0) m
theorem nbD_lt (fa fb w : Nat → Nat) (th : Nat → Bool) (d : Nat → Nat) (b m : Nat) : nbD fa fb w th d b m < 2 ^ m := bitsOf_lt fun l _ => by show (if _ then 1 else 0) ≤ 1; split <;> omega
theorem ev_nextOf (hG : Gok n m fa fb w) (hm : m ≤ 10) (hd : isD n m fa fb w th t d) (hM : GM n m fa fb w th σ) (hf : ∀ x, x < n → σ.1 9 x = nI (fm d x)) {b : Nat} (hb : b < n) : ds_EI mt_X9_nextOf Ym [.ref 0, .int (nI b)] σ (fun r σ' => r = nI (nbD fa fb w th d b m) ∧ σ' = σ) := by
  have hn := hG.1
  refine e_X9_nextOf (nI b) σ _ ?_
  generalize hQ : (fun r σ' => ∃ x, r = some (Value.int x) ∧ x = nI (nbD fa fb w th d b m) ∧ σ' = σ) = Q
  have hq : Q (some (.int (nI (nbD fa fb w th d b m)))) σ := by rw [← hQ]; exact ⟨_, rfl, rfl, rfl⟩
  clear hQ
  unfold w_X9_nextOf
  refine pk_loop (σ := Int32) (fun fu i s => w_X9_nextOf_4 fu (nI b) s (nI i) σ Q) (fun i s => s = nI (nbD fa fb w th d b i)) m 0 0 (by omega) rfl ?_ ?_
  · rintro fu s rfl
    rw [w_X9_nextOf_4]
    exact pk_le m m (fun _ => hq) (fun h => by omega) hM.2.1 rfl
  · rintro fu i s hi rfl hnext
    rw [w_X9_nextOf_4]
    obtain ⟨x1, x2, x3, x4⟩ := hM.2.2 i hi
    obtain ⟨g1, g2, g3, g4, g5⟩ := hG.2 i hi
    have vi : vp_in (nI i) 10 := vp_in_nI (by omega) (by decide)
    have lt := nbD_lt fa fb w th d b i
    have lt2 : nbD fa fb w th d b i < 1024 := Nat.lt_of_lt_of_le lt (show 2 ^ i ≤ 2 ^ 10 from Nat.pow_le_pow_right (by decide) (by omega))
    have succ : nbD fa fb w th d b (i + 1) = nbD fa fb w th d b i + (if tlD fa fb w th d i = b then 1 else 0) * 2 ^ i := rfl
    have y55 : tlD fa fb w th d i = b → w_X9_nextOf_55 (nI b) (nI (nbD fa fb w th d b i)) (nI i) 1 σ Q (fun v1_1 v2_1 v3_1 σ1 => w_X9_nextOf_4 fu v1_1 v2_1 v3_1 σ1 Q) := by
      intro h
      unfold w_X9_nextOf_55
      refine ⟨fun h => absurd h (by decide), fun _ => ?_⟩
      rw [or_bit i (by omega) _ lt, nI_1]
      refine hnext _ ?_
      rw [succ, if_pos h, Nat.one_mul]
    have n55 : tlD fa fb w th d i ≠ b → w_X9_nextOf_55 (nI b) (nI (nbD fa fb w th d b i)) (nI i) 0 σ Q (fun v1_1 v2_1 v3_1 σ1 => w_X9_nextOf_4 fu v1_1 v2_1 v3_1 σ1 Q) := by
      intro h
      unfold w_X9_nextOf_55
      refine ⟨fun _ => ?_, fun h => absurd rfl h⟩
      rw [or_0 _ lt2, nI_1]
      refine hnext _ ?_
      rw [succ, if_neg h, Nat.zero_mul, Nat.add_zero]
    have ends : ∀ {x}, tlD fa fb w th d i = x → x < n → x = fa i ∨ x = fb i := by
      intro x hx hxn
      rcases tlD_cases (th := th) (d := d) hG hi with ⟨e, _⟩ | ⟨e, _⟩ | ⟨e, _⟩
      · omega
      · exact Or.inl (hx.symm.trans e)
      · exact Or.inr (hx.symm.trans e)
    have y31 : (tlD fa fb w th d i = b → fb i = b) → w_X9_nextOf_31 (nI b) (nI (nbD fa fb w th d b i)) (nI i) σ Q (fun v1_1 v2_1 v3_1 σ1 => w_X9_nextOf_4 fu v1_1 v2_1 v3_1 σ1 Q) := by
      intro hb2
      unfold w_X9_nextOf_31
      rw [nI_clamp (n := i) (by omega), x2]
      refine ⟨vi, pk_ne (fb i) b (fun h => n55 (fun q => h (hb2 q))) (fun h => (ev_isNext hG hm hd hM hf hi 1 (by omega)).mo ?_)⟩
      rintro r s ⟨rfl, rfl⟩
      rw [show (if (1 : Nat) = 0 then fa i else fb i) = fb i from rfl]
      by_cases c : tlD fa fb w th d i = fb i
      · rw [if_pos c]
        exact ⟨fun h => absurd h (by decide), fun _ => y55 (c.trans h)⟩
      · rw [if_neg c]
        exact ⟨fun _ => n55 (fun q => c (q.trans h.symm)), fun h => absurd rfl h⟩
    rw [nI_clamp (n := i) (by omega), x1]
    refine pk_le m i (fun h => by omega) (fun _ => ⟨vi, pk_ne (fa i) b (fun h => y31 (fun q => ?_)) (fun h => (ev_isNext hG hm hd hM hf hi 0 (by omega)).mo ?_)⟩) hM.2.1 rfl
    · rcases ends q hb with e | e
      · exact absurd e.symm h
      · exact e.symm
    · rintro r s ⟨rfl, rfl⟩
      rw [show (if (0 : Nat) = 0 then fa i else fb i) = fa i from rfl]
      by_cases c : tlD fa fb w th d i = fa i
      · rw [if_pos c]
        exact ⟨fun _ => y55 (c.trans h), fun h => absurd h (by decide)⟩
      · rw [if_neg c]
        exact ⟨fun h => absurd rfl h, fun _ => y31 (fun q => absurd (q.trans h.symm) c)⟩
end MN
theorem Both.k {σC σM sC sM : ds_S} {N : Nt} (hN : Nok N) (hC : RepC N σC) (hM : RepM N σM) (kc : kC σC sC) (km : kM σM sM) : Both sC sM := ⟨N, hN, hC.k kc, hM.k km⟩
theorem pub_least (a b : Int32) : Pub mt_X8_least mt_X9_least [.int a, .int b] := by
  intro σC σM ⟨N, hN, hC, hM⟩
  have n6 := hN.1.2
  have hB : Both σC σM := ⟨N, hN, hC, hM⟩
  have c0 := hC.1
  have bb : ∀ x, q_bx x (σM.1 0 0) = q_rng x 0 (nI (N 0 0)) := fun x => by rw [hM.1, q_bx_rng (by omega)]
  rcases rc0 (hi := N 0 0) (by omega) a with h1 | ⟨h1, i, hi, rfl⟩
  · refine e_X8_least a b σC _ ⟨fun _ => ?_, fun h => absurd (by rw [c0]; exact h1) h⟩
    exact e_X9_least a b σM _ ⟨fun _ => ⟨rfl, hB⟩, fun h => absurd (by rw [bb]; exact h1) h⟩
  · have x1 : ¬ q_rng (nI i) 0 (σC.1 1 0) = 0 := by rw [c0, h1]; decide
    have x2 : ¬ q_bx (nI i) (σM.1 0 0) = 0 := by rw [bb, h1]; decide
    rcases rc0 (hi := N 0 0) (by omega) b with h2 | ⟨h2, j, hj, rfl⟩
    · refine e_X8_least (nI i) b σC _ ⟨fun h => absurd h x1, fun _ => ⟨fun h => absurd (by rw [c0]; exact h2) h, fun _ => ?_⟩⟩
      exact e_X9_least (nI i) b σM _ ⟨fun h => absurd h x2, fun _ => ⟨fun h => absurd (by rw [bb]; exact h2) h, fun _ => ⟨rfl, hB⟩⟩⟩
    · have x3 : ¬ q_rng (nI j) 0 (σC.1 1 0) = 0 := by rw [c0, h2]; decide
      have x4 : ¬ q_bx (nI j) (σM.1 0 0) = 0 := by rw [bb, h2]; decide
      have vi : vp_in (nI i) 6 := vp_in_nI (by omega) (by decide)
      have hd := dN_is hN hN.w4 99 hj
      have bd := hd.1.2.1 i hi
      obtain ⟨⟨y0, -⟩, ⟨z0, -⟩, -⟩ := ways_at j (by omega)
      obtain ⟨k0, k1, -⟩ := ways_k j (by omega)
      have hM' : ∀ sC, kC σC sC → ∀ v, v = (if dN N (N 4) 99 j i < 1000 then nI (dN N (N 4) 99 j i) else -6) → ds_E mt_X9_least Ym [.ref 0, .int (nI i), .int (nI j)] σM (fun r' σM' => r' = some (.int v) ∧ Both sC σM') := by
        intro sC hs v hv
        refine e_X9_least (nI i) (nI j) σM _ ⟨fun h => absurd h x2, fun _ => ⟨fun _ => ?_, fun h => absurd h x4⟩⟩
        refine ev_findFar (hN.gok hN.w4) hN.2.1 hj hd (hM.sm.gm hN) fun r hr => ?_
        have e9 : (ds_si σM 9 r).1 9 i = nI (fm (dN N (N 4) 99 j) i) := hr i hi
        have hB' : Both sC (ds_si σM 9 r) := Both.k hN hC hM hs (kM.refl _).si9
        rw [nI_clamp (n := i) (by omega), e9, hv]
        have bf : fm (dN N (N 4) 99 j) i ≤ 1000000 := by unfold fm; split <;> omega
        refine ⟨vi, pk_le 1000000 (fm (dN N (N 4) 99 j) i) (fun h => ⟨?_, hB'⟩) (fun h => ⟨vi, ?_, hB'⟩)⟩
        · rw [if_neg (fun q => by unfold fm at h; rw [if_pos q] at h; omega)]
        · have q : dN N (N 4) 99 j i < 1000 := by unfold fm at h; split at h <;> omega
          rw [if_pos q]
          unfold fm
          rw [if_pos q]
      refine e_X8_least (nI i) (nI j) σC _ ⟨fun h => absurd h x1, fun _ => ⟨fun _ => ev_findOne hN hC.rc hj fun s hs hW => ?_, fun h => absurd h x3⟩⟩
      rw [y0, z0, nI_clamp (n := i) (by omega), hW.1 i hi]
      refine ⟨k0, k1, vi, pk_le 1000 (dN N (N 4) 99 j i) (fun h => hM' s hs.k _ ?_) (fun h => ⟨k0, k1, vi, hM' s hs.k _ ?_⟩)⟩
      · rw [if_neg (by omega)]
      · rw [if_pos h]
theorem pub_next (a b : Int32) : Pub mt_X8_next mt_X9_next [.int a, .int b] := by
  intro σC σM ⟨N, hN, hC, hM⟩
  have n6 := hN.1.2
  have m10 := hN.2.1
  have hB : Both σC σM := ⟨N, hN, hC, hM⟩
  have c0 := hC.1
  have bb : ∀ x, q_bx x (σM.1 0 0) = q_rng x 0 (nI (N 0 0)) := fun x => by rw [hM.1, q_bx_rng (by omega)]
  rcases rc0 (hi := N 0 0) (by omega) a with h1 | ⟨h1, i, hi, rfl⟩
  · refine e_X8_next a b σC _ ⟨fun _ => ?_, fun h => absurd (by rw [c0]; exact h1) h⟩
    exact e_X9_next a b σM _ ⟨fun _ => ⟨rfl, hB⟩, fun h => absurd (by rw [bb]; exact h1) h⟩
  · have x1 : ¬ q_rng (nI i) 0 (σC.1 1 0) = 0 := by rw [c0, h1]; decide
    have x2 : ¬ q_bx (nI i) (σM.1 0 0) = 0 := by rw [bb, h1]; decide
    rcases rc0 (hi := N 0 0) (by omega) b with h2 | ⟨h2, j, hj, rfl⟩
    · refine e_X8_next (nI i) b σC _ ⟨fun h => absurd h x1, fun _ => ⟨fun h => absurd (by rw [c0]; exact h2) h, fun _ => ?_⟩⟩
      exact e_X9_next (nI i) b σM _ ⟨fun h => absurd h x2, fun _ => ⟨fun h => absurd (by rw [bb]; exact h2) h, fun _ => ⟨rfl, hB⟩⟩⟩
    · have x3 : ¬ q_rng (nI j) 0 (σC.1 1 0) = 0 := by rw [c0, h2]; decide
      have x4 : ¬ q_bx (nI j) (σM.1 0 0) = 0 := by rw [bb, h2]; decide
      have hG := hN.gok hN.w4
      have hd := dN_is hN hN.w4 99 hj
      obtain ⟨⟨-, -, -, y4, -⟩, ⟨-, -, -, z4, -⟩, -⟩ := ways_at j (by omega)
      obtain ⟨k0, -, -, -, k4, -⟩ := ways_k j (by omega)
      refine e_X8_next (nI i) (nI j) σC _ ⟨fun h => absurd h x1, fun _ => ⟨fun _ => ev_findOne hN hC.rc hj fun s hs hW => ?_, fun h => absurd h x3⟩⟩
      have hM' : ds_E mt_X9_next Ym [.ref 0, .int (nI i), .int (nI j)] σM (fun r' σM' => r' = some (.int (nI (nbD (N 1) (N 2) (N 4) (thN N 99) (dN N (N 4) 99 j) i (N 0 7)))) ∧ Both s σM') := by
        refine e_X9_next (nI i) (nI j) σM _ ⟨fun h => absurd h x2, fun _ => ⟨fun _ => ?_, fun h => absurd h x4⟩⟩
        refine ev_findFar hG m10 hj hd (hM.sm.gm hN) fun r hr => ?_
        have km : kM σM (ds_si σM 9 r) := (kM.refl _).si9
        refine (ev_nextOf hG m10 hd ((hM.sm.k km).gm hN) hr hi).mo ?_
        rintro r s' ⟨rfl, rfl⟩
        exact ⟨rfl, Both.k hN hC hM hs.k km⟩
      generalize hQ : (fun r σC' => ds_E mt_X9_next Ym [.ref 0, .int (nI i), .int (nI j)] σM (fun r' σM' => r' = r ∧ Both σC' σM')) = Q
      have hq : Q (some (.int (nI (nbD (N 1) (N 2) (N 4) (thN N 99) (dN N (N 4) 99 j) i (N 0 7))))) s := by rw [← hQ]; exact hM'
      clear hQ hM'
      refine pk_loop (σ := Int32) (fun fu k v => w_X8_next_43 fu (nI i) (20 + j) v (nI k) s Q) (fun k v => v = nI (nbD (N 1) (N 2) (N 4) (thN N 99) (dN N (N 4) 99 j) i k)) (N 0 7) 0 0 (by omega) rfl ?_ ?_
      · rintro fu v rfl
        rw [w_X8_next_43]
        exact pk_le (N 0 7) (N 0 7) (fun _ => hq) (fun h => by omega) (hC.k hs.k).2.1 rfl
      · rintro fu k v hk rfl hnext
        rw [w_X8_next_43, y4, z4, nI_clamp (n := k) (by omega)]
        have vk : vp_in (nI k) 10 := vp_in_nI (by omega) (by decide)
        have lt := nbD_lt (N 1) (N 2) (N 4) (thN N 99) (dN N (N 4) 99 j) i k
        have succ : nbD (N 1) (N 2) (N 4) (thN N 99) (dN N (N 4) 99 j) i (k + 1) = nbD (N 1) (N 2) (N 4) (thN N 99) (dN N (N 4) 99 j) i k + (if tlD (N 1) (N 2) (N 4) (thN N 99) (dN N (N 4) 99 j) k = i then 1 else 0) * 2 ^ k := rfl
        obtain ⟨t9, tn⟩ := hW.2.1.1 k hk
        have iff : s.1 (44 + j) k = nI i ↔ tlD (N 1) (N 2) (N 4) (thN N 99) (dN N (N 4) 99 j) k = i := by
          by_cases c : tlD (N 1) (N 2) (N 4) (thN N 99) (dN N (N 4) 99 j) k = 99
          · rw [t9 c]
            refine ⟨fun e => ?_, fun e => by omega⟩
            have := congrArg Int32.toInt e
            rw [nI_toInt (by omega)] at this
            have e2 : (-1 : Int32).toInt = -1 := by decide
            omega
          · rw [(tn c).1]
            have := (tlD_some (th := thN N 99) (d := dN N (N 4) 99 j) hG hk c).1
            exact nI_eq (by omega) (by omega)
        rw [or_bit k (by omega) _ lt, nI_1]
        refine pk_le (N 0 7) k (fun h => by omega) (fun _ => ⟨k0, k4, vk, fun h => hnext _ ?_, fun h => hnext _ ?_⟩) (hC.k hs.k).2.1 rfl
        · rw [succ, if_neg (fun q => h (iff.mpr q)), Nat.zero_mul, Nat.add_zero]
        · rw [succ, if_pos (iff.mp h), Nat.one_mul]
