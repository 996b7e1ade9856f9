/-! the net as numbers: N c k stands for the reference's cell c, place k -/
abbrev Nt : Type := Nat → Nat → Nat
def nu (N : Nt) (c k v : Nat) : Nt := fun c' k' => if c' = c ∧ k' = k then v else N c' k'
theorem nu_at (N : Nt) (c k v c' k' : Nat) : nu N c k v c' k' = if c' = c ∧ k' = k then v else N c' k' := rfl
def cntL (f g : Nat → Nat) : Nat → Nat
  | 0 => 0
  | k + 1 => cntL f g k + (if f k = g k then 0 else 1)
/-- a net as it may be -/
def Nok (N : Nt) : Prop := (2 ≤ N 0 0 ∧ N 0 0 ≤ 6) ∧ N 0 7 ≤ 10 ∧ (∀ l, l < N 0 7 → N 1 l < N 0 0 ∧ N 2 l < N 0 0 ∧ N 1 l ≠ N 2 l ∧ 1 ≤ N 3 l ∧ N 3 l ≤ 100 ∧ 1 ≤ N 4 l ∧ N 4 l ≤ 20 ∧ N 5 l ≤ 1 ∧ N 6 l ≤ 1) ∧ (∀ i, i < 108 → N 7 i ≤ 50) ∧ N 0 9 ≤ 1 ∧ N 0 10 ≤ 1 ∧ (N 0 10 = 1 → ∀ l, l < N 0 7 → 1 ≤ N 8 l ∧ N 8 l ≤ 20)
/-- the reference holds the net -/
def RepM (N : Nt) (σ : ds_S) : Prop := σ.1 0 0 = nI (N 0 0) ∧ σ.1 0 7 = nI (N 0 7) ∧ (∀ l, l < N 0 7 → σ.1 1 l = nI (N 1 l) ∧ σ.1 2 l = nI (N 2 l) ∧ σ.1 3 l = nI (N 3 l) ∧ σ.1 4 l = nI (N 4 l) ∧ σ.1 5 l = nI (N 5 l) ∧ σ.1 6 l = nI (N 6 l)) ∧ (∀ i, i < 108 → σ.1 7 i = nI (N 7 i)) ∧ σ.1 0 9 = nI (N 0 9) ∧ σ.1 0 10 = nI (N 0 10) ∧ σ.1 0 13 = -6 ∧ (N 0 10 = 1 → (∀ l, l < N 0 7 → σ.1 8 l = nI (N 8 l)) ∧ σ.2 0 28 = lN (N 0 28) ∧ σ.2 0 29 = lN (N 0 29))
/-- a fraction over / (151200 * room) in lowest terms is u / v -/
def Low (o r u v : Nat) : Prop := (1 ≤ r ∧ r ≤ 100) ∧ o < 1000000000 ∧ o = u * Nat.gcd o (151200 * r) ∧ 151200 * r = v * Nat.gcd o (151200 * r)
/-- the class holds the net -/
def RepC (N : Nt) (σ : ds_S) : Prop := σ.1 1 0 = nI (N 0 0) ∧ σ.1 1 1 = nI (N 0 7) ∧ (∀ l, l < N 0 7 → σ.1 61 l = nI (N 1 l) ∧ σ.1 62 l = nI (N 2 l) ∧ σ.1 63 l = nI (N 3 l) ∧ σ.1 64 l = nI (N 4 l)) ∧ σ.1 1 6 = nI (bitsOf (N 5) (N 0 7)) ∧ σ.1 1 7 = nI (bitsOf (N 6) (N 0 7)) ∧ (∀ t i, t < 3 → i < 36 → σ.1 (3 + t) i = nI (N 7 (36 * t + i))) ∧ σ.1 12 2 = nI (N 0 9) ∧ σ.1 14 2 = nI (N 0 10) ∧ (N 0 10 = 1 → (∀ l, l < N 0 7 → σ.1 15 l = nI (N 8 l)) ∧ σ.1 14 3 = nI (cntL (N 4) (N 8) (N 0 7)) ∧ ∃ o r, σ.2 16 0 = lN o ∧ σ.1 16 1 = nI r ∧ Low o r (N 0 28) (N 0 29))
/-- both hold one net -/
def Both (σC σM : ds_S) : Prop := ∃ N, Nok N ∧ RepC N σC ∧ RepM N σM
/-- a call on both: like answers, and one net behind -/
def Pub (zC zM : ds_M) (as : List Value) : Prop := ∀ σC σM, Both σC σM → ds_E zC Yc (.ref 0 :: as) σC (fun r σC' => ds_E zM Ym (.ref 0 :: as) σM (fun r' σM' => r' = r ∧ Both σC' σM'))
theorem ev_forget {σ : ds_S} {K : ds_S → Prop} (h : K (ds_wi σ 14 2 0)) : ds_EV mt_X5_forget Yc [.ref 14] σ K := e_X5_forget σ _ ⟨rfl, h⟩
theorem rc0 {hi : Nat} (h : hi < 2 ^ 31) (x : Int32) : q_rng x 0 (nI hi) = 0 ∨ (q_rng x 0 (nI hi) = 1 ∧ ∃ j, j < hi ∧ x = nI j) := by
  rcases q_rng_nI (lo := 0) (by decide) h x with ⟨h1, _⟩ | ⟨h1, j, _, h2, h3⟩
  · exact Or.inl h1
  · exact Or.inr ⟨h1, j, h2, h3⟩
theorem rcl (lo hi : Nat) (hl : lo < 2 ^ 31) (h : hi < 2 ^ 31) (x : Int32) : q_rng x (nI lo) (nI hi) = 0 ∨ (q_rng x (nI lo) (nI hi) = 1 ∧ ∃ j, lo ≤ j ∧ j < hi ∧ x = nI j) := by
  rcases q_rng_nI hl h x with ⟨h1, _⟩ | ⟨h1, j, h0, h2, h3⟩
  · exact Or.inl h1
  · exact Or.inr ⟨h1, j, h0, h2, h3⟩
theorem nI01 {k : Nat} (h : k ≤ 1) : (nI k = 0 ↔ k = 0) ∧ (nI k = 1 ↔ k = 1) := by
  rcases (show k = 0 ∨ k = 1 by omega) with rfl | rfl <;> decide
theorem no01 {p : Prop} (h : (0 : Nat) = 1) : p := absurd h (by decide)
theorem pub_guard (b : Int32) (hb : b = 0 ∨ b = 1) : Pub mt_X8_guard mt_X9_guard [.int b] := by
  intro σC σM ⟨N, hN, hC, hM⟩
  obtain ⟨⟨n2, n6⟩, m10, hl, hld, hg, hs, hsw⟩ := id hN
  obtain ⟨c0, c1, cl, c6, c7, cld, c12, c14, csk⟩ := id hC
  obtain ⟨m0, m7, ml, mld, m9, mS, mm, msk⟩ := id hM
  have fin : ∀ t : Int32, t = nI (N 0 9) → ds_E mt_X9_guard Ym [.ref 0, .int b] σM (fun r' σM' => r' = some (.int t) ∧ Both (ds_wi (ds_wi σC 12 2 b) 14 2 0) σM') := by
    intro t ht
    obtain ⟨v, hv, rfl⟩ : ∃ v, v ≤ 1 ∧ b = nI v := by
      rcases hb with rfl | rfl
      · exact ⟨0, by omega, rfl⟩
      · exact ⟨1, by omega, rfl⟩
    have hB : Both (ds_wi (ds_wi σC 12 2 (nI v)) 14 2 0) (ds_wi (ds_wi σM 0 9 (nI v)) 0 10 0) := by
      refine ⟨nu (nu N 0 9 v) 0 10 0, ⟨⟨n2, n6⟩, m10, hl, hld, hv, Nat.zero_le _, fun h => no01 h⟩, ⟨c0, c1, cl, c6, c7, ?_, rfl, rfl, fun h => no01 h⟩, ⟨m0, m7, ml, mld, rfl, rfl, mm, fun h => no01 h⟩⟩
      intro t i h1 h2
      rw [ds_wi_1, if_neg (by omega), ds_wi_1, if_neg (by omega)]
      exact cld t i h1 h2
    refine e_X9_guard (nI v) σM _ ⟨fun h => ⟨hb, ?_, hB⟩, fun h => ⟨hb, ?_, hB⟩⟩
    · rw [ht, ← m9, h]
    · rw [ht]
      rw [m9] at h
      have : N 0 9 = 1 := by
        rcases (show N 0 9 = 0 ∨ N 0 9 = 1 by omega) with e | e
        · exact absurd ((nI01 hg).1.mpr e) h
        · exact e
      rw [this]
      rfl
  refine e_X8_guard b σC _ ⟨fun h => ⟨hb, ev_forget (fin 0 ?_)⟩, fun h => ⟨hb, ev_forget (fin 1 ?_)⟩⟩
  · rw [← c12, h]
  · rw [c12] at h
    have : N 0 9 = 1 := by
      rcases (show N 0 9 = 0 ∨ N 0 9 = 1 by omega) with e | e
      · exact absurd ((nI01 hg).1.mpr e) h
      · exact e
    rw [this]
    rfl
theorem bitm {f : Nat → Nat} {m : Nat} (hm : m ≤ 10) (h : ∀ l, l < m → f l ≤ 1) : bitsOf f m < 1024 := Nat.lt_of_lt_of_le (bitsOf_lt h) (Nat.pow_le_pow_right (by decide) hm)
theorem bitl {f : Nat → Nat} {m l : Nat} (hm : m ≤ 10) (h : ∀ l, l < m → f l ≤ 1) (hl : l < m) : q_bit (nI (bitsOf f m)) (nI l) = nI (f l) := by
  rw [q_bit_nI _ (bitm hm h) _ (by omega), bitsOf_at h hl]
theorem pub_about (a b : Int32) : Pub mt_X8_about mt_X9_about [.int a, .int b] := by
  intro σC σM ⟨N, hN, hC, hM⟩
  obtain ⟨⟨n2, n6⟩, m10, hl, hld, hg, hs, hsw⟩ := id hN
  obtain ⟨c0, c1, cl, c6, c7, cld, c12, c14, csk⟩ := id hC
  obtain ⟨m0, m7, ml, mld, m9, mS, mm, msk⟩ := id hM
  have hB : Both σC σM := ⟨N, hN, hC, hM⟩
  have b1 : q_bx a (σM.1 0 7) = q_rng a 0 (nI (N 0 7)) := by rw [m7, q_bx_rng (by omega)]
  rcases rc0 (hi := N 0 7) (by omega) a with h1 | ⟨h1, l, hlm, rfl⟩
  · refine e_X8_about a b σC _ ⟨fun h => absurd (by rw [c1]; exact h1) h, fun _ => ?_⟩
    exact e_X9_about a b σM _ ⟨fun h => absurd (by rw [b1]; exact h1) h, fun _ => ⟨rfl, hB⟩⟩
  · have y0 : ¬ q_rng (nI l) 0 (σC.1 1 1) = 0 := by rw [c1, h1]; decide
    have y1 : ¬ q_bx (nI l) (σM.1 0 7) = 0 := by rw [b1, h1]; decide
    have vi : vp_in (nI l) 10 := vp_in_nI (by omega) (by decide)
    have cla := nI_clamp (n := l) (by omega)
    obtain ⟨x1, x2, x3, x4⟩ := cl l hlm
    obtain ⟨z1, z2, z3, z4, z5, z6⟩ := ml l hlm
    have s5 : ∀ l, l < N 0 7 → N 5 l ≤ 1 := fun l h => (hl l h).2.2.2.2.2.2.2.1
    have s6 : ∀ l, l < N 0 7 → N 6 l ≤ 1 := fun l h => (hl l h).2.2.2.2.2.2.2.2
    have q5 : q_bit (σC.1 1 6) (nI l) = nI (N 5 l) := by rw [c6]; exact bitl m10 s5 hlm
    have q6 : q_bit (σC.1 1 7) (nI l) = nI (N 6 l) := by rw [c7]; exact bitl m10 s6 hlm
    have ex : ∀ (k : Int32), ¬ (k.toInt < 0 ∨ 5 < k.toInt) ∨ (k.toInt < 0 ∨ 5 < k.toInt) := fun k => (Classical.em _).symm
    have n5 : ∀ t : Nat, t ≤ 1 → (nI t = 0 → (some (Value.int 0)) = some (.int (nI t))) ∧ (¬ nI t = 0 → (some (Value.int 1)) = some (.int (nI t))) := by
      intro t ht
      rcases (show t = 0 ∨ t = 1 by omega) with rfl | rfl
      · exact ⟨fun _ => rfl, fun h => absurd rfl h⟩
      · exact ⟨fun h => absurd h (by decide), fun _ => rfl⟩
    have one : ∀ (k : Int32) (r : Option Value), (b = k → b.toInt < 0 ∨ 5 < b.toInt → False) → ((b = (0 : Int32) → some (.int (σM.1 1 l)) = r) ∧ (b = (1 : Int32) → some (.int (σM.1 2 l)) = r) ∧ (b = (2 : Int32) → some (.int (σM.1 3 l)) = r) ∧ (b = (3 : Int32) → some (.int (σM.1 4 l)) = r) ∧ (b = (4 : Int32) → some (.int (nI (N 5 l))) = r) ∧ (b = (5 : Int32) → some (.int (nI (N 6 l))) = r)) → b = k → ds_E mt_X9_about Ym [.ref 0, .int (nI l), .int b] σM (fun r' σM' => r' = r ∧ Both σC σM') := by
      intro k r hk ⟨p0, p1, p2, p3, p4, p5⟩ hbk
      refine e_X9_about (nI l) b σM _ ⟨fun _ => ⟨fun h => (hk hbk h).elim, fun h => ⟨vi, ?_, hB⟩, fun h => ⟨vi, ?_, hB⟩, fun h => ⟨vi, ?_, hB⟩, fun h => ⟨vi, ?_, hB⟩, fun h => ⟨vi, fun g => ⟨?_, hB⟩, fun g => ⟨?_, hB⟩⟩, fun h => ⟨vi, fun g => ⟨?_, hB⟩, fun g => ⟨?_, hB⟩⟩⟩, fun h => absurd h y1⟩
      · rw [cla]; exact p0 h
      · rw [cla]; exact p1 h
      · rw [cla]; exact p2 h
      · rw [cla]; exact p3 h
      · rw [cla, z5] at g; rw [← p4 h]; exact (n5 _ (s5 l hlm)).1 g
      · rw [cla, z5] at g; rw [← p4 h]; exact (n5 _ (s5 l hlm)).2 g
      · rw [cla, z6] at g; rw [← p5 h]; exact (n5 _ (s6 l hlm)).1 g
      · rw [cla, z6] at g; rw [← p5 h]; exact (n5 _ (s6 l hlm)).2 g
    refine e_X8_about (nI l) b σC _ ⟨fun _ => ⟨fun h => ?_, fun h => ⟨vi, ?_⟩, fun h => ⟨vi, ?_⟩, fun h => ⟨vi, ?_⟩, fun h => ⟨vi, ?_⟩, fun h => ?_, fun h => ?_⟩, fun h => absurd h y0⟩
    · have nn : ∀ k : Int32, 0 ≤ k.toInt → k.toInt ≤ 5 → ¬ b = k := fun k k1 k2 e => by rw [e] at h; omega
      exact e_X9_about (nI l) b σM _ ⟨fun _ => ⟨fun _ => ⟨rfl, hB⟩, fun e => absurd e (nn 0 (by decide) (by decide)), fun e => absurd e (nn 1 (by decide) (by decide)), fun e => absurd e (nn 2 (by decide) (by decide)), fun e => absurd e (nn 3 (by decide) (by decide)), fun e => absurd e (nn 4 (by decide) (by decide)), fun e => absurd e (nn 5 (by decide) (by decide))⟩, fun h => absurd h y1⟩
    · refine one 0 _ (fun e => by rw [e]; decide) ?_ h
      subst h
      rw [cla, x1, z1]
      exact ⟨fun _ => rfl, fun e => absurd e (by decide), fun e => absurd e (by decide), fun e => absurd e (by decide), fun e => absurd e (by decide), fun e => absurd e (by decide)⟩
    · refine one 1 _ (fun e => by rw [e]; decide) ?_ h
      subst h
      rw [cla, x2, z2]
      exact ⟨fun e => absurd e (by decide), fun _ => rfl, fun e => absurd e (by decide), fun e => absurd e (by decide), fun e => absurd e (by decide), fun e => absurd e (by decide)⟩
    · refine one 2 _ (fun e => by rw [e]; decide) ?_ h
      subst h
      rw [cla, x3, z3]
      exact ⟨fun e => absurd e (by decide), fun e => absurd e (by decide), fun _ => rfl, fun e => absurd e (by decide), fun e => absurd e (by decide), fun e => absurd e (by decide)⟩
    · refine one 3 _ (fun e => by rw [e]; decide) ?_ h
      subst h
      rw [cla, x4, z4]
      exact ⟨fun e => absurd e (by decide), fun e => absurd e (by decide), fun e => absurd e (by decide), fun _ => rfl, fun e => absurd e (by decide), fun e => absurd e (by decide)⟩
    · refine one 4 _ (fun e => by rw [e]; decide) ?_ h
      subst h
      rw [q5]
      exact ⟨fun e => absurd e (by decide), fun e => absurd e (by decide), fun e => absurd e (by decide), fun e => absurd e (by decide), fun _ => rfl, fun e => absurd e (by decide)⟩
    · refine one 5 _ (fun e => by rw [e]; decide) ?_ h
      subst h
      rw [q6]
      exact ⟨fun e => absurd e (by decide), fun e => absurd e (by decide), fun e => absurd e (by decide), fun e => absurd e (by decide), fun e => absurd e (by decide), fun _ => rfl⟩
