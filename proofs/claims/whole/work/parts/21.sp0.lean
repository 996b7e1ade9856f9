/-! what the small methods answer -/
def q_in (v lo hi : Int64) : Int32 := if lo ≤ v ∧ v ≤ hi then 1 else 0
def q_rng (x lo hi : Int32) : Int32 := if lo ≤ x ∧ x < hi then 1 else 0
def q_bx (x n : Int32) : Int32 := if 0 ≤ x ∧ x ≤ n - 1 then 1 else 0
def q_gcd (a b : Int64) : Int64 := lN (Nat.gcd a.toInt.toNat b.toInt.toNat)
def q_gt (a b c d : Int64) : Int32 := if c.toInt * b.toInt < a.toInt * d.toInt then 1 else 0
def q_th (aw l mo : Int32) : Int32 := if aw = 0 ∧ l ≠ mo then 1 else 0
def q_bit (b i : Int32) : Int32 := (b >>> (i &&& 31)) &&& 1
def q_onesN (b : Int32) : Nat → Int32
  | 0 => 0
  | k + 1 => q_onesN b k + q_bit b (nI k)
def q_ones (b : Int32) : Int32 := q_onesN b 10
def q_min (a b : Int64) : Int64 := if b < a then b else a
def q_cmp (a b : Int64) : Int32 := if a < b then -1 else if a = b then 0 else 1
def q_wb (b i s : Int32) : Int32 := if s = 0 then b &&& (((1 : Int32) <<< (i &&& 31)) ^^^ (-1)) else b ||| ((1 : Int32) <<< (i &&& 31))
def q_lt (mo m aw : Int32) : Int32 := if mo = -1 then ((((1 : Int32) <<< (m &&& 31)) - 1) &&& (aw ^^^ (-1))) else ((((1 : Int32) <<< (m &&& 31)) - 1) &&& (aw ^^^ (-1))) &&& (((1 : Int32) <<< (mo &&& 31)) ^^^ (-1))
def q_ab (o : Int64) (r : Int32) : Int32 := if 151200 * r.toInt64 < o then 1 else 0
def q_ch (w sp : Int32) : Int32 := if sp < w then sp + 1 else sp
def q_cn (g m : Int32) : Int32 := if g = 0 then 1 else 1 + m
def q_low (u l : Int64) (p : Int32) : Int64 := if p = 0 then u / q_gcd u l else l / q_gcd u l
def q_low0 (u l : Int64) (p : Int32) : Int64 := (if p = 0 then u else l) / (if 0 < q_gcd u l then q_gcd u l else 1)
def q_pair (a b n : Int32) : Int32 := if 0 ≤ a ∧ a < n ∧ 0 ≤ b ∧ b < n ∧ a ≠ b then 1 else 0
theorem nlt32 {a b : Int32} : ¬ a < b ↔ b ≤ a := by rw [fa_lt, fa_le]; omega
theorem nle32 {a b : Int32} : ¬ a ≤ b ↔ b < a := by rw [fa_lt, fa_le]; omega
theorem nlt64 {a b : Int64} : ¬ a < b ↔ b ≤ a := by rw [fa_lt64, fa_le64]; omega
theorem nle64 {a b : Int64} : ¬ a ≤ b ↔ b < a := by rw [fa_lt64, fa_le64]; omega
theorem q_rng_0 {x lo hi : Int32} : q_rng x lo hi = 0 ↔ ¬ (lo ≤ x ∧ x < hi) := by unfold q_rng; split <;> simp_all
theorem q_in_0 {x lo hi : Int64} : q_in x lo hi = 0 ↔ ¬ (lo ≤ x ∧ x ≤ hi) := by unfold q_in; split <;> simp_all
theorem q_bx_0 {x n : Int32} : q_bx x n = 0 ↔ ¬ (0 ≤ x ∧ x ≤ n - 1) := by unfold q_bx; split <;> simp_all
theorem q_th_0 {a l m : Int32} : q_th a l m = 0 ↔ ¬ (a = 0 ∧ l ≠ m) := by unfold q_th; split <;> simp_all
theorem q_gt_0 {a b c d : Int64} : q_gt a b c d = 0 ↔ ¬ (c.toInt * b.toInt < a.toInt * d.toInt) := by unfold q_gt; split <;> simp_all
theorem q_pair_0 {a b n : Int32} : q_pair a b n = 0 ↔ ¬ (0 ≤ a ∧ a < n ∧ 0 ≤ b ∧ b < n ∧ a ≠ b) := by unfold q_pair; split <;> simp_all
theorem sp_X9_in (a b c : Int64) (σ : ds_S) : ds_EI mt_X9_in Ym [.long a, .long b, .long c] σ (fun x σ' => x = q_in a b c ∧ σ' = σ) := by
  refine e_X9_in a b c σ _ ⟨fun h => ⟨_, rfl, ?_, rfl⟩, fun h => ⟨fun h2 => ⟨_, rfl, ?_, rfl⟩, fun h2 => ⟨_, rfl, ?_, rfl⟩⟩⟩
  · unfold q_in; rw [if_neg (fun q => absurd q.1 (nle64.mpr ((lg_cmp_lt _ _).mp h)))]
  · unfold q_in; rw [if_neg (fun q => absurd q.2 (nle64.mpr ((lg_cmp_gt _ _).mp h2)))]
  · unfold q_in; rw [if_pos ⟨nlt64.mp (fun q => h ((lg_cmp_lt _ _).mpr q)), nlt64.mp (fun q => h2 ((lg_cmp_gt _ _).mpr q))⟩]
theorem lN_of_nn {x : Int64} (h : 0 ≤ x) : ∃ n : Nat, n < 2 ^ 63 ∧ x = lN n ∧ x.toInt.toNat = n := by
  obtain ⟨n, h1, h2⟩ := pk_lOf (nlt64.mpr h)
  exact ⟨n, h1, h2, by rw [h2, pk_lT h1]; rfl⟩
theorem pk_lNe0 {n : Nat} (h : n < 2 ^ 63) : lN n = 0 ↔ n = 0 := by
  rw [show (0 : Int64) = lN 0 from rfl, pk_lEQ h (by decide)]
theorem gcd_loop (σ : ds_S) (Q : Option Value → ds_S → Prop) : ∀ (n a b : Nat), b < n → a < 2 ^ 63 → b < 2 ^ 63 → Q (some (.long (lN (Nat.gcd a b)))) σ → w_X9_common_28 n (lN a) (lN b) σ Q := by
  intro n
  induction n with
  | zero => intro a b h; omega
  | succ n ih =>
    intro a b h ha hb hq
    rw [w_X9_common_28]
    simp only [lg_cmp_eq]
    refine ⟨fun h0 => ?_, fun h0 => ?_⟩
    · have : b = 0 := (pk_lNe0 hb).mp h0
      subst this
      simpa using hq
    · have hb0 : b ≠ 0 := fun e => h0 ((pk_lNe0 hb).mpr e)
      refine ⟨h0, ?_⟩
      rw [pk_lRem ha (by omega) hb]
      have hlt : a % b < b := Nat.mod_lt _ (by omega)
      refine ih b (a % b) (by omega) hb (by omega) ?_
      rw [Nat.gcd_comm a b, Nat.gcd_rec b a, Nat.gcd_comm] at hq
      exact hq
theorem sp_X9_common (a b : Int64) (σ : ds_S) (ha : 0 ≤ a) (hb : 0 ≤ b) : ds_EL mt_X9_common Ym [.long a, .long b] σ (fun x σ' => x = q_gcd a b ∧ σ' = σ) := by
  refine e_X9_common a b σ _ ?_
  obtain ⟨n, h1, h2, h3⟩ := lN_of_nn ha
  obtain ⟨k, g1, g2, g3⟩ := lN_of_nn hb
  have go : ∃ n, w_X9_common_28 n a b σ (fun r σ' => ∃ x, r = some (.long x) ∧ x = q_gcd a b ∧ σ' = σ) := by
    refine ⟨k + 1, ?_⟩
    rw [h2, g2]
    refine gcd_loop σ _ (k + 1) n k (by omega) h1 g1 ⟨_, rfl, ?_, rfl⟩
    unfold q_gcd
    rw [← h2, ← g2, h3, g3]
  unfold w_X9_common w_X9_common_12
  simp only [lg_cmp_ge]
  exact ⟨fun _ => ⟨fun _ => go, fun h => absurd hb h⟩, fun h => absurd ha h⟩
theorem sp_X8_commonDivisor (a b : Int64) (σ : ds_S) (ha : 0 ≤ a) (hb : 0 ≤ b) (hbig : b < 562949953421312) : ds_EL mt_X8_commonDivisor Yc [.long a, .long b] σ (fun x σ' => x = q_gcd a b ∧ σ' = σ) := by
  refine e_X8_commonDivisor a b σ _ ?_
  obtain ⟨n, h1, h2, h3⟩ := lN_of_nn ha
  obtain ⟨k, g1, g2, g3⟩ := lN_of_nn hb
  have hk : k < 2 ^ 49 := by
    rw [g2, show (562949953421312 : Int64) = lN 562949953421312 from rfl, pk_lLT g1 (by decide)] at hbig
    exact hbig
  have key : ∀ (j a b s : Nat) (Q : Option Value → ds_S → Prop), b < 2 ^ j → a < 2 ^ 63 → b < 2 ^ 63 → s + 2 * j < 100 → Q (some (.long (lN (Nat.gcd a b)))) σ → ∃ n, w_X8_commonDivisor_3 n (lN a) (lN b) (nI s) σ Q := by
    intro j
    induction j with
    | zero =>
      intro a b s Q h ha hb hs hq
      have : b = 0 := by omega
      subst this
      refine ⟨1, ?_⟩
      rw [w_X8_commonDivisor_3]
      simp only [lg_cmp_eq]
      rw [Nat.gcd_zero_right] at hq
      exact ⟨fun _ => hq, fun _ => ⟨fun _ => hq, fun h0 => absurd rfl h0⟩⟩
    | succ j ih =>
      intro a b s Q h ha hb hs hq
      by_cases hb0 : b = 0
      · subst hb0
        refine ⟨1, ?_⟩
        rw [w_X8_commonDivisor_3]
        simp only [lg_cmp_eq]
        rw [Nat.gcd_zero_right] at hq
        exact ⟨fun _ => hq, fun _ => ⟨fun _ => hq, fun h0 => absurd rfl h0⟩⟩
      · have hr : a % b < b := Nat.mod_lt _ (by omega)
        have s1 : ¬ (100 : Int32) ≤ nI s := nI_ge (b := 100) (by omega) (by decide)
        have s2 : ¬ (100 : Int32) ≤ nI (s + 1) := nI_ge (b := 100) (by omega) (by decide)
        rw [Nat.gcd_comm a b, Nat.gcd_rec b a, Nat.gcd_comm] at hq
        have nb : ¬ lN b = 0 := fun e => hb0 ((pk_lNe0 hb).mp e)
        by_cases hr0 : a % b = 0
        · refine ⟨2, ?_⟩
          rw [w_X8_commonDivisor_3]
          simp only [lg_cmp_eq]
          refine ⟨fun q => absurd q s1, fun _ => ⟨fun q => absurd q nb, fun _ => ⟨nb, ?_⟩⟩⟩
          rw [pk_lRem ha (by omega) hb, hr0, w_X8_commonDivisor_3]
          simp only [lg_cmp_eq]
          rw [hr0, Nat.gcd_zero_right] at hq
          exact ⟨fun _ => hq, fun _ => ⟨fun _ => hq, fun h0 => absurd rfl h0⟩⟩
        · have nr : ¬ lN (a % b) = 0 := fun e => hr0 ((pk_lNe0 (by omega)).mp e)
          have e1 : b % (a % b) < a % b := Nat.mod_lt _ (by omega)
          have hlt : b % (a % b) < 2 ^ j := by
            have e2 : a % b + b % (a % b) ≤ b := by
              have e3 := Nat.div_add_mod b (a % b)
              have e4 : 1 ≤ b / (a % b) := (Nat.le_div_iff_mul_le (by omega)).mpr (by omega)
              have e5 : a % b ≤ (a % b) * (b / (a % b)) := Nat.le_mul_of_pos_right _ (by omega)
              omega
            have e6 : 2 ^ (j + 1) = 2 * 2 ^ j := by rw [Nat.pow_succ]; omega
            omega
          rw [Nat.gcd_comm b (a % b), Nat.gcd_rec (a % b) b, Nat.gcd_comm] at hq
          obtain ⟨n, hn⟩ := ih (a % b) (b % (a % b)) (s + 2) Q hlt (by omega) (by omega) (by omega) hq
          refine ⟨n + 2, ?_⟩
          rw [w_X8_commonDivisor_3]
          simp only [lg_cmp_eq]
          refine ⟨fun q => absurd q s1, fun _ => ⟨fun q => absurd q nb, fun _ => ⟨nb, ?_⟩⟩⟩
          rw [pk_lRem ha (by omega) hb, nI_1, w_X8_commonDivisor_3]
          simp only [lg_cmp_eq]
          refine ⟨fun q => absurd q s2, fun _ => ⟨fun q => absurd q nr, fun _ => ⟨nr, ?_⟩⟩⟩
          rw [pk_lRem hb (by omega) (by omega), nI_1]
          exact hn
  unfold w_X8_commonDivisor
  have := key 49 n k 0 (fun r σ' => ∃ x, r = some (.long x) ∧ x = q_gcd a b ∧ σ' = σ) hk h1 g1 (by omega) ⟨_, rfl, by unfold q_gcd; rw [h3, g3], rfl⟩
  rw [← h2, ← g2] at this
  exact this
theorem gt_loop (σ : ds_S) (Q : Option Value → ds_S → Prop) (K31 : Int64 → Int64 → Int64 → Int64 → Int32 → ds_S → Prop) (K89 : Int32 → Int64 → Int64 → ds_S → Prop)
    (h31 : ∀ p q r s t : Nat, p < 2 ^ 63 → q < 2 ^ 63 → r < 2 ^ 63 → s < 2 ^ 63 → 0 < q → 0 < s → t ≤ 1 → p / q ≠ r / s → (t = 0 ∧ Q (some (.int (if r * q < p * s then 1 else 0))) σ ∨ t = 1 ∧ Q (some (.int (if p * s < r * q then 1 else 0))) σ) → K31 (lN p) (lN q) (lN r) (lN s) (nI t) σ)
    (h89 : ∀ p q r s t : Nat, p < 2 ^ 63 → q < 2 ^ 63 → r < 2 ^ 63 → s < 2 ^ 63 → 0 < q → 0 < s → t ≤ 1 → p / q = r / s → (p % q = 0 ∨ r % s = 0) → (t = 0 ∧ Q (some (.int (if r * q < p * s then 1 else 0))) σ ∨ t = 1 ∧ Q (some (.int (if p * s < r * q then 1 else 0))) σ) → K89 (nI t) (lN (p % q)) (lN (r % s)) σ) :
    ∀ (n p q r s t : Nat), q < n → p < 2 ^ 63 → q < 2 ^ 63 → r < 2 ^ 63 → s < 2 ^ 63 → 0 < q → 0 < s → t ≤ 1 → (t = 0 ∧ Q (some (.int (if r * q < p * s then 1 else 0))) σ ∨ t = 1 ∧ Q (some (.int (if p * s < r * q then 1 else 0))) σ) → w_X9_isGreater_17 n (lN p) (lN q) (lN r) (lN s) (nI t) σ Q K31 K89 := by
  intro n
  induction n with
  | zero => intro p q r s t h; omega
  | succ n ih =>
    intro p q r s t hn hp hq hr hs q0 s0 ht hQ
    have nq : ¬ lN q = 0 := fun e => absurd ((pk_lNe0 hq).mp e) (by omega)
    have ns : ¬ lN s = 0 := fun e => absurd ((pk_lNe0 hs).mp e) (by omega)
    have b1 : p / q < 2 ^ 63 := Nat.lt_of_le_of_lt (Nat.div_le_self _ _) hp
    have b2 : r / s < 2 ^ 63 := Nat.lt_of_le_of_lt (Nat.div_le_self _ _) hr
    have m1 : p % q < q := Nat.mod_lt _ q0
    have m2 : r % s < s := Nat.mod_lt _ s0
    rw [w_X9_isGreater_17]
    simp only [lg_cmp_eq, pk_lDiv hp q0 hq, pk_lDiv hr s0 hs, pk_lEQ b1 b2, pk_lNe0 (n := p % q) (by omega), pk_lNe0 (n := r % s) (by omega)]
    have e1 : lN p - lN (p / q) * lN q = lN (p % q) := by rw [← pk_lDiv hp q0 hq, pk_lRem hp q0 hq]
    have e2 : lN r - lN (r / s) * lN s = lN (r % s) := by rw [← pk_lDiv hr s0 hs, pk_lRem hr s0 hs]
    simp only [e1, e2, pk_lNe0 (n := p % q) (by omega), pk_lNe0 (n := r % s) (by omega)]
    refine ⟨nq, ns, fun hk => ⟨nq, ns, fun h0 => ?_, fun h0 => ⟨fun g0 => ?_, fun g0 => ?_⟩⟩, fun hk => ?_⟩
    · exact h89 p q r s t hp hq hr hs q0 s0 ht hk (Or.inl h0) hQ
    · have hP : p = q * (p / q) + p % q := (Nat.div_add_mod p q).symm
      have hR : r = s * (p / q) + r % s := by rw [hk]; exact (Nat.div_add_mod r s).symm
      have x1 : p * s = q * (p / q) * s + (p % q) * s := by
        rw [← Nat.add_mul, ← hP]
      have x2 : r * q = q * (p / q) * s + (r % s) * q := by
        have : r * q = s * (p / q) * q + (r % s) * q := by rw [← Nat.add_mul, ← hR]
        rw [this]
        congr 1
        rw [Nat.mul_right_comm, Nat.mul_comm s q, Nat.mul_right_comm q]
      have y1 : (r * q < p * s) = ((r % s) * q < (p % q) * s) := by rw [x1, x2]; exact propext (by omega)
      have y2 : (p * s < r * q) = ((p % q) * s < (r % s) * q) := by rw [x1, x2]; exact propext (by omega)
      have z1 : q * (r % s) = (r % s) * q := Nat.mul_comm _ _
      have z2 : s * (p % q) = (p % q) * s := Nat.mul_comm _ _
      refine ⟨fun ht0 => ?_, fun ht0 => ?_⟩
      · have t1 : t = 1 := by
          rcases (show t = 0 ∨ t = 1 by omega) with rfl | rfl
          · exact absurd rfl ht0
          · rfl
        subst t1
        refine ih q (p % q) s (r % s) 0 (by omega) hq (by omega) hs (by omega) (by omega) (by omega) (by omega) (Or.inl ⟨rfl, ?_⟩)
        rcases hQ with ⟨e, _⟩ | ⟨_, hQ⟩
        · omega
        · simp only [y2] at hQ
          rw [z1, z2]
          exact hQ
      · have t1 : t = 0 := by
          rcases (show t = 0 ∨ t = 1 by omega) with rfl | rfl
          · rfl
          · exact absurd ht0 (by decide)
        subst t1
        refine ih q (p % q) s (r % s) 1 (by omega) hq (by omega) hs (by omega) (by omega) (by omega) (by omega) (Or.inr ⟨rfl, ?_⟩)
        rcases hQ with ⟨_, hQ⟩ | ⟨e, _⟩
        · simp only [y1] at hQ
          rw [z1, z2]
          exact hQ
        · omega
    · exact h89 p q r s t hp hq hr hs q0 s0 ht hk (Or.inr g0) hQ
    · exact h31 p q r s t hp hq hr hs q0 s0 ht hk hQ
theorem gt_eq {p q r s : Nat} (hk : p / q = r / s) : ∃ k, p * s = k + (p % q) * s ∧ r * q = k + (r % s) * q := by
  refine ⟨q * (p / q) * s, ?_, ?_⟩
  · rw [← Nat.add_mul, Nat.div_add_mod]
  · have : r * q = s * (r / s) * q + (r % s) * q := by rw [← Nat.add_mul, Nat.div_add_mod]
    rw [this, hk]
    congr 1
    rw [Nat.mul_right_comm, Nat.mul_comm s q, Nat.mul_right_comm q]
theorem gt_quot {p q r s : Nat} (hq : 0 < q) (hs : 0 < s) (h : r / s < p / q) : r * q < p * s := by
  have h1 : r < (r / s + 1) * s := by
    have := Nat.div_add_mod r s
    have h2 := Nat.mod_lt r hs
    rw [Nat.add_mul, Nat.one_mul, Nat.mul_comm]
    omega
  have h3 : (r / s + 1) * s ≤ (p / q) * s := Nat.mul_le_mul_right _ h
  have h4 : (p / q) * q ≤ p := Nat.div_mul_le_self p q
  have h5 : r * q < (p / q) * s * q := Nat.mul_lt_mul_of_pos_right (by omega) hq
  have h6 : (p / q) * s * q = (p / q) * q * s := Nat.mul_right_comm _ _ _
  have h7 : (p / q) * q * s ≤ p * s := Nat.mul_le_mul_right _ h4
  omega
theorem lN_le0 {n : Nat} (h : n < 2 ^ 63) : lN n ≤ 0 ↔ n = 0 := by
  rw [show (0 : Int64) = lN 0 from rfl, pk_lLE h (by decide)]
  omega
theorem wk_X9_isGreater (a b c d : Int64) (σ : ds_S) (Q : Option Value → ds_S → Prop) (ha : 0 ≤ a) (hb : 0 < b) (hc : 0 ≤ c) (hd : 0 < d) (hq0 : Q (some (.int (q_gt a b c d))) σ) : w_X9_isGreater a b c d σ Q := by
  have hb' : 0 ≤ b := by rw [fa_lt64] at hb; rw [fa_le64]; omega
  have hd' : 0 ≤ d := by rw [fa_lt64] at hd; rw [fa_le64]; omega
  obtain ⟨p, hp, ep, tp⟩ := lN_of_nn ha
  obtain ⟨q, hq, eq, tq⟩ := lN_of_nn hb'
  obtain ⟨r, hr, er, tr⟩ := lN_of_nn hc
  obtain ⟨s, hs, es, ts⟩ := lN_of_nn hd'
  have q0 : 0 < q := by rw [eq, show (0 : Int64) = lN 0 from rfl, pk_lLT (by decide) hq] at hb; exact hb
  have s0 : 0 < s := by rw [es, show (0 : Int64) = lN 0 from rfl, pk_lLT (by decide) hs] at hd; exact hd
  have hQ : Q (some (.int (if r * q < p * s then 1 else 0))) σ := by
    have e : (q_gt a b c d) = (if r * q < p * s then 1 else 0) := by
      unfold q_gt
      rw [ep, eq, er, es, pk_lT hp, pk_lT hq, pk_lT hr, pk_lT hs]
      congr 1
      exact propext ⟨fun h => by rw [← Int.natCast_mul, ← Int.natCast_mul] at h; exact Int.ofNat_lt.mp h, fun h => by rw [← Int.natCast_mul, ← Int.natCast_mul]; exact Int.ofNat_lt.mpr h⟩
    rw [← e]
    exact hq0
  unfold w_X9_isGreater
  refine ⟨q + 1, ?_⟩
  rw [ep, eq, er, es]
  refine gt_loop σ _ _ _ ?_ ?_ (q + 1) p q r s 0 (by omega) hp hq hr hs q0 s0 (by omega) (Or.inl ⟨rfl, hQ⟩)
  · intro p q r s t hp hq hr hs q0 s0 ht hne hQ
    have b1 : p / q < 2 ^ 63 := Nat.lt_of_le_of_lt (Nat.div_le_self _ _) hp
    have b2 : r / s < 2 ^ 63 := Nat.lt_of_le_of_lt (Nat.div_le_self _ _) hr
    refine ⟨fun e => absurd ((pk_lNe0 hq).mp e) (by omega), fun e => absurd ((pk_lNe0 hs).mp e) (by omega), ?_⟩
    rw [pk_lDiv hp q0 hq, pk_lDiv hr s0 hs]
    simp only [lg_cmp_le, pk_lLE b1 b2, w_X9_isGreater_50]
    rcases Nat.lt_or_gt_of_ne hne with hlt | hgt
    · have hm := gt_quot s0 q0 hlt
      refine ⟨fun _ => ?_, fun h => absurd (by omega) h⟩
      rcases hQ with ⟨rfl, hQ⟩ | ⟨rfl, hQ⟩
      · rw [if_neg (by omega)] at hQ
        exact ⟨fun _ => hQ, fun h => absurd rfl h⟩
      · rw [if_pos hm] at hQ
        exact ⟨fun h => absurd h (by decide), fun _ => hQ⟩
    · have hm := gt_quot q0 s0 hgt
      refine ⟨fun h => absurd h (by omega), fun _ => ?_⟩
      rcases hQ with ⟨rfl, hQ⟩ | ⟨rfl, hQ⟩
      · rw [if_pos hm] at hQ
        exact ⟨fun h => absurd h (by decide), fun _ => hQ⟩
      · rw [if_neg (by omega)] at hQ
        exact ⟨fun _ => hQ, fun h => absurd rfl h⟩
  · intro p q r s t hp hq hr hs q0 s0 ht hk h0 hQ
    have m1 : p % q < q := Nat.mod_lt _ q0
    have m2 : r % s < s := Nat.mod_lt _ s0
    obtain ⟨k, x1, x2⟩ := gt_eq hk
    unfold w_X9_isGreater_89 w_X9_isGreater_109
    simp only [lg_cmp_eq, lg_cmp_le, pk_lEQ (a := p % q) (b := r % s) (by omega) (by omega), lN_le0 (n := p % q) (by omega)]
    refine ⟨fun h => ?_, fun h => ⟨fun h1 => ?_, fun h1 => ?_⟩⟩
    · have z1 : p % q = 0 := by omega
      have z2 : r % s = 0 := by omega
      rw [z1, Nat.zero_mul] at x1
      rw [z2, Nat.zero_mul] at x2
      rcases hQ with ⟨rfl, hQ⟩ | ⟨rfl, hQ⟩
      · rw [if_neg (by omega)] at hQ; exact hQ
      · rw [if_neg (by omega)] at hQ; exact hQ
    · have z2 : 0 < (r % s) * q := Nat.mul_pos (by omega) q0
      rw [h1, Nat.zero_mul] at x1
      rcases hQ with ⟨rfl, hQ⟩ | ⟨rfl, hQ⟩
      · rw [if_neg (by omega)] at hQ
        exact ⟨fun _ => hQ, fun h => absurd rfl h⟩
      · rw [if_pos (by omega)] at hQ
        exact ⟨fun h => absurd h (by decide), fun _ => hQ⟩
    · have z2 : r % s = 0 := by omega
      have z1 : 0 < (p % q) * s := Nat.mul_pos (by omega) s0
      rw [z2, Nat.zero_mul] at x2
      rcases hQ with ⟨rfl, hQ⟩ | ⟨rfl, hQ⟩
      · rw [if_pos (by omega)] at hQ
        exact ⟨fun h => absurd h (by decide), fun _ => hQ⟩
      · rw [if_neg (by omega)] at hQ
        exact ⟨fun _ => hQ, fun h => absurd rfl h⟩
theorem sp_X9_isGreater (a b c d : Int64) (σ : ds_S) (ha : 0 ≤ a) (hb : 0 < b) (hc : 0 ≤ c) (hd : 0 < d) : ds_EI mt_X9_isGreater Ym [.long a, .long b, .long c, .long d] σ (fun x σ' => x = q_gt a b c d ∧ σ' = σ) :=
  e_X9_isGreater a b c d σ _ (wk_X9_isGreater a b c d σ _ ha hb hc hd ⟨_, rfl, rfl, rfl⟩)
theorem sp_X9_loadOf (a b c : Int32) (σ : ds_S) (h : vp_in (((36 : Int32) * a) + ((6 : Int32) * b) + c) 108) : ds_EI mt_X9_loadOf Ym [.ref 0, .int a, .int b, .int c] σ (fun x σ' => x = σ.1 7 (((36 : Int32) * a) + ((6 : Int32) * b) + c).toNatClampNeg ∧ σ' = σ) :=
  e_X9_loadOf a b c σ _ ⟨h, _, rfl, rfl, rfl⟩
theorem sp_X9_isThere (l : Int32) (σ : ds_S) (h : vp_in l 10) : ds_EI mt_X9_isThere Ym [.ref 0, .int l] σ (fun x σ' => x = q_th (σ.1 6 l.toNatClampNeg) l (σ.1 0 13) ∧ σ' = σ) := by
  refine e_X9_isThere l σ _ ⟨h, fun h1 => ⟨_, rfl, ?_, rfl⟩, fun h1 => ⟨fun h2 => ⟨_, rfl, ?_, rfl⟩, fun h2 => ⟨_, rfl, ?_, rfl⟩⟩⟩
  · unfold q_th; rw [if_neg (fun q => h1 q.1)]
  · unfold q_th; rw [if_neg (fun q => q.2 h2)]
  · unfold q_th; rw [if_pos ⟨h1, h2⟩]
theorem ones_loop (b : Int32) (σ : ds_S) (Q : Option Value → ds_S → Prop) (hq : Q (some (.int (q_ones b))) σ) : ∀ (d k : Nat), k + d = 10 → w_X9_ones_4 (d + 1) b (q_onesN b k) (nI k) σ Q := by
  intro d
  induction d with
  | zero =>
    intro k hk
    obtain rfl : k = 10 := by omega
    rw [w_X9_ones_4]
    exact ⟨fun _ => hq, fun h => absurd (by decide) h⟩
  | succ d ih =>
    intro k hk
    rw [w_X9_ones_4]
    refine ⟨fun h => absurd h (nI_ge (b := 10) (by omega) (by decide)), fun _ => ?_⟩
    have := ih (k + 1) (by omega)
    rw [nI_1]
    exact this
theorem sp_X9_ones (b : Int32) (σ : ds_S) : ds_EI mt_X9_ones Ym [.int b] σ (fun x σ' => x = q_ones b ∧ σ' = σ) :=
  e_X9_ones b σ _ ⟨11, ones_loop b σ _ ⟨_, rfl, rfl, rfl⟩ 10 0 rfl⟩
theorem q_rng_t {x lo hi : Int32} (h : lo ≤ x) (h2 : x < hi) : q_rng x lo hi = 1 := if_pos ⟨h, h2⟩
theorem q_rng_f {x lo hi : Int32} (h : ¬ (lo ≤ x ∧ x < hi)) : q_rng x lo hi = 0 := if_neg h
theorem q_rng_l {x lo hi : Int32} (h : x < lo) : q_rng x lo hi = 0 := if_neg fun q => absurd q.1 (nle32.mpr h)
theorem q_rng_h {x lo hi : Int32} (h : hi ≤ x) : q_rng x lo hi = 0 := if_neg fun q => absurd q.2 (nlt32.mpr h)
theorem sp_J9_min_f86c9 (a b : Int64) (σ : ds_S) : ds_EL mt_J9_min_f86c9 Yc [.long a, .long b] σ (fun x σ' => x = q_min a b ∧ σ' = σ) := by
  refine e_J9_min_f86c9 a b σ _ ⟨fun h => ⟨_, rfl, ?_, rfl⟩, fun h => ⟨_, rfl, ?_, rfl⟩⟩
  · unfold q_min; rw [if_pos ((lg_cmp_gt a b).mp h)]
  · unfold q_min; rw [if_neg (fun q => h ((lg_cmp_gt a b).mpr q))]
theorem sp_J13_compare_74951 (a b : Int64) (σ : ds_S) : ds_EI mt_J13_compare_74951 Yc [.long a, .long b] σ (fun x σ' => x = q_cmp a b ∧ σ' = σ) := by
  refine e_J13_compare_74951 a b σ _ ⟨fun h => ⟨fun h2 => ⟨_, rfl, ?_, rfl⟩, fun h2 => ⟨_, rfl, ?_, rfl⟩⟩, fun h => ⟨_, rfl, ?_, rfl⟩⟩
  · unfold q_cmp; rw [if_neg (nlt64.mpr ((lg_cmp_ge a b).mp h)), if_neg (fun q => h2 ((lg_cmp_eq a b).mpr q))]
  · unfold q_cmp; rw [if_neg (nlt64.mpr ((lg_cmp_ge a b).mp h)), if_pos ((lg_cmp_eq a b).mp h2)]
  · unfold q_cmp; rw [if_pos (nle64.mp (fun q => h ((lg_cmp_ge a b).mpr q)))]
theorem sp_X8_isTable (a : Int32) (σ : ds_S) : ds_EI mt_X8_isTable Yc [.int a] σ (fun x σ' => x = q_rng a 0 3 ∧ σ' = σ) :=
  e_X8_isTable a σ _ ⟨fun h => ⟨_, rfl, (q_rng_l h).symm, rfl⟩, fun h => ⟨fun h2 => ⟨_, rfl, (q_rng_h h2).symm, rfl⟩, fun h2 => ⟨_, rfl, (q_rng_t (nlt32.mp h) (nle32.mp h2)).symm, rfl⟩⟩⟩
theorem le20 {a : Int32} : (20 < a ↔ 21 ≤ a) ∧ (a ≤ 20 ↔ a < 21) := by
  have c2 : (20 : Int32).toInt = 20 := rfl
  have c3 : (21 : Int32).toInt = 21 := rfl
  simp only [fa_lt, fa_le, c2, c3]
  omega
theorem le1 {a : Int32} : (0 ≤ a ∧ a < 2 ↔ a = 0 ∨ a = 1) := by
  have c0 : (0 : Int32).toInt = 0 := rfl
  have c1 : (1 : Int32).toInt = 1 := rfl
  have c2 : (2 : Int32).toInt = 2 := rfl
  simp only [fa_lt, fa_le, fa_eq, c0, c1, c2]
  omega
theorem sp_X8_isWeight (a : Int32) (σ : ds_S) : ds_EI mt_X8_isWeight Yc [.int a] σ (fun x σ' => x = q_rng a 1 21 ∧ σ' = σ) :=
  e_X8_isWeight a σ _ ⟨fun h => ⟨_, rfl, (q_rng_l h).symm, rfl⟩, fun h => ⟨fun h2 => ⟨_, rfl, (q_rng_h (le20.1.mp h2)).symm, rfl⟩, fun h2 => ⟨_, rfl, (q_rng_t (nlt32.mp h) (le20.2.mp (nlt32.mp h2))).symm, rfl⟩⟩⟩
theorem sp_X8_isOneOfTwo (a : Int32) (σ : ds_S) : ds_EI mt_X8_isOneOfTwo Yc [.int a] σ (fun x σ' => x = q_rng a 0 2 ∧ σ' = σ) := by
  refine e_X8_isOneOfTwo a σ _ ⟨fun h => ⟨_, rfl, ?_, rfl⟩, fun h => ⟨fun h2 => ⟨_, rfl, ?_, rfl⟩, fun h2 => ⟨_, rfl, ?_, rfl⟩⟩⟩
  · subst h; rfl
  · exact (q_rng_f (fun q => (le1.mp q).elim h h2)).symm
  · subst h2; rfl
theorem sp_X1_hasBox (a : Int32) (σ : ds_S) : ds_EI mt_X1_hasBox Yc [.ref 1, .int a] σ (fun x σ' => x = q_rng a 0 (σ.1 1 0) ∧ σ' = σ) :=
  e_X1_hasBox a σ _ ⟨fun h => ⟨_, rfl, (q_rng_l h).symm, rfl⟩, fun h => ⟨fun h2 => ⟨_, rfl, (q_rng_h h2).symm, rfl⟩, fun h2 => ⟨_, rfl, (q_rng_t (nlt32.mp h) (nle32.mp h2)).symm, rfl⟩⟩⟩
theorem sp_X1_hasLine (a : Int32) (σ : ds_S) : ds_EI mt_X1_hasLine Yc [.ref 1, .int a] σ (fun x σ' => x = q_rng a 0 (σ.1 1 1) ∧ σ' = σ) :=
  e_X1_hasLine a σ _ ⟨fun h => ⟨_, rfl, (q_rng_l h).symm, rfl⟩, fun h => ⟨fun h2 => ⟨_, rfl, (q_rng_h h2).symm, rfl⟩, fun h2 => ⟨_, rfl, (q_rng_t (nlt32.mp h) (nle32.mp h2)).symm, rfl⟩⟩⟩
theorem sp_X8_bit (a b : Int32) (σ : ds_S) : ds_EI mt_X8_bit Yc [.int a, .int b] σ (fun x σ' => x = q_bit a b ∧ σ' = σ) := e_X8_bit a b σ _ ⟨_, rfl, rfl, rfl⟩
theorem sp_X8_withBit (a b c : Int32) (σ : ds_S) : ds_EI mt_X8_withBit Yc [.int a, .int b, .int c] σ (fun x σ' => x = q_wb a b c ∧ σ' = σ) := by
  refine e_X8_withBit a b c σ _ ⟨fun h => ⟨_, rfl, ?_, rfl⟩, fun h => ⟨_, rfl, ?_, rfl⟩⟩
  · unfold q_wb; rw [if_pos h]
  · unfold q_wb; rw [if_neg h]
theorem sp_X8_pair (a b : Int32) (σ : ds_S) : ds_EI mt_X8_pair Yc [.int a, .int b] σ (fun x σ' => x = (a * (6 : Int32)) + b ∧ σ' = σ) := e_X8_pair a b σ _ ⟨_, rfl, rfl, rfl⟩
theorem sp_X8_slot (a b : Int32) (σ : ds_S) : ds_EI mt_X8_slot Yc [.int a, .int b] σ (fun x σ' => x = ((2 : Int32) * a) + b ∧ σ' = σ) := e_X8_slot a b σ _ ⟨_, rfl, rfl, rfl⟩
theorem sp_X2_place (a b c : Int32) (σ : ds_S) : ds_EI mt_X2_place Yc [.int a, .int b, .int c] σ (fun x σ' => x = ((a * (36 : Int32)) + (b * (6 : Int32))) + c ∧ σ' = σ) := e_X2_place a b c σ _ ⟨_, rfl, rfl, rfl⟩
theorem sp_X1_linesThere (a : Int32) (σ : ds_S) : ds_EI mt_X1_linesThere Yc [.ref 1, .int a] σ (fun x σ' => x = q_lt a (σ.1 1 1) (σ.1 1 7) ∧ σ' = σ) := by
  refine e_X1_linesThere a σ _ ⟨fun h => ⟨_, rfl, ?_, rfl⟩, fun h => ⟨_, rfl, ?_, rfl⟩⟩
  · unfold q_lt; rw [if_neg h]
  · unfold q_lt; rw [if_pos h]
theorem sp_X3_isAboveOne (a : Nat) (σ : ds_S) (h : ds_k Yc a 3) : ds_EI mt_X3_isAboveOne Yc [.ref a] σ (fun x σ' => x = q_ab (σ.2 a 0) (σ.1 a 1) ∧ σ' = σ) := by
  refine e_X3_isAboveOne a σ _ ⟨h, h, fun h1 => ⟨_, rfl, ?_, rfl⟩, fun h1 => ⟨_, rfl, ?_, rfl⟩⟩
  · unfold q_ab; rw [if_neg (nlt64.mpr ((lg_cmp_le _ _).mp h1))]
  · unfold q_ab; rw [if_pos (nle64.mp (fun q => h1 ((lg_cmp_le _ _).mpr q)))]
theorem sp_X5_choicesOf (a : Int32) (σ : ds_S) (h : vp_in a 10) : ds_EI mt_X5_choicesOf Yc [.ref 14, .int a] σ (fun x σ' => x = q_ch (σ.1 64 a.toNatClampNeg) (σ.1 14 6) ∧ σ' = σ) := by
  refine e_X5_choicesOf a σ _ ⟨h, fun h1 => ⟨_, rfl, ?_, rfl⟩, fun h1 => ⟨_, rfl, ?_, rfl⟩⟩
  · unfold q_ch; rw [if_neg (nlt32.mpr h1)]
  · unfold q_ch; rw [if_pos (nle32.mp h1)]
theorem sp_X6_countNets (σ : ds_S) : ds_EI mt_X6_countNets Yc [.ref 12] σ (fun x σ' => x = q_cn (σ.1 12 2) (σ.1 1 1) ∧ σ' = σ) := by
  refine e_X6_countNets σ _ ⟨fun h => ⟨_, rfl, ?_, rfl⟩, fun h => ⟨_, rfl, ?_, rfl⟩⟩
  · unfold q_cn; rw [if_pos h]
  · unfold q_cn; rw [if_neg h]
