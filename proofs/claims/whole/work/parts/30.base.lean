/-! reading behind writing -/
theorem ds_wi_1 (σ : ds_S) (c k : Nat) (x : Int32) (c' k' : Nat) : (ds_wi σ c k x).1 c' k' = if c' = c ∧ k' = k then x else σ.1 c' k' := by
  unfold ds_wi ds_si va_up upd
  by_cases h : c' = c
  · subst h
    by_cases h2 : k' = k <;> simp [h2]
  · simp [h]
theorem ds_wi_2 (σ : ds_S) (c k : Nat) (x : Int32) : (ds_wi σ c k x).2 = σ.2 := rfl
theorem ds_wl_1 (σ : ds_S) (c k : Nat) (x : Int64) : (ds_wl σ c k x).1 = σ.1 := rfl
theorem ds_wl_2 (σ : ds_S) (c k : Nat) (x : Int64) (c' k' : Nat) : (ds_wl σ c k x).2 c' k' = if c' = c ∧ k' = k then x else σ.2 c' k' := by
  unfold ds_wl ds_sl va_up vp_updL
  by_cases h : c' = c
  · subst h
    by_cases h2 : k' = k <;> simp [h2]
  · simp [h]
theorem ds_si_1 (σ : ds_S) (c : Nat) (r : Nat → Int32) (c' : Nat) : (ds_si σ c r).1 c' = if c' = c then r else σ.1 c' := rfl
theorem ds_si_2 (σ : ds_S) (c : Nat) (r : Nat → Int32) : (ds_si σ c r).2 = σ.2 := rfl
theorem ds_sl_1 (σ : ds_S) (c : Nat) (r : Nat → Int64) : (ds_sl σ c r).1 = σ.1 := rfl
theorem ds_sl_2 (σ : ds_S) (c : Nat) (r : Nat → Int64) (c' : Nat) : (ds_sl σ c r).2 c' = if c' = c then r else σ.2 c' := rfl
theorem ds_cp_1 (σ : ds_S) (a b n c' k' : Nat) : (ds_cp σ a b n).1 c' k' = if c' = b then (if k' < n then σ.1 a k' else σ.1 b k') else σ.1 c' k' := by
  unfold ds_cp
  rw [ds_si_1]
  by_cases h : c' = b
  · subst h
    simp [va_cpy]
  · simp [h]
theorem ds_cp_2 (σ : ds_S) (a b n : Nat) : (ds_cp σ a b n).2 = σ.2 := rfl
theorem ds_si_si (σ : ds_S) (c : Nat) (r r' : Nat → Int32) : ds_si (ds_si σ c r) c r' = ds_si σ c r' := by
  unfold ds_si
  congr 1
  funext c'
  unfold va_up
  by_cases h : c' = c <;> simp [h]
theorem ds_wi_si (σ : ds_S) (c k : Nat) (r : Nat → Int32) (x : Int32) : ds_wi (ds_si σ c r) c k x = ds_si σ c (upd r k x) := by
  unfold ds_wi
  rw [ds_si_si]
  congr 1
  rw [ds_si_1, if_pos rfl]
theorem ds_wi_as (σ : ds_S) (c k : Nat) (x : Int32) : ds_wi σ c k x = ds_si σ c (upd (σ.1 c) k x) := rfl
theorem ds_si_self (σ : ds_S) (c : Nat) : ds_si σ c (σ.1 c) = σ := by
  unfold ds_si
  obtain ⟨a, b⟩ := σ
  congr 1
  funext c'
  unfold va_up
  split
  · next h => rw [h]
  · rfl
/-! numbers -/
theorem q_bx_rng {n : Nat} (h : n < 2 ^ 31) (x : Int32) : q_bx x (nI n) = q_rng x 0 (nI n) := by
  have e : (nI n - 1).toInt = (n : Int) - 1 := by
    by_cases h0 : n = 0
    · subst h0; decide
    · obtain ⟨k, rfl⟩ : ∃ k, n = k + 1 := ⟨n - 1, by omega⟩
      rw [nI_pred, nI_toInt (by omega)]
      omega
  unfold q_bx q_rng
  simp only [fa_le, fa_lt, e, nI_toInt h]
  congr 1
  exact propext (by omega)
theorem q_in_rng (x lo hi : Int32) (h : hi.toInt < 2147483647) : q_in x.toInt64 lo.toInt64 hi.toInt64 = q_rng x lo (hi + 1) := by
  have e : (hi + 1).toInt = hi.toInt + 1 := by
    rw [Int32.toInt_add]
    have h1 := Int32.le_toInt hi
    have : (1 : Int32).toInt = 1 := rfl
    rw [this]
    exact Int.bmod_eq_of_le (by omega) (by omega)
  unfold q_in q_rng
  simp only [fa_wide_le, fa_le, fa_lt, e]
  congr 1
  exact propext (by omega)
theorem q_in_0_1 (x : Int32) : q_in x.toInt64 0 1 = q_rng x 0 2 := q_in_rng x 0 1 (by decide)
theorem q_in_0_3 (x : Int32) : q_in x.toInt64 0 3 = q_rng x 0 4 := q_in_rng x 0 3 (by decide)
theorem q_in_0_10 (x : Int32) : q_in x.toInt64 0 10 = q_rng x 0 11 := q_in_rng x 0 10 (by decide)
theorem q_in_0_50 (x : Int32) : q_in x.toInt64 0 50 = q_rng x 0 51 := q_in_rng x 0 50 (by decide)
theorem q_in_1_2 (x : Int32) : q_in x.toInt64 1 2 = q_rng x 1 3 := q_in_rng x 1 2 (by decide)
theorem q_in_1_20 (x : Int32) : q_in x.toInt64 1 20 = q_rng x 1 21 := q_in_rng x 1 20 (by decide)
theorem q_in_1_100 (x : Int32) : q_in x.toInt64 1 100 = q_rng x 1 101 := q_in_rng x 1 100 (by decide)
theorem q_in_2_6 (x : Int32) : q_in x.toInt64 2 6 = q_rng x 2 7 := q_in_rng x 2 6 (by decide)
theorem q_in_5_7 (x : Int32) : q_in x.toInt64 5 7 = q_rng x 5 8 := q_in_rng x 5 7 (by decide)
/-- a number within: it is one of them -/
theorem q_rng_nI {lo hi : Nat} (hl : lo < 2 ^ 31) (h : hi < 2 ^ 31) (x : Int32) : (q_rng x (nI lo) (nI hi) = 0 ∧ ∀ j, lo ≤ j → j < hi → x ≠ nI j) ∨ (q_rng x (nI lo) (nI hi) = 1 ∧ ∃ j, lo ≤ j ∧ j < hi ∧ x = nI j) := by
  by_cases hr : nI lo ≤ x ∧ x < nI hi
  · right
    refine ⟨if_pos hr, ?_⟩
    have hlt : (x.toInt) < hi := by have := (fa_lt _ _).mp hr.2; rw [nI_toInt h] at this; exact this
    have hge : (lo : Int) ≤ x.toInt := by have := (fa_le _ _).mp hr.1; rw [nI_toInt hl] at this; exact this
    refine ⟨x.toInt.toNat, by omega, by omega, ?_⟩
    apply Int32.toInt_inj.mp
    rw [nI_toInt (by omega)]
    omega
  · left
    refine ⟨if_neg hr, fun j h1 h2 e => hr ?_⟩
    rw [e]
    exact ⟨nI_le h1 (by omega), nI_lt h2 h⟩
theorem q_rng_in {lo hi j : Nat} (h1 : lo ≤ j) (h2 : j < hi) (h : hi < 2 ^ 31) : q_rng (nI j) (nI lo) (nI hi) = 1 := if_pos ⟨nI_le h1 (by omega), nI_lt h2 h⟩
theorem z10 : ¬ (1 : Int32) = 0 := by decide
theorem z01 : (0 : Int32) = 0 := rfl
/-! bits, by the kernel: ten lines -/
def bitsOf (f : Nat → Nat) : Nat → Nat
  | 0 => 0
  | k + 1 => bitsOf f k + f k * 2 ^ k
theorem bitsOf_lt {f : Nat → Nat} {m : Nat} (h : ∀ l, l < m → f l ≤ 1) : bitsOf f m < 2 ^ m := by
  induction m with
  | zero => exact Nat.one_pos
  | succ m ih =>
    have h1 := ih fun l hl => h l (by omega)
    have h2 : f m * 2 ^ m ≤ 1 * 2 ^ m := Nat.mul_le_mul_right _ (h m (by omega))
    have h3 : 2 ^ (m + 1) = 2 * 2 ^ m := by rw [Nat.pow_succ]; omega
    show bitsOf f m + f m * 2 ^ m < 2 ^ (m + 1)
    omega
theorem bitsOf_at {f : Nat → Nat} {m l : Nat} (h : ∀ l, l < m → f l ≤ 1) (hl : l < m) : bitsOf f m / 2 ^ l % 2 = f l := by
  induction m with
  | zero => omega
  | succ m ih =>
    have hb := bitsOf_lt (f := f) (m := m) fun l hl => h l (by omega)
    show (bitsOf f m + f m * 2 ^ m) / 2 ^ l % 2 = f l
    by_cases e : l = m
    · subst e
      rw [Nat.add_mul_div_right _ _ (Nat.two_pow_pos l), Nat.div_eq_of_lt hb, Nat.zero_add]
      exact Nat.mod_eq_of_lt (by have := h l hl; omega)
    · have hlm : l < m := by omega
      obtain ⟨d, rfl⟩ : ∃ d, m = l + (d + 1) := ⟨m - l - 1, by omega⟩
      have e1 : f (l + (d + 1)) * 2 ^ (l + (d + 1)) = (f (l + (d + 1)) * 2 ^ d * 2) * 2 ^ l := by
        rw [Nat.pow_add, Nat.pow_succ]
        simp only [Nat.mul_assoc, Nat.mul_comm, Nat.mul_left_comm]
      rw [e1, Nat.add_mul_div_right _ _ (Nat.two_pow_pos l), Nat.add_mul_mod_self_right]
      exact ih (fun l hl => h l (by omega)) hlm
theorem bitsOf_cong {f g : Nat → Nat} {m : Nat} (h : ∀ l, l < m → f l = g l) : bitsOf f m = bitsOf g m := by
  induction m with
  | zero => rfl
  | succ m ih =>
    show bitsOf f m + f m * 2 ^ m = bitsOf g m + g m * 2 ^ m
    rw [ih fun l hl => h l (by omega), h m (by omega)]
theorem bitsOf_zero {f : Nat → Nat} {m : Nat} (h : ∀ l, l < m → f l = 0) : bitsOf f m = 0 := by
  induction m with
  | zero => rfl
  | succ m ih =>
    show bitsOf f m + f m * 2 ^ m = 0
    rw [ih fun l hl => h l (by omega), h m (by omega)]
    simp
theorem bitsOf_up {f : Nat → Nat} {m l v : Nat} (hl : l < m) : bitsOf (fun j => if j = l then v else f j) m + f l * 2 ^ l = bitsOf f m + v * 2 ^ l := by
  induction m with
  | zero => omega
  | succ m ih =>
    show bitsOf (fun j => if j = l then v else f j) m + (if m = l then v else f m) * 2 ^ m + f l * 2 ^ l = bitsOf f m + f m * 2 ^ m + v * 2 ^ l
    by_cases e : m = l
    · subst e
      have : bitsOf (fun j => if j = m then v else f j) m = bitsOf f m := bitsOf_cong fun j hj => by simp [show j ≠ m by omega]
      rw [this, if_pos rfl]
      omega
    · have := ih (by omega)
      rw [if_neg e]
      omega
theorem q_bit_nI : ∀ b, b < 1024 → ∀ l, l < 10 → q_bit (nI b) (nI l) = nI (b / 2 ^ l % 2) := by decide +kernel
theorem q_wb_0 : ∀ b, b < 1024 → ∀ l, l < 10 → q_wb (nI b) (nI l) 0 = nI (b - (b / 2 ^ l % 2) * 2 ^ l) := by decide +kernel
theorem q_wb_1 : ∀ b, b < 1024 → ∀ l, l < 10 → q_wb (nI b) (nI l) 1 = nI (b - (b / 2 ^ l % 2) * 2 ^ l + 2 ^ l) := by decide +kernel
