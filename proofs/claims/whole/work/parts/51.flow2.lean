/-- all rows of k numbers of at most s together: their product divides -/
def okP : Nat → Nat → Nat → Bool
  | 0, _, p => decide (151200 % p = 0)
  | k + 1, s, p => (List.range (s + 1)).all fun v => okP k (s - v) (p * max 1 v)
theorem okP_sound : ∀ (k s p : Nat) (f : Nat → Nat), okP k s p = true → sumN f k ≤ s → p * prodN (fun b => max 1 (f b)) k ∣ 151200 := by
  intro k
  induction k with
  | zero =>
    intro s p f h _
    have : 151200 % p = 0 := of_decide_eq_true h
    rw [prodN, Nat.mul_one]
    exact Nat.dvd_of_mod_eq_zero this
  | succ k ih =>
    intro s p f h hs
    rw [sumN] at hs
    rw [okP, List.all_eq_true] at h
    have h1 := h (f k) (List.mem_range.mpr (by omega))
    have h2 := ih (s - f k) (p * max 1 (f k)) f h1 (by omega)
    rw [prodN]
    have e : p * (prodN (fun b => max 1 (f b)) k * max 1 (f k)) = p * max 1 (f k) * prodN (fun b => max 1 (f b)) k := by
      rw [Nat.mul_assoc, Nat.mul_comm (max 1 (f k))]
    rw [e]
    exact h2
theorem okP_6 : okP 6 10 1 = true := by decide +kernel
theorem okP_5 : okP 5 10 1 = true := by decide +kernel
theorem okP_4 : okP 4 10 1 = true := by decide +kernel
theorem okP_3 : okP 3 10 1 = true := by decide +kernel
theorem okP_2 : okP 2 10 1 = true := by decide +kernel
theorem okP_1 : okP 1 10 1 = true := by decide +kernel
theorem okP_0 : okP 0 10 1 = true := by decide +kernel
section FM
variable {n m : Nat} {d tl hd : Nat → Nat}
theorem pt_sum (hG : FG n m d tl hd) : sumN (fun b => pt tl b m) n ≤ 10 := by
  have e : sumN (fun b => pt tl b m) n = sumN (fun l => sumN (fun b => if tl l = b then 1 else 0) n) m := sumN_swap (fun b l => if tl l = b then 1 else 0) n m
  rw [e]
  have : sumN (fun l => sumN (fun b => if tl l = b then 1 else 0) n) m ≤ sumN (fun _ => 1) m := sumN_le fun l _ => sumN_one _ _ _
  have s : ∀ k, sumN (fun _ => 1) k = k := by
    intro k
    induction k with
    | zero => rfl
    | succ k ih => rw [sumN, ih]
  rw [s] at this
  have := hG.2.1
  omega
theorem pt_dvd (hG : FG n m d tl hd) : prodN (fun b => max 1 (pt tl b m)) n ∣ 151200 := by
  have hs := pt_sum hG
  have hn := hG.1
  have h : okP n 10 1 = true := by
    rcases (show n = 0 ∨ n = 1 ∨ n = 2 ∨ n = 3 ∨ n = 4 ∨ n = 5 ∨ n = 6 by omega) with rfl | rfl | rfl | rfl | rfl | rfl | rfl
    · exact okP_0
    · exact okP_1
    · exact okP_2
    · exact okP_3
    · exact okP_4
    · exact okP_5
    · exact okP_6
  have := okP_sound n 10 1 (fun b => pt tl b m) h hs
  rwa [Nat.one_mul] at this
theorem pt_prod_le (hG : FG n m d tl hd) : prodN (fun b => max 1 (pt tl b m)) n ≤ 151200 := Nat.le_of_dvd (by decide) (pt_dvd hG)
theorem pt_prod_pos : 0 < prodN (fun b => max 1 (pt tl b m)) n := prodN_pos fun b _ => by omega
end FM
theorem ptD_pt (fa fb w : Nat → Nat) (th : Nat → Bool) (d : Nat → Nat) (b : Nat) : ∀ k, ptD fa fb w th d b k = pt (tlD fa fb w th d) b k := by
  intro k
  induction k with
  | zero => rfl
  | succ k ih => rw [ptD, ih]; rfl
theorem fgD {n m t : Nat} {fa fb w : Nat → Nat} {th : Nat → Bool} {d : Nat → Nat} (hG : Gok n m fa fb w) (hm : m ≤ 10) : FG n m d (tlD fa fb w th d) (hdD fa fb w th d) := ⟨hG.1, hm, fun l hl h9 => by
  have := tlD_some (th := th) (d := d) hG hl h9
  have g := hG.2 l hl
  refine ⟨this.1, this.2.1, this.2.2.1, by omega⟩⟩
/-- what goes over line k / 2 the way k % 2 -/
def ov (fa fb tl F : Nat → Nat) (k : Nat) : Nat := if tl (k / 2) = (if k % 2 = 0 then fa (k / 2) else fb (k / 2)) then F (k / 2) else 0
theorem ov_slot {fa fb tl F : Nat → Nat} {l y : Nat} (hy : y ≤ 1) : ov fa fb tl F (2 * l + y) = if tl l = (if y = 0 then fa l else fb l) then F l else 0 := by
  unfold ov
  rw [show (2 * l + y) / 2 = l by omega, show (2 * l + y) % 2 = y by omega]
/-- the ones among the bits of NEXT -/
theorem q_onesN_nI {f : Nat → Nat} {m : Nat} (hm : m ≤ 10) (h : ∀ l, l < m → f l ≤ 1) : ∀ k, k ≤ 10 → q_onesN (nI (bitsOf f m)) k = nI (sumN f (if k ≤ m then k else m)) := by
  intro k
  induction k with
  | zero => intro _; rw [if_pos (Nat.zero_le _)]; rfl
  | succ k ih =>
    intro hk
    have hb := bitm hm h
    have e : ((nI (bitsOf f m)) >>> (nI k &&& 31)) &&& 1 = nI (bitsOf f m / 2 ^ k % 2) := q_bit_nI _ hb k (by omega)
    have e2 : q_onesN (nI (bitsOf f m)) (k + 1) = q_onesN (nI (bitsOf f m)) k + (((nI (bitsOf f m)) >>> (nI k &&& 31)) &&& 1) := rfl
    rw [e2, e, ih (by omega), nI_add]
    by_cases c : k + 1 ≤ m
    · rw [if_pos c, if_pos (by omega), bitsOf_at h (by omega), sumN]
    · rw [if_neg c]
      have z : bitsOf f m / 2 ^ k = 0 := Nat.div_eq_of_lt (Nat.lt_of_lt_of_le (bitsOf_lt h) (Nat.pow_le_pow_right (by decide) (by omega)))
      rw [z]
      by_cases c2 : k ≤ m
      · rw [if_pos c2, show k = m by omega]; rfl
      · rw [if_neg c2]; rfl
theorem q_ones_nb (fa fb w : Nat → Nat) (th : Nat → Bool) (d : Nat → Nat) (b : Nat) {m : Nat} (hm : m ≤ 10) : q_ones (nI (nbD fa fb w th d b m)) = nI (pt (tlD fa fb w th d) b m) := by
  have := q_onesN_nI (f := fun l => if tlD fa fb w th d l = b then 1 else 0) hm (fun l _ => by show (if _ then 1 else 0) ≤ 1; split <;> omega) 10 (Nat.le_refl _)
  unfold q_ones nbD pt
  rw [this]
  by_cases c : 10 ≤ m
  · rw [if_pos c, show m = 10 by omega]
  · rw [if_neg c]
