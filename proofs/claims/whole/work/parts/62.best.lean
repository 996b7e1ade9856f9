/-! the worst of many: a value, a table, a net -/
def isB (V : Nat → Nat → Nat × Nat × Nat) (S : Nat → Nat → Prop) (L : Prop) (st : Nat × Nat × Nat × Nat) : Prop :=
  (1 ≤ st.2.1 ∧ st.2.1 ≤ 100) ∧ (∀ t i, S t i → (V t i).1 * st.2.1 ≤ st.1 * (V t i).2.1) ∧ (st = (0, 1, 0, 0) ∨ (0 < st.1 ∧ S st.2.2.1 st.2.2.2 ∧ (V st.2.2.1 st.2.2.2).1 = st.1 ∧ (V st.2.2.1 st.2.2.2).2.1 = st.2.1 ∧ (L → ∀ t i, S t i → (V t i).1 * st.2.1 = st.1 * (V t i).2.1 → st.2.2.1 < t ∨ (st.2.2.1 = t ∧ st.2.2.2 ≤ i))))
section BB
variable {V : Nat → Nat → Nat × Nat × Nat} {S : Nat → Nat → Prop} {L : Prop} {st : Nat × Nat × Nat × Nat} {t j : Nat}
theorem isB_0 : isB V (fun _ _ => False) L (0, 1, 0, 0) := ⟨⟨Nat.le_refl _, (by decide : (1 : Nat) ≤ 100)⟩, fun _ _ h => h.elim, Or.inl rfl⟩
theorem isB_cong {S' : Nat → Nat → Prop} (e : ∀ t i, S t i ↔ S' t i) (h : isB V S L st) : isB V S' L st := by
  have : S = S' := by funext t i; exact propext (e t i)
  rw [← this]; exact h
theorem mul_cancel3 {a b c d e f : Nat} (h1 : a * c ≤ b * d) (h2 : b * e ≤ f * c) (hc : 0 < c) : a * e ≤ f * d := by
  apply Nat.le_of_mul_le_mul_right _ hc
  calc a * e * c = a * c * e := Nat.mul_right_comm _ _ _
    _ ≤ b * d * e := Nat.mul_le_mul_right _ h1
    _ = b * e * d := Nat.mul_right_comm _ _ _
    _ ≤ f * c * d := Nat.mul_le_mul_right _ h2
    _ = f * d * c := Nat.mul_right_comm _ _ _
theorem mul_cancel3' {a b c d e f : Nat} (h1 : a * c ≤ b * d) (h2 : b * e < f * c) (hc : 0 < c) (hd : 0 < d) : a * e < f * d := by
  apply Nat.lt_of_mul_lt_mul_right (a := c)
  calc a * e * c = a * c * e := Nat.mul_right_comm _ _ _
    _ ≤ b * d * e := Nat.mul_le_mul_right _ h1
    _ = b * e * d := Nat.mul_right_comm _ _ _
    _ < f * c * d := Nat.mul_lt_mul_of_pos_right h2 hd
    _ = f * d * c := Nat.mul_right_comm _ _ _
/-- one more, that takes the place -/
theorem isB_take (hV : ∀ t i, 1 ≤ (V t i).2.1 ∧ (V t i).2.1 ≤ 100) (h : isB V S L st) (hc : st.1 * (V t j).2.1 < (V t j).1 * st.2.1 ∨ ((V t j).1 * st.2.1 = st.1 * (V t j).2.1 ∧ t < st.2.2.1)) : isB V (fun t' i' => S t' i' ∨ (t' = t ∧ i' = j)) L ((V t j).1, (V t j).2.1, t, j) := by
  obtain ⟨⟨r1, r2⟩, hb, hcs⟩ := h
  have hq := hV t j
  have le : ∀ t' i', S t' i' → (V t' i').1 * (V t j).2.1 ≤ (V t j).1 * (V t' i').2.1 := by
    intro t' i' hs
    have h1 := hb t' i' hs
    exact mul_cancel3 h1 (by rcases hc with hc | ⟨hc, _⟩ <;> omega) (by omega)
  refine ⟨hq, fun t' i' hs => ?_, Or.inr ⟨?_, Or.inr ⟨rfl, rfl⟩, rfl, rfl, fun hl t' i' hs he => ?_⟩⟩
  · rcases hs with hs | ⟨rfl, rfl⟩
    · exact le t' i' hs
    · exact Nat.le_refl _
  · show 0 < (V t j).1
    rcases hc with hc | ⟨hc, hlt⟩
    · rcases Nat.eq_zero_or_pos (V t j).1 with q | q
      · rw [q, Nat.zero_mul] at hc; omega
      · exact q
    · rcases hcs with e | ⟨h0, _⟩
      · rw [e] at hlt; exact absurd hlt (Nat.not_lt_zero _)
      · rcases Nat.eq_zero_or_pos (V t j).1 with q | q
        · rw [q, Nat.zero_mul] at hc
          have := Nat.mul_pos h0 (show 0 < (V t j).2.1 by omega)
          omega
        · exact q
  · rcases hs with hs | ⟨rfl, rfl⟩
    · have he' : (V t' i').1 * (V t j).2.1 = (V t j).1 * (V t' i').2.1 := he
      have h1 := hb t' i' hs
      have hv := hV t' i'
      rcases hc with hc | ⟨hc, hlt⟩
      · have := mul_cancel3' h1 hc (by omega) (by omega)
        omega
      · rcases hcs with e | ⟨h0, h2, h3, h4, h5⟩
        · rw [e] at hlt; exact absurd hlt (Nat.not_lt_zero _)
        · left
          have eq2 : (V t' i').1 * st.2.1 = st.1 * (V t' i').2.1 := by
            refine Nat.le_antisymm h1 ?_
            exact mul_cancel3 (c := (V t j).2.1) (b := (V t j).1) (by rw [hc]; exact Nat.le_refl _) (by rw [he']; exact Nat.le_refl _) (by omega)
          have := h5 hl t' i' hs eq2
          show t < t'
          omega
    · exact Or.inr ⟨rfl, Nat.le_refl _⟩
/-- one more, that does not -/
theorem isB_skip (h : isB V S L st) (hle : (V t j).1 * st.2.1 ≤ st.1 * (V t j).2.1) (hc : L → st.1 ≠ 0 → (V t j).1 * st.2.1 = st.1 * (V t j).2.1 → st.2.2.1 < t ∨ (st.2.2.1 = t ∧ st.2.2.2 ≤ j)) : isB V (fun t' i' => S t' i' ∨ (t' = t ∧ i' = j)) L st := by
  obtain ⟨hr, hb, hcs⟩ := h
  refine ⟨hr, fun t' i' hs => ?_, ?_⟩
  · rcases hs with hs | ⟨rfl, rfl⟩
    · exact hb t' i' hs
    · exact hle
  · rcases hcs with e | ⟨h0, h2, h3, h4, h5⟩
    · exact Or.inl e
    · refine Or.inr ⟨h0, Or.inl h2, h3, h4, fun hl t' i' hs he => ?_⟩
      rcases hs with hs | ⟨rfl, rfl⟩
      · exact h5 hl t' i' hs he
      · exact hc hl (by omega) he
theorem isB_uniq {st' : Nat × Nat × Nat × Nat} (hL : L) (h : isB V S L st) (h' : isB V S L st') : st = st' := by
  obtain ⟨⟨r1, r2⟩, hb, hc⟩ := h
  obtain ⟨⟨r1', r2'⟩, hb', hc'⟩ := h'
  rcases hc with e | ⟨h0, h2, h3, h4, h5⟩
  · rcases hc' with e' | ⟨h0', h2', h3', h4', h5'⟩
    · rw [e, e']
    · have := hb _ _ h2'
      rw [e, h3', h4'] at this
      simp at this
      omega
  · rcases hc' with e' | ⟨h0', h2', h3', h4', h5'⟩
    · have := hb' _ _ h2
      rw [e', h3, h4] at this
      simp at this
      omega
    · have k1 := hb _ _ h2'
      have k2 := hb' _ _ h2
      rw [h3', h4'] at k1
      rw [h3, h4] at k2
      have g1 := h5 hL _ _ h2' (by rw [h3', h4']; omega)
      have g2 := h5' hL _ _ h2 (by rw [h3, h4]; omega)
      have e1 : st.2.2.1 = st'.2.2.1 := by omega
      have e2 : st.2.2.2 = st'.2.2.2 := by omega
      have e3 : st.1 = st'.1 := by rw [← h3, ← h3', e1, e2]
      have e4 : st.2.1 = st'.2.1 := by rw [← h4, ← h4', e1, e2]
      obtain ⟨a, b, c, d⟩ := st
      obtain ⟨a', b', c', d'⟩ := st'
      simp only at e1 e2 e3 e4
      rw [e1, e2, e3, e4]
/-- the value alone is settled in any order -/
theorem isB_val {L' : Prop} {st' : Nat × Nat × Nat × Nat} (h : isB V S L st) (h' : isB V S L' st') : st.1 * st'.2.1 = st'.1 * st.2.1 := by
  obtain ⟨⟨r1, r2⟩, hb, hc⟩ := h
  obtain ⟨⟨r1', r2'⟩, hb', hc'⟩ := h'
  have k1 : st'.1 * st.2.1 ≤ st.1 * st'.2.1 := by
    rcases hc' with e' | ⟨h0', h2', h3', h4', -⟩
    · rw [e']; simp
    · have k1 := hb _ _ h2'
      rw [h3', h4'] at k1
      exact k1
  have k2 : st.1 * st'.2.1 ≤ st'.1 * st.2.1 := by
    rcases hc with e | ⟨h0, h2, h3, h4, -⟩
    · rw [e]; simp
    · have k2 := hb' _ _ h2
      rw [h3, h4] at k2
      exact k2
  omega
end BB
/-! nets: the one as it is, and those with a line more away -/
def moI (i : Nat) : Nat := if i = 0 then 99 else i - 1
def vdN (N : Nt) (i : Nat) : Prop := i = 0 ∨ N 6 (i - 1) = 0
noncomputable def vN (N : Nt) (w : Nat → Nat) (t i : Nat) : Nat × Nat × Nat := wsN N w (moI i) (fun k => N 7 (36 * t + k))
theorem pkN_room {T R : Nat → Nat} {m : Nat} (hR : ∀ l, l < m → 1 ≤ R l ∧ R l ≤ 100) : ∀ k, k ≤ 2 * m → 1 ≤ (pkN T R k).2.1 ∧ (pkN T R k).2.1 ≤ 100 := by
  intro k
  induction k with
  | zero => intro _; exact ⟨Nat.le_refl 1, (by decide : (1 : Nat) ≤ 100)⟩
  | succ k ih =>
    intro hk
    rw [pkN]
    split
    · exact hR (k / 2) (by omega)
    · exact ih (by omega)
theorem vN_room {N : Nt} (hN : Nok N) (w : Nat → Nat) (t i : Nat) : 1 ≤ (vN N w t i).2.1 ∧ (vN N w t i).2.1 ≤ 100 := pkN_room hN.rm _ (Nat.le_refl _)
theorem vN_le {N : Nt} (hN : Nok N) {w : Nat → Nat} (hw : Wok N w) {t i : Nat} (ht : t < 3) : (vN N w t i).1 ≤ 36 * 50 * 151200 := (wsN_ok hN hw (fun k hk => hN.ld ht hk)).1
/-- how many nets -/
def ctN (N : Nt) : Nat := if N 0 9 = 0 then 1 else 1 + N 0 7
/-- all tables, the first nets -/
def fulN (N : Nt) (c : Nat) (t i : Nat) : Prop := t < 3 ∧ i < c ∧ vdN N i
theorem isB_le {N : Nt} (hN : Nok N) {w : Nat → Nat} (hw : Wok N w) {S : Nat → Nat → Prop} {L : Prop} {st : Nat × Nat × Nat × Nat} (hS : ∀ t i, S t i → t < 3) (h : isB (vN N w) S L st) : st.1 ≤ 36 * 50 * 151200 ∧ st.2.2.1 < 3 := by
  rcases h.2.2 with e | ⟨h0, h2, h3, -⟩
  · rw [e]; exact ⟨Nat.zero_le _, (by decide : (0 : Nat) < 3)⟩
  · have := hS _ _ h2
    refine ⟨?_, this⟩
    rw [← h3]
    exact vN_le hN hw this
