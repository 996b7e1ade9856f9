/-! which row of weights is better -/
theorem exB {N : Nt} (hN : Nok N) (w : Nat → Nat) : ∀ c, ∃ st, isB (vN N w) (fulN N c) True st := by
  intro c
  induction c with
  | zero => exact ⟨_, isB_cong (fun t i => ⟨fun h => h.elim, fun h => by have := h.2.1; omega⟩) isB_0⟩
  | succ c ih =>
    obtain ⟨st, hB⟩ := ih
    by_cases hvd : vdN N c
    · have key : ∀ t, t ≤ 3 → ∃ st, isB (vN N w) (fun t' i => fulN N c t' i ∨ (i = c ∧ t' < t)) True st := by
        intro t
        induction t with
        | zero => intro _; exact ⟨st, isB_cong (fun t' i => ⟨Or.inl, fun h => by rcases h with h | h; exact h; omega⟩) hB⟩
        | succ t iht =>
          intro ht
          obtain ⟨st, hB⟩ := iht (by omega)
          have eS : ∀ t' i, ((fulN N c t' i ∨ (i = c ∧ t' < t)) ∨ (t' = t ∧ i = c)) ↔ (fulN N c t' i ∨ (i = c ∧ t' < t + 1)) := by
            intro t' i
            constructor
            · rintro ((h | h) | h)
              · exact Or.inl h
              · exact Or.inr ⟨h.1, by omega⟩
              · exact Or.inr ⟨h.2, by omega⟩
            · rintro (h | ⟨h1, h2⟩)
              · exact Or.inl (Or.inl h)
              · by_cases e : t' = t
                · exact Or.inr ⟨e, h1⟩
                · exact Or.inl (Or.inr ⟨h1, by omega⟩)
          by_cases hc : st.1 * (vN N w t c).2.1 < (vN N w t c).1 * st.2.1 ∨ ((vN N w t c).1 * st.2.1 = st.1 * (vN N w t c).2.1 ∧ t < st.2.2.1)
          · exact ⟨_, isB_cong eS (isB_take (vN_room hN w) hB hc)⟩
          · have c1 : ¬ st.1 * (vN N w t c).2.1 < (vN N w t c).1 * st.2.1 := fun z => hc (Or.inl z)
            refine ⟨st, isB_cong eS (isB_skip hB (by omega) fun _ h0 he => ?_)⟩
            have c2 : ¬ t < st.2.2.1 := fun z => hc (Or.inr ⟨he, z⟩)
            rcases hB.2.2 with e | ⟨_, h2, _⟩
            · rw [e] at h0; exact absurd rfl h0
            · rcases h2 with h2 | h2
              · have := h2.2.1; omega
              · omega
      obtain ⟨st, hB⟩ := key 3 (Nat.le_refl _)
      refine ⟨st, isB_cong (fun t i => ?_) hB⟩
      unfold fulN
      constructor
      · rintro (⟨h1, h2, h3⟩ | ⟨h1, h2⟩)
        · exact ⟨h1, by omega, h3⟩
        · exact ⟨h2, by omega, by rw [h1]; exact hvd⟩
      · rintro ⟨h1, h2, h3⟩
        by_cases e : i = c
        · exact Or.inr ⟨e, h1⟩
        · exact Or.inl ⟨h1, by omega, h3⟩
    · refine ⟨st, isB_cong (fun t i => ?_) hB⟩
      unfold fulN
      constructor
      · rintro ⟨h1, h2, h3⟩
        exact ⟨h1, by omega, h3⟩
      · rintro ⟨h1, h2, h3⟩
        refine ⟨h1, ?_, h3⟩
        by_cases e : i = c
        · rw [e] at h3; exact absurd h3 hvd
        · omega
noncomputable def avN (N : Nt) (w : Nat → Nat) : Nat × Nat × Nat × Nat := Classical.epsilon (fun st => isB (vN N w) (fulN N (ctN N)) True st)
theorem avN_is {N : Nt} (hN : Nok N) (w : Nat → Nat) : isB (vN N w) (fulN N (ctN N)) True (avN N w) := Classical.epsilon_spec (exB hN w (ctN N))
theorem avN_r {N : Nt} (hN : Nok N) (w : Nat → Nat) : 1 ≤ (avN N w).2.1 ∧ (avN N w).2.1 ≤ 100 := (avN_is hN w).1
theorem avN_le {N : Nt} (hN : Nok N) {w : Nat → Nat} (hw : Wok N w) : (avN N w).1 ≤ 36 * 50 * 151200 := (isB_le hN hw (fun t i h => h.1) (avN_is hN w)).1
def chN (N : Nt) (w : Nat → Nat) : Nat := cntL (N 4) w (N 0 7)
theorem cntL_0 {f g : Nat → Nat} : ∀ {k : Nat}, cntL f g k = 0 → ∀ l, l < k → f l = g l := by
  intro k
  induction k with
  | zero => intro _ l hl; omega
  | succ k ih =>
    intro h l hl
    rw [cntL] at h
    by_cases e : l = k
    · rw [e]
      by_cases q : f k = g k
      · exact q
      · rw [if_neg q] at h; omega
    · exact ih (by omega) l (by omega)
theorem cntL_self (f : Nat → Nat) (k : Nat) : cntL f f k = 0 := by
  induction k with
  | zero => rfl
  | succ k ih => rw [cntL, ih, if_pos rfl]
/-- less full -/
def ltV (p q : Nat × Nat × Nat × Nat) : Prop := p.1 * q.2.1 < q.1 * p.2.1
def eqV (p q : Nat × Nat × Nat × Nat) : Prop := p.1 * q.2.1 = q.1 * p.2.1
noncomputable def betC (N : Nt) (w u : Nat → Nat) : Prop := ltV (avN N w) (avN N u) ∨ (eqV (avN N w) (avN N u) ∧ chN N w < chN N u)
noncomputable def bet (N : Nt) (w u : Nat → Nat) : Prop := ltV (avN N w) (avN N u) ∨ (eqV (avN N w) (avN N u) ∧ (chN N w < chN N u ∨ (chN N w = chN N u ∧ lexL (N 0 7) w u)))
theorem mul_cancel3'' {a b c d e f : Nat} (h1 : a * c < b * d) (h2 : b * e ≤ f * c) (he : 0 < e) : a * e < f * d := by
  apply Nat.lt_of_mul_lt_mul_right (a := c)
  calc a * e * c = a * c * e := Nat.mul_right_comm _ _ _
    _ < b * d * e := Nat.mul_lt_mul_of_pos_right h1 he
    _ = b * e * d := Nat.mul_right_comm _ _ _
    _ ≤ f * c * d := Nat.mul_le_mul_right _ h2
    _ = f * d * c := Nat.mul_right_comm _ _ _
section BT
variable {N : Nt} {p q r : Nat × Nat × Nat × Nat}
theorem ltV_lt (hr : 0 < r.2.1) (h : ltV p q) (h2 : ltV q r ∨ eqV q r) : ltV p r := by
  unfold ltV eqV at *
  exact mul_cancel3'' (b := q.1) (c := q.2.1) h (by rcases h2 with h2 | h2 <;> omega) hr
theorem eqV_lt (hp : 0 < p.2.1) (hq : 0 < q.2.1) (h : eqV p q) (h2 : ltV q r) : ltV p r := by
  unfold ltV eqV at *
  exact mul_cancel3' (b := q.1) (c := q.2.1) (Nat.le_of_eq h) h2 hq hp
theorem eqV_eq (hq : 0 < q.2.1) (h : eqV p q) (h2 : eqV q r) : eqV p r := by
  unfold eqV at *
  apply Nat.le_antisymm
  · exact mul_cancel3 (b := q.1) (c := q.2.1) (Nat.le_of_eq h) (Nat.le_of_eq h2) hq
  · exact mul_cancel3 (b := q.1) (c := q.2.1) (Nat.le_of_eq h2.symm) (Nat.le_of_eq h.symm) hq
theorem lexL_trans {m : Nat} {w u v : Nat → Nat} (h : lexL m w u) (h2 : lexL m u v) : lexL m w v := by
  obtain ⟨l, hl, a, b⟩ := h
  obtain ⟨l', hl', a', b'⟩ := h2
  rcases Nat.lt_trichotomy l l' with c | c | c
  · exact ⟨l, hl, fun j hj => (a j hj).trans (a' j (by omega)), by rw [← a' l c]; exact b⟩
  · subst c
    exact ⟨l, hl, fun j hj => (a j hj).trans (a' j hj), by omega⟩
  · exact ⟨l', hl', fun j hj => (a j (by omega)).trans (a' j hj), by rw [a l' c]; exact b'⟩
theorem lexL_asym {m : Nat} {w u : Nat → Nat} (h : lexL m w u) (h2 : lexL m u w) : False := by
  obtain ⟨l, hl, a, b⟩ := lexL_trans h h2
  omega
theorem lexL_total {m : Nat} {w u : Nat → Nat} (h : ¬ lexL m w u) (h2 : ¬ lexL m u w) : ∀ l, l < m → w l = u l := by
  intro l
  induction l using Nat.strongRecOn with
  | ind l ih =>
    intro hl
    have e : ∀ j, j < l → w j = u j := fun j hj => ih j hj (by omega)
    rcases Nat.lt_trichotomy (w l) (u l) with c | c | c
    · exact absurd ⟨l, hl, e, c⟩ h
    · exact c
    · exact absurd ⟨l, hl, fun j hj => (e j hj).symm, c⟩ h2
theorem betC_bet {w u : Nat → Nat} (h : betC N w u) : bet N w u := by
  rcases h with h | ⟨h1, h2⟩
  · exact Or.inl h
  · exact Or.inr ⟨h1, Or.inl h2⟩
theorem bet_trans (hN : Nok N) {w u v : Nat → Nat} (h : bet N w u) (h2 : bet N u v) : bet N w v := by
  have p1 := avN_r hN w
  have p2 := avN_r hN u
  have p3 := avN_r hN v
  rcases h with h | ⟨h, h'⟩
  · refine Or.inl (ltV_lt (by omega) h ?_)
    rcases h2 with h2 | ⟨h2, _⟩
    · exact Or.inl h2
    · exact Or.inr h2
  · rcases h2 with h2 | ⟨h2, h2'⟩
    · exact Or.inl (eqV_lt (by omega) (by omega) h h2)
    · refine Or.inr ⟨eqV_eq (by omega) h h2, ?_⟩
      rcases h' with h' | ⟨h', hl⟩
      · left
        rcases h2' with h2' | ⟨h2', _⟩ <;> omega
      · rcases h2' with h2' | ⟨h2', hl2⟩
        · left; omega
        · exact Or.inr ⟨by omega, lexL_trans hl hl2⟩
theorem bet_uniq {sp : Nat} {w u : Nat → Nat} (hw : Cand N sp w) (hu : Cand N sp u) (h : ¬ bet N w u) (h2 : ¬ bet N u w) : w = u := by
  have e : eqV (avN N w) (avN N u) := by
    have a : ¬ ltV (avN N w) (avN N u) := fun z => h (Or.inl z)
    have b : ¬ ltV (avN N u) (avN N w) := fun z => h2 (Or.inl z)
    unfold ltV eqV at *
    omega
  have e2 : chN N w = chN N u := by
    have a : ¬ chN N w < chN N u := fun z => h (Or.inr ⟨e, Or.inl z⟩)
    have b : ¬ chN N u < chN N w := fun z => h2 (Or.inr ⟨e.symm, Or.inl z⟩)
    omega
  have e3 := lexL_total (m := N 0 7) (w := w) (u := u) (fun z => h (Or.inr ⟨e, Or.inr ⟨e2, z⟩⟩)) (fun z => h2 (Or.inr ⟨e.symm, Or.inr ⟨e2.symm, z⟩⟩))
  exact hw.ext hu fun i hi => e3 _ (frN_lt hi)
/-- the best of all that may be chosen -/
def isBest (N : Nt) (sp K : Nat) (b : Nat → Nat) : Prop := Cand N sp b ∧ chN N b ≤ K ∧ ∀ u, Cand N sp u → chN N u ≤ K → ¬ bet N u b
theorem isBest_uniq {sp K : Nat} {b b' : Nat → Nat} (h : isBest N sp K b) (h' : isBest N sp K b') : b = b' := bet_uniq h.1 h'.1 (h'.2.2 b h.1 h.2.1) (h.2.2 b' h'.1 h'.2.1)
end BT
