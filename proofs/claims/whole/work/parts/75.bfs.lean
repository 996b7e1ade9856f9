/-! how many changes there are to the goal -/
def Wk (ok : Nat → Nat → Prop) (g : Nat) : Nat → Nat → Prop
  | 0, v => v = g
  | k + 1, v => Wk ok g k v ∨ (1 ≤ v ∧ v ≤ 20 ∧ ∃ u, 1 ≤ u ∧ u ≤ 20 ∧ Wk ok g k u ∧ ok u v)
def Ex (ok : Nat → Nat → Prop) (g k v : Nat) : Prop := Wk ok g k v ∧ ∀ j, j < k → ¬ Wk ok g j v
section BF
variable {ok : Nat → Nat → Prop} {g : Nat}
theorem Wk_mono {k v : Nat} (h : Wk ok g k v) : ∀ {k'}, k ≤ k' → Wk ok g k' v := by
  intro k'
  induction k' with
  | zero => intro hk; rw [show k = 0 by omega] at h; exact h
  | succ k' ih =>
    intro hk
    by_cases e : k = k' + 1
    · rw [← e]; exact h
    · exact Or.inl (ih (by omega))
theorem Ex_uniq {k k' v : Nat} (h : Ex ok g k v) (h' : Ex ok g k' v) : k = k' := by
  rcases Nat.lt_trichotomy k k' with c | c | c
  · exact absurd h.1 (h'.2 k c)
  · exact c
  · exact absurd h'.1 (h.2 k' c)
theorem Wk_ex {k v : Nat} (h : Wk ok g k v) : ∃ j, j ≤ k ∧ Ex ok g j v := by
  obtain ⟨j, h1, h2⟩ := pk_least (fun j => Wk ok g j v) ⟨k, h⟩
  refine ⟨j, ?_, h1, h2⟩
  rcases Nat.lt_or_ge k j with c | c
  · exact absurd h (h2 k c)
  · exact c
theorem Wk_step {n x : Nat} (hn : ¬ Wk ok g n x) (hx1 : 1 ≤ x) (hx : x ≤ 20) : Wk ok g (n + 1) x ↔ ∃ u, 1 ≤ u ∧ u ≤ 20 ∧ Ex ok g n u ∧ ok u x := by
  constructor
  · rintro (h | ⟨_, _, u, h1, h2, h3, h4⟩)
    · exact absurd h hn
    · refine ⟨u, h1, h2, ⟨h3, fun j hj hw => hn ?_⟩, h4⟩
      exact Wk_mono (k := j + 1) (Or.inr ⟨hx1, hx, u, h1, h2, hw, h4⟩) (by omega)
  · rintro ⟨u, h1, h2, h3, h4⟩
    exact Or.inr ⟨hx1, hx, u, h1, h2, h3.1, h4⟩
/-- the row of numbers within a round: S is what is new -/
def dM (ok : Nat → Nat → Prop) (g : Nat) (F : Int32) (n : Nat) (S : Nat → Prop) (f : Nat → Int32) : Prop := ∀ v, 1 ≤ v → v ≤ 20 → (∀ k, k ≤ n → Ex ok g k v → f v = nI k) ∧ (¬ Wk ok g n v → S v → f v = nI (n + 1)) ∧ (¬ Wk ok g n v → ¬ S v → f v = F)
def dA (ok : Nat → Nat → Prop) (g : Nat) (F : Int32) (n : Nat) (f : Nat → Int32) : Prop := ∀ v, 1 ≤ v → v ≤ 20 → (∀ k, k ≤ n → Ex ok g k v → f v = nI k) ∧ (¬ Wk ok g n v → f v = F)
def Fok (F : Int32) : Prop := ∀ k, k ≤ 30 → F ≠ nI k
theorem Fok1 : Fok 1000000 := by unfold Fok; decide
theorem Fok2 : Fok (-6) := by unfold Fok; decide
theorem dA_M {F : Int32} {n : Nat} {f : Nat → Int32} (h : dA ok g F n f) : dM ok g F n (fun _ => False) f := fun v h1 h2 => ⟨(h v h1 h2).1, fun _ z => z.elim, fun z _ => (h v h1 h2).2 z⟩
theorem dM_cong {F : Int32} {n : Nat} {f : Nat → Int32} {S S' : Nat → Prop} (e : ∀ v, 1 ≤ v → v ≤ 20 → (S v ↔ S' v)) (h : dM ok g F n S f) : dM ok g F n S' f := fun v h1 h2 => ⟨(h v h1 h2).1, fun a b => (h v h1 h2).2.1 a ((e v h1 h2).mpr b), fun a b => (h v h1 h2).2.2 a (fun z => b ((e v h1 h2).mp z))⟩
theorem dM_A {F : Int32} {n : Nat} {f : Nat → Int32} (h : dM ok g F n (fun v => ∃ u, 1 ≤ u ∧ u ≤ 20 ∧ Ex ok g n u ∧ ok u v) f) : dA ok g F (n + 1) f := by
  intro v h1 h2
  obtain ⟨a, b, c⟩ := h v h1 h2
  refine ⟨fun k hk he => ?_, fun hn => ?_⟩
  · by_cases e : k = n + 1
    · subst e
      have hnw : ¬ Wk ok g n v := he.2 n (by omega)
      exact b hnw ((Wk_step hnw h1 h2).mp he.1)
    · exact a k (by omega) he
  · have hnw : ¬ Wk ok g n v := fun z => hn (Or.inl z)
    exact c hnw fun z => hn ((Wk_step hnw h1 h2).mpr z)
theorem dM_lv {F : Int32} (hF : Fok F) {n : Nat} (hn : n ≤ 20) {f : Nat → Int32} {S : Nat → Prop} (h : dM ok g F n S f) {v : Nat} (h1 : 1 ≤ v) (h2 : v ≤ 20) {k : Nat} (hk : k ≤ n) : f v = nI k ↔ Ex ok g k v := by
  obtain ⟨a, b, c⟩ := h v h1 h2
  constructor
  · intro e
    by_cases hw : Wk ok g n v
    · obtain ⟨j, hj, he⟩ := Wk_ex hw
      have := a j hj he
      rw [this, nI_eq (by omega) (by omega)] at e
      rw [← e]; exact he
    · by_cases hs : S v
      · rw [b hw hs, nI_eq (by omega) (by omega)] at e; omega
      · rw [c hw hs] at e; exact absurd e (hF k (by omega))
  · exact a k hk
theorem dM_far {F : Int32} (hF : Fok F) {n : Nat} (hn : n ≤ 20) {f : Nat → Int32} {S : Nat → Prop} (h : dM ok g F n S f) {v : Nat} (h1 : 1 ≤ v) (h2 : v ≤ 20) : f v = F ↔ ¬ Wk ok g n v ∧ ¬ S v := by
  obtain ⟨a, b, c⟩ := h v h1 h2
  constructor
  · intro e
    refine ⟨fun hw => ?_, fun hs => ?_⟩
    · obtain ⟨j, hj, he⟩ := Wk_ex hw
      rw [a j hj he] at e; exact hF j (by omega) e.symm
    · by_cases hw : Wk ok g n v
      · obtain ⟨j, hj, he⟩ := Wk_ex hw
        rw [a j hj he] at e; exact hF j (by omega) e.symm
      · rw [b hw hs] at e; exact hF (n + 1) (by omega) e.symm
  · exact fun z => c z.1 z.2
/-- a new one is written -/
theorem dM_up {F : Int32} {n : Nat} {f f' : Nat → Int32} {S : Nat → Prop} {x : Nat} (h : dM ok g F n S f) (hx : ¬ Wk ok g n x) (e1 : f' x = nI (n + 1)) (e2 : ∀ v, v ≠ x → f' v = f v) : dM ok g F n (fun v => S v ∨ v = x) f' := by
  intro v h1 h2
  obtain ⟨a, b, c⟩ := h v h1 h2
  by_cases e : v = x
  · subst e
    refine ⟨fun k hk he => absurd (Wk_mono he.1 hk) hx, fun _ _ => e1, fun _ z => absurd (Or.inr rfl) z⟩
  · rw [e2 v e]
    refine ⟨a, fun hw hs => ?_, fun hw hs => c hw fun z => hs (Or.inl z)⟩
    rcases hs with hs | hs
    · exact b hw hs
    · exact absurd hs e
theorem dA_0 {F : Int32} {f : Nat → Int32} (hg : f g = nI 0) (he : ∀ v, 1 ≤ v → v ≤ 20 → v ≠ g → f v = F) : dA ok g F 0 f := by
  intro v h1 h2
  refine ⟨fun k hk hE => ?_, fun hn => he v h1 h2 hn⟩
  have : v = g := by
    have := hE.1
    rw [show k = 0 by omega] at this
    exact this
  rw [this, hg, show k = 0 by omega]
/-- the least that is nearer -/
def NX (ok : Nat → Nat → Prop) (g k a v : Nat) : Prop := (1 ≤ v ∧ v ≤ 20 ∧ Ex ok g (k - 1) v ∧ ok a v) ∧ ∀ v', 1 ≤ v' → v' < v → ¬ (Ex ok g (k - 1) v' ∧ ok a v')
theorem NX_uniq {k a v v' : Nat} (h : NX ok g k a v) (h' : NX ok g k a v') : v = v' := by
  rcases Nat.lt_trichotomy v v' with c | c | c
  · exact absurd ⟨h.1.2.2.1, h.1.2.2.2⟩ (h'.2 v h.1.1 c)
  · exact c
  · exact absurd ⟨h'.1.2.2.1, h'.1.2.2.2⟩ (h.2 v' h'.1.1 c)
theorem NX_ex (hc : ∀ u v, ok u v → ok v u) {k a : Nat} (hk : 1 ≤ k) (h : Ex ok g k a) : ∃ v, 1 ≤ v ∧ v ≤ 20 ∧ Ex ok g (k - 1) v ∧ ok a v := by
  obtain ⟨j, rfl⟩ : ∃ j, k = j + 1 := ⟨k - 1, by omega⟩
  have hn := h.2 j (by omega)
  rcases h.1 with z | ⟨a1, a2, u, h1, h2, h3, h4⟩
  · exact absurd z hn
  · obtain ⟨u', q1, q2, q3, q4⟩ := (Wk_step hn a1 a2).mp h.1
    exact ⟨u', q1, q2, q3, hc _ _ q4⟩
/-- the way down -/
def PT (ok : Nat → Nat → Prop) (g c now : Nat) : Nat → Nat → Prop
  | 0, v => v = now
  | s + 1, v => ∃ a, PT ok g c now s a ∧ NX ok g (c - s) a v
theorem PT_uniq {c now : Nat} : ∀ {s v v'}, PT ok g c now s v → PT ok g c now s v' → v = v' := by
  intro s
  induction s with
  | zero => intro v v' h h'; exact h.trans h'.symm
  | succ s ih =>
    rintro v v' ⟨a, h1, h2⟩ ⟨a', h1', h2'⟩
    have := ih h1 h1'
    subst this
    exact NX_uniq h2 h2'
theorem PT_ex {c now : Nat} (h0 : Ex ok g c now) : ∀ {s v}, PT ok g c now s v → s ≤ c → Ex ok g (c - s) v := by
  intro s
  cases s with
  | zero => intro v h _; rw [show v = now from h]; exact h0
  | succ s =>
    rintro v ⟨a, h1, h2⟩ hs
    have := h2.1.2.2.1
    rw [show c - s - 1 = c - (s + 1) by omega] at this
    exact this
theorem PT_rg {c now : Nat} (h1 : 1 ≤ now) (h2 : now ≤ 20) : ∀ {s v}, PT ok g c now s v → 1 ≤ v ∧ v ≤ 20 := by
  intro s
  cases s with
  | zero => intro v h; rw [show v = now from h]; exact ⟨h1, h2⟩
  | succ s => rintro v ⟨a, _, h⟩; exact ⟨h.1.1, h.1.2.1⟩
end BF
