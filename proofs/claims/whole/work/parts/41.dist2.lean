/-! one step nearer, and what it keeps -/
def rlx (f : Nat → Nat) (x y v : Nat) : Nat → Nat := fun z => if z = x ∧ f y + v < f x then f y + v else f z
section DE
variable {I n m t : Nat} {fa fb w : Nat → Nat} {th : Nat → Bool} {d f : Nat → Nat}
theorem rlx_at (f : Nat → Nat) (x y v : Nat) : rlx f x y v x = if f y + v < f x then f y + v else f x := by
  unfold rlx
  simp
theorem rlx_le (f : Nat → Nat) (x y v z : Nat) : rlx f x y v z ≤ f z := by
  unfold rlx
  split
  · next h => rw [h.1]; omega
  · exact Nat.le_refl _
theorem rlx_got (f : Nat → Nat) (x y v : Nat) : rlx f x y v x ≤ f y + v := by
  rw [rlx_at]; split <;> omega
theorem preD.rel (hG : Gok n m fa fb w) (hf : preD I n m fa fb w th t f) {x y l : Nat} (hl : l < m) (hth : th l = true) (hxy : (fa l = x ∧ fb l = y) ∨ (fb l = x ∧ fa l = y)) : preD I n m fa fb w th t (rlx f x y (w l)) := by
  by_cases h : f y + w l < f x
  · have e : rlx f x y (w l) = fun z => if z = x then f y + w l else f z := by
      funext z
      unfold rlx
      simp [h]
    rw [e]
    exact hf.lower hG hl hth hxy h
  · have e : rlx f x y (w l) = f := by
      funext z
      unfold rlx
      simp [h]
    rw [e]
    exact hf
/-- some box that is left has its least sum already -/
theorem isD.near (hG : Gok n m fa fb w) (h : isD n m fa fb w th t d) (ht : t < n) (hf : preD 1000 n m fa fb w th t f) {dn : Nat → Bool} (hd : ∀ x, x < n → dn x = true → f x = d x) (hln : ∀ l, l < m → th l = true → (dn (fa l) = true → f (fb l) ≤ d (fa l) + w l) ∧ (dn (fb l) = true → f (fa l) ≤ d (fb l) + w l)) :
    ∀ (v y : Nat), y < n → dn y = false → d y = v → v < 1000 → ∃ z, z < n ∧ dn z = false ∧ f z = d z ∧ d z ≤ v := by
  intro v
  induction v using Nat.strongRecOn with
  | ind v ih =>
    intro y hy hny hv hlt
    by_cases hyt : y = t
    · refine ⟨y, hy, hny, ?_, by omega⟩
      rw [hyt, hf.1, h.1.1]
    · obtain ⟨l, h1, h2, h3⟩ := h.from hG hy hyt (by omega)
      obtain ⟨g1, g2, g3, g4, g5⟩ := hG.2 l h1
      have hle := h.le_pre hG (Nat.le_refl _) hf (f y) y hy rfl
      obtain ⟨p1, p2⟩ := hln l h1 h2
      rcases h3 with ⟨rfl, h3⟩ | ⟨rfl, h3⟩
      · cases hz : dn (fb l) with
        | true =>
          have := p2 hz
          exact ⟨fa l, hy, hny, by omega, by omega⟩
        | false =>
          obtain ⟨z, z1, z2, z3, z4⟩ := ih (d (fb l)) (by omega) (fb l) g2 hz rfl (by omega)
          exact ⟨z, z1, z2, z3, by omega⟩
      · cases hz : dn (fa l) with
        | true =>
          have := p1 hz
          exact ⟨fb l, hy, hny, by omega, by omega⟩
        | false =>
          obtain ⟨z, z1, z2, z3, z4⟩ := ih (d (fa l)) (by omega) (fa l) g1 hz rfl (by omega)
          exact ⟨z, z1, z2, z3, by omega⟩
/-- rounds over all lines: what is k boxes off is known after k rounds -/
def rdD (n : Nat) (d f : Nat → Nat) (k : Nat) : Prop := ∀ x, x < n → d x < 1000 → rk d (d x) n ≤ k → f x ≤ d x
theorem rdD_0 (hG : Gok n m fa fb w) (h : isD n m fa fb w th t d) (hf : preD I n m fa fb w th t f) : rdD n d f 0 := by
  intro x hx hx1 hk
  by_cases hxt : x = t
  · rw [hxt, hf.1]; omega
  · obtain ⟨y, hy, h1, h2⟩ := h.low hG hx hxt hx1
    have := rk_lt (d := d) (v := d y) (v' := d x) (y := y) (Nat.le_refl _) h1 n hy
    omega
theorem rdD_succ (hG : Gok n m fa fb w) (h : isD n m fa fb w th t d) {f' : Nat → Nat} {k : Nat} (hf : preD I n m fa fb w th t f') (hk : rdD n d f k) (hle : ∀ l, l < m → th l = true → f' (fa l) ≤ f (fb l) + w l ∧ f' (fb l) ≤ f (fa l) + w l) : rdD n d f' (k + 1) := by
  intro x hx hx1 hr
  by_cases hxt : x = t
  · rw [hxt, hf.1]; omega
  · obtain ⟨l, h1, h2, h3⟩ := h.from hG hx hxt hx1
    obtain ⟨g1, g2, g3, g4, g5⟩ := hG.2 l h1
    obtain ⟨q1, q2⟩ := hle l h1 h2
    rcases h3 with ⟨rfl, h3⟩ | ⟨rfl, h3⟩
    · have r1 := rk_lt (d := d) (v := d (fb l)) (v' := d (fa l)) (y := fb l) (Nat.le_refl _) (by omega) n g2
      have := hk (fb l) g2 (by omega) (by omega)
      omega
    · have r1 := rk_lt (d := d) (v := d (fa l)) (v' := d (fb l)) (y := fa l) (Nat.le_refl _) (by omega) n g1
      have := hk (fa l) g1 (by omega) (by omega)
      omega
/-- after as many rounds as boxes it is known -/
theorem rdD_end (hG : Gok n m fa fb w) (h : isD n m fa fb w th t d) (hI : 1000 ≤ I) (hf : preD I n m fa fb w th t f) (hk : rdD n d f n) {x : Nat} (hx : x < n) : f x = if d x < 1000 then d x else I := by
  split
  · next h1 =>
    have := rk_self (d := d) hx
    have := hk x hx h1 (by omega)
    have := h.le_pre hG hI hf (f x) x hx rfl
    omega
  · next h1 =>
    have h2 := hf.2.1 x hx
    rcases Nat.lt_or_ge (f x) I with h3 | h3
    · exact absurd (h.fin hG hf (f x) x hx rfl h3) h1
    · omega
/-- the box of which a line is NEXT (99: of none), and where it goes -/
def tlD (fa fb w : Nat → Nat) (th : Nat → Bool) (d : Nat → Nat) (l : Nat) : Nat := if th l = true ∧ d (fa l) < 1000 ∧ d (fa l) = d (fb l) + w l then fa l else if th l = true ∧ d (fb l) < 1000 ∧ d (fb l) = d (fa l) + w l then fb l else 99
def hdD (fa fb w : Nat → Nat) (th : Nat → Bool) (d : Nat → Nat) (l : Nat) : Nat := if th l = true ∧ d (fa l) < 1000 ∧ d (fa l) = d (fb l) + w l then fb l else fa l
theorem tlD_0 (hG : Gok n m fa fb w) {l : Nat} (hl : l < m) (h : th l = true) (h1 : d (fa l) < 1000) (h2 : d (fa l) = d (fb l) + w l) : tlD fa fb w th d l = fa l ∧ hdD fa fb w th d l = fb l := ⟨if_pos ⟨h, h1, h2⟩, if_pos ⟨h, h1, h2⟩⟩
theorem tlD_1 (hG : Gok n m fa fb w) {l : Nat} (hl : l < m) (h : th l = true) (h1 : d (fb l) < 1000) (h2 : d (fb l) = d (fa l) + w l) : tlD fa fb w th d l = fb l ∧ hdD fa fb w th d l = fa l := by
  have g := hG.2 l hl
  have : ¬ (th l = true ∧ d (fa l) < 1000 ∧ d (fa l) = d (fb l) + w l) := fun q => by omega
  exact ⟨(if_neg this).trans (if_pos ⟨h, h1, h2⟩), if_neg this⟩
theorem tlD_cases (hG : Gok n m fa fb w) {l : Nat} (hl : l < m) : (tlD fa fb w th d l = 99 ∧ ¬ (th l = true ∧ d (fa l) < 1000 ∧ d (fa l) = d (fb l) + w l) ∧ ¬ (th l = true ∧ d (fb l) < 1000 ∧ d (fb l) = d (fa l) + w l)) ∨ (tlD fa fb w th d l = fa l ∧ hdD fa fb w th d l = fb l ∧ th l = true ∧ d (fa l) < 1000 ∧ d (fa l) = d (fb l) + w l) ∨ (tlD fa fb w th d l = fb l ∧ hdD fa fb w th d l = fa l ∧ th l = true ∧ d (fb l) < 1000 ∧ d (fb l) = d (fa l) + w l) := by
  by_cases h : th l = true ∧ d (fa l) < 1000 ∧ d (fa l) = d (fb l) + w l
  · right; left
    obtain ⟨a, b, c⟩ := h
    obtain ⟨e1, e2⟩ := tlD_0 hG hl a b c
    exact ⟨e1, e2, a, b, c⟩
  · by_cases h2 : th l = true ∧ d (fb l) < 1000 ∧ d (fb l) = d (fa l) + w l
    · right; right
      obtain ⟨a, b, c⟩ := h2
      obtain ⟨e1, e2⟩ := tlD_1 hG hl a b c
      exact ⟨e1, e2, a, b, c⟩
    · left
      exact ⟨(if_neg h).trans (if_neg h2), h, h2⟩
/-- of a line that is NEXT: its ends -/
theorem tlD_some (hG : Gok n m fa fb w) {l : Nat} (hl : l < m) (h : tlD fa fb w th d l ≠ 99) : tlD fa fb w th d l < n ∧ hdD fa fb w th d l < n ∧ d (tlD fa fb w th d l) < 1000 ∧ d (tlD fa fb w th d l) = d (hdD fa fb w th d l) + w l ∧ th l = true := by
  have g := hG.2 l hl
  rcases tlD_cases (th := th) (d := d) hG hl with ⟨e, _⟩ | ⟨e1, e2, a, b, c⟩ | ⟨e1, e2, a, b, c⟩
  · exact absurd e h
  · rw [e1, e2]; exact ⟨g.1, g.2.1, b, c, a⟩
  · rw [e1, e2]; exact ⟨g.2.1, g.1, b, c, a⟩
theorem tlD_fa (hG : Gok n m fa fb w) {l : Nat} (hl : l < m) : tlD fa fb w th d l = fa l ↔ th l = true ∧ d (fa l) < 1000 ∧ d (fa l) = d (fb l) + w l := by
  have g := hG.2 l hl
  have := hG.1
  rcases tlD_cases (th := th) (d := d) hG hl with ⟨e, h1, _⟩ | ⟨e1, e2, a, b, c⟩ | ⟨e1, e2, a, b, c⟩
  · exact ⟨fun q => by omega, fun q => absurd q h1⟩
  · exact ⟨fun _ => ⟨a, b, c⟩, fun _ => e1⟩
  · exact ⟨fun q => by omega, fun q => by omega⟩
theorem tlD_fb (hG : Gok n m fa fb w) {l : Nat} (hl : l < m) : tlD fa fb w th d l = fb l ↔ th l = true ∧ d (fb l) < 1000 ∧ d (fb l) = d (fa l) + w l := by
  have g := hG.2 l hl
  have := hG.1
  rcases tlD_cases (th := th) (d := d) hG hl with ⟨e, _, h1⟩ | ⟨e1, e2, a, b, c⟩ | ⟨e1, e2, a, b, c⟩
  · exact ⟨fun q => by omega, fun q => absurd q h1⟩
  · exact ⟨fun q => by omega, fun q => by omega⟩
  · exact ⟨fun _ => ⟨a, b, c⟩, fun _ => e1⟩
end DE
