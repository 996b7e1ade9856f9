/-! least sums -/
/-- boxes, lines, ends, weights as they must be -/
def Gok (n m : Nat) (fa fb w : Nat → Nat) : Prop := n ≤ 6 ∧ ∀ l, l < m → fa l < n ∧ fb l < n ∧ fa l ≠ fb l ∧ 1 ≤ w l ∧ w l ≤ 20
/-- what comes to be on the way: nothing is too small -/
def preD (I n m : Nat) (fa fb w : Nat → Nat) (th : Nat → Bool) (t : Nat) (f : Nat → Nat) : Prop :=
  f t = 0 ∧ (∀ x, x < n → f x ≤ I) ∧ ∀ x, x < n → x ≠ t → f x < I → ∃ l, l < m ∧ th l = true ∧ ((fa l = x ∧ f (fb l) + w l ≤ f x) ∨ (fb l = x ∧ f (fa l) + w l ≤ f x))
def isD (n m : Nat) (fa fb w : Nat → Nat) (th : Nat → Bool) (t : Nat) (d : Nat → Nat) : Prop :=
  preD 1000 n m fa fb w th t d ∧ ∀ l, l < m → th l = true → d (fa l) ≤ d (fb l) + w l ∧ d (fb l) ≤ d (fa l) + w l
section DD
variable {I n m t : Nat} {fa fb w : Nat → Nat} {th : Nat → Bool} {d f : Nat → Nat}
/-- a neighbour from which it comes -/
theorem isD.from (hG : Gok n m fa fb w) (h : isD n m fa fb w th t d) {x : Nat} (hx : x < n) (hxt : x ≠ t) (hf : d x < 1000) : ∃ l, l < m ∧ th l = true ∧ ((fa l = x ∧ d x = d (fb l) + w l) ∨ (fb l = x ∧ d x = d (fa l) + w l)) := by
  obtain ⟨l, h1, h2, h3⟩ := h.1.2.2 x hx hxt hf
  have h4 := h.2 l h1 h2
  refine ⟨l, h1, h2, ?_⟩
  rcases h3 with ⟨rfl, h3⟩ | ⟨rfl, h3⟩
  · left; exact ⟨rfl, by omega⟩
  · right; exact ⟨rfl, by omega⟩
/-- a lower neighbour, whichever end -/
theorem isD.low (hG : Gok n m fa fb w) (h : isD n m fa fb w th t d) {x : Nat} (hx : x < n) (hxt : x ≠ t) (hf : d x < 1000) : ∃ y, y < n ∧ d y < d x ∧ d x ≤ d y + 20 := by
  obtain ⟨l, h1, h2, h3⟩ := h.from hG hx hxt hf
  obtain ⟨g1, g2, g3, g4, g5⟩ := hG.2 l h1
  rcases h3 with ⟨rfl, h3⟩ | ⟨rfl, h3⟩
  · exact ⟨fb l, g2, by omega, by omega⟩
  · exact ⟨fa l, g1, by omega, by omega⟩
/-- how many boxes are nearer than v -/
def rk (d : Nat → Nat) (v : Nat) : Nat → Nat
  | 0 => 0
  | k + 1 => rk d v k + (if d k < v then 1 else 0)
theorem rk_mono {v v' : Nat} (h : v ≤ v') (k : Nat) : rk d v k ≤ rk d v' k := by
  induction k with
  | zero => exact Nat.le_refl _
  | succ k ih =>
    show rk d v k + (if d k < v then 1 else 0) ≤ rk d v' k + (if d k < v' then 1 else 0)
    by_cases h1 : d k < v
    · rw [if_pos h1, if_pos (by omega)]; omega
    · rw [if_neg h1]; omega
theorem rk_lt {v v' y : Nat} (h : v ≤ d y) (h2 : d y < v') : ∀ k, y < k → rk d v k + 1 ≤ rk d v' k := by
  intro k
  induction k with
  | zero => intro hy; omega
  | succ k ih =>
    intro hy
    show rk d v k + (if d k < v then 1 else 0) + 1 ≤ rk d v' k + (if d k < v' then 1 else 0)
    by_cases e : y = k
    · subst e
      have := rk_mono (d := d) (show v ≤ v' by omega) y
      rw [if_neg (by omega), if_pos h2]
      omega
    · have := ih (by omega)
      by_cases h1 : d k < v
      · rw [if_pos h1, if_pos (by omega)]; omega
      · rw [if_neg h1]; omega
theorem rk_le (d : Nat → Nat) (v k : Nat) : rk d v k ≤ k := by
  induction k with
  | zero => exact Nat.le_refl _
  | succ k ih =>
    show rk d v k + (if d k < v then 1 else 0) ≤ k + 1
    split <;> omega
theorem rk_self {x : Nat} (hx : x < n) : rk d (d x) n + 1 ≤ n := by
  have h1 := rk_lt (d := d) (v := d x) (v' := d x + 1) (y := x) (Nat.le_refl _) (by omega) n hx
  have h2 := rk_le d (d x + 1) n
  omega
theorem isD.bound (hG : Gok n m fa fb w) (h : isD n m fa fb w th t d) : ∀ (v x : Nat), x < n → d x = v → v < 1000 → v ≤ 20 * rk d v n := by
  intro v
  induction v using Nat.strongRecOn with
  | ind v ih =>
    intro x hx hv hlt
    by_cases hxt : x = t
    · rw [hxt, h.1.1] at hv; omega
    · obtain ⟨y, hy, h1, h2⟩ := h.low hG hx hxt (by omega)
      have h3 := ih (d y) (by omega) y hy rfl (by omega)
      have h4 := rk_lt (d := d) (v := d y) (v' := v) (y := y) (Nat.le_refl _) (by omega) n hy
      omega
theorem isD.le100 (hG : Gok n m fa fb w) (h : isD n m fa fb w th t d) {x : Nat} (hx : x < n) (hf : d x < 1000) : d x ≤ 100 := by
  have h1 := h.bound hG (d x) x hx rfl hf
  have h2 := rk_self (d := d) hx
  have h3 := hG.1
  omega
/-- nothing that comes to be is below -/
theorem isD.le_pre (hG : Gok n m fa fb w) (h : isD n m fa fb w th t d) (hI : 1000 ≤ I) (hf : preD I n m fa fb w th t f) : ∀ (v x : Nat), x < n → f x = v → d x ≤ v := by
  intro v
  induction v using Nat.strongRecOn with
  | ind v ih =>
    intro x hx hv
    by_cases hxt : x = t
    · rw [hxt, h.1.1]; omega
    · by_cases hlt : f x < I
      · obtain ⟨l, h1, h2, h3⟩ := hf.2.2 x hx hxt hlt
        obtain ⟨g1, g2, g3, g4, g5⟩ := hG.2 l h1
        have h4 := h.2 l h1 h2
        rcases h3 with ⟨rfl, h3⟩ | ⟨rfl, h3⟩
        · have := ih (f (fb l)) (by omega) (fb l) g2 rfl
          omega
        · have := ih (f (fa l)) (by omega) (fa l) g1 rfl
          omega
      · have := h.1.2.1 x hx
        omega
/-- what is reached on the way has a way -/
theorem isD.fin (hG : Gok n m fa fb w) (h : isD n m fa fb w th t d) (hf : preD I n m fa fb w th t f) : ∀ (v x : Nat), x < n → f x = v → v < I → d x < 1000 := by
  intro v
  induction v using Nat.strongRecOn with
  | ind v ih =>
    intro x hx hv hlt
    by_cases hxt : x = t
    · rw [hxt, h.1.1]; omega
    · obtain ⟨l, h1, h2, h3⟩ := hf.2.2 x hx hxt (by omega)
      obtain ⟨g1, g2, g3, g4, g5⟩ := hG.2 l h1
      have h4 := h.2 l h1 h2
      rcases h3 with ⟨rfl, h3⟩ | ⟨rfl, h3⟩
      · have h5 := ih (f (fb l)) (by omega) (fb l) g2 rfl (by omega)
        have := h.le100 hG g2 h5
        omega
      · have h5 := ih (f (fa l)) (by omega) (fa l) g1 rfl (by omega)
        have := h.le100 hG g1 h5
        omega
theorem isD.uniq (hG : Gok n m fa fb w) (h : isD n m fa fb w th t d) (hf : isD n m fa fb w th t f) {x : Nat} (hx : x < n) : d x = f x :=
  Nat.le_antisymm (h.le_pre hG (Nat.le_refl _) hf.1 (f x) x hx rfl) (hf.le_pre hG (Nat.le_refl _) h.1 (d x) x hx rfl)
/-- one value is lowered along a line -/
theorem preD.lower (hG : Gok n m fa fb w) (hf : preD I n m fa fb w th t f) {x y l : Nat} (hl : l < m) (hth : th l = true) (hxy : (fa l = x ∧ fb l = y) ∨ (fb l = x ∧ fa l = y)) (hlt : f y + w l < f x) : preD I n m fa fb w th t (fun z => if z = x then f y + w l else f z) := by
  obtain ⟨g1, g2, g3, g4, g5⟩ := hG.2 l hl
  have hyx : y ≠ x := by rcases hxy with ⟨rfl, rfl⟩ | ⟨rfl, rfl⟩ <;> omega
  have hxn : x < n := by rcases hxy with ⟨rfl, rfl⟩ | ⟨rfl, rfl⟩ <;> assumption
  have hxt : t ≠ x := fun e => by rw [← e, hf.1] at hlt; omega
  refine ⟨by show (if t = x then f y + w l else f t) = 0; rw [if_neg hxt]; exact hf.1, fun z hz => ?_, fun z hz hzt hzl => ?_⟩
  · have := hf.2.1 z hz
    have := hf.2.1 x hxn
    by_cases e : z = x
    · simp [e]; omega
    · simp [e]; assumption
  · by_cases e : z = x
    · subst e
      refine ⟨l, hl, hth, ?_⟩
      rcases hxy with ⟨e1, e2⟩ | ⟨e1, e2⟩
      · left; refine ⟨e1, ?_⟩; simp [e2, hyx]
      · right; refine ⟨e1, ?_⟩; simp [e2, hyx]
    · simp only [if_neg e] at hzl
      obtain ⟨k, k1, k2, k3⟩ := hf.2.2 z hz hzt hzl
      refine ⟨k, k1, k2, ?_⟩
      simp only [if_neg e]
      rcases k3 with ⟨k3, k4⟩ | ⟨k3, k4⟩
      · left; refine ⟨k3, ?_⟩
        by_cases e2 : fb k = x
        · simp [e2]; rw [e2] at k4; omega
        · simp [e2]; exact k4
      · right; refine ⟨k3, ?_⟩
        by_cases e2 : fa k = x
        · simp [e2]; rw [e2] at k4; omega
        · simp [e2]; exact k4
def sumN (f : Nat → Nat) : Nat → Nat
  | 0 => 0
  | k + 1 => sumN f k + f k
theorem sumN_up {v x : Nat} (h : v < f x) : ∀ k, x < k → sumN (fun z => if z = x then v else f z) k < sumN f k := by
  have le : ∀ k, sumN (fun z => if z = x then v else f z) k ≤ sumN f k := by
    intro k
    induction k with
    | zero => exact Nat.le_refl _
    | succ k ih =>
      show sumN _ k + (if k = x then v else f k) ≤ sumN f k + f k
      by_cases e : k = x
      · rw [if_pos e]; subst e; omega
      · rw [if_neg e]; omega
  intro k
  induction k with
  | zero => intro h; omega
  | succ k ih =>
    intro hx
    show sumN _ k + (if k = x then v else f k) < sumN f k + f k
    have := le k
    by_cases e : k = x
    · rw [if_pos e]; subst e; omega
    · rw [if_neg e]
      have := ih (by omega)
      omega
theorem exD (hG : Gok n m fa fb w) (ht : t < n) : ∃ d, isD n m fa fb w th t d := by
  have key : ∀ (s : Nat) (f : Nat → Nat), sumN f n = s → preD 1000 n m fa fb w th t f → ∃ d, isD n m fa fb w th t d := by
    intro s
    induction s using Nat.strongRecOn with
    | ind s ih =>
      intro f hs hf
      by_cases hall : ∀ l, l < m → th l = true → f (fa l) ≤ f (fb l) + w l ∧ f (fb l) ≤ f (fa l) + w l
      · exact ⟨f, hf, hall⟩
      · obtain ⟨l, h1⟩ := Classical.not_forall.mp hall
        obtain ⟨h2, h1⟩ := Classical.not_imp.mp h1
        obtain ⟨h3, h1⟩ := Classical.not_imp.mp h1
        obtain ⟨g1, g2, g3, g4, g5⟩ := hG.2 l h2
        by_cases c : f (fa l) ≤ f (fb l) + w l
        · have c2 : f (fa l) + w l < f (fb l) := by
            have : ¬ f (fb l) ≤ f (fa l) + w l := fun q => h1 ⟨c, q⟩
            omega
          exact ih _ (by rw [← hs]; exact sumN_up c2 n g2) _ rfl (hf.lower hG h2 h3 (Or.inr ⟨rfl, rfl⟩) c2)
        · have c2 : f (fb l) + w l < f (fa l) := by omega
          exact ih _ (by rw [← hs]; exact sumN_up c2 n g1) _ rfl (hf.lower hG h2 h3 (Or.inl ⟨rfl, rfl⟩) c2)
  refine key _ (fun z => if z = t then 0 else 1000) rfl ⟨by simp, fun x _ => ?_, fun x _ hxt hlt => ?_⟩
  · by_cases e : x = t <;> simp [e]
  · simp [hxt] at hlt
end DD
