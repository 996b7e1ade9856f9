/-! letters that go down, in whole numbers -/
theorem sumN_le {f g : Nat → Nat} {n : Nat} (h : ∀ i, i < n → f i ≤ g i) : sumN f n ≤ sumN g n := by
  induction n with
  | zero => exact Nat.le_refl _
  | succ n ih =>
    have h1 := ih fun i hi => h i (by omega)
    have h2 := h n (by omega)
    rw [sumN, sumN]; omega
theorem sumN_mono {f : Nat → Nat} {j n : Nat} (h : j ≤ n) : sumN f j ≤ sumN f n := by
  induction n with
  | zero => rw [show j = 0 by omega]; exact Nat.le_refl _
  | succ n ih =>
    by_cases e : j = n + 1
    · rw [e]; exact Nat.le_refl _
    · have := ih (by omega)
      rw [sumN]; omega
theorem sumN_get {f : Nat → Nat} {n i : Nat} (h : i < n) : f i ≤ sumN f n := by
  have : sumN f (i + 1) ≤ sumN f n := sumN_mono (by omega)
  rw [sumN] at this; omega
theorem sumN_one (k v n : Nat) : sumN (fun b => if k = b then v else 0) n ≤ v := by
  have h0 : ∀ n, n ≤ k → sumN (fun b => if k = b then v else 0) n = 0 := fun n hn => sumN_zero fun i hi => if_neg (by omega)
  induction n with
  | zero => exact Nat.zero_le _
  | succ n ih =>
    rw [sumN]
    by_cases e : k = n
    · rw [h0 n (by omega), if_pos e]; omega
    · rw [if_neg e]; omega
theorem sumN_mulr (f : Nat → Nat) (c n : Nat) : sumN (fun i => f i * c) n = sumN f n * c := by
  induction n with
  | zero => simp [sumN]
  | succ n ih => rw [sumN, sumN, ih, Nat.add_mul]
theorem sumN_dvd {f : Nat → Nat} {R n : Nat} (h : ∀ i, i < n → R ∣ f i) : R ∣ sumN f n := by
  induction n with
  | zero => exact Nat.dvd_zero R
  | succ n ih => rw [sumN]; exact Nat.dvd_add (ih fun i hi => h i (by omega)) (h n (by omega))
/-- a product -/
def prodN (f : Nat → Nat) : Nat → Nat
  | 0 => 1
  | k + 1 => prodN f k * f k
theorem prodN_cong {f g : Nat → Nat} {n : Nat} (h : ∀ i, i < n → f i = g i) : prodN f n = prodN g n := by
  induction n with
  | zero => rfl
  | succ n ih => rw [prodN, prodN, ih fun i hi => h i (by omega), h n (by omega)]
theorem prodN_pos {f : Nat → Nat} {n : Nat} (h : ∀ i, i < n → 0 < f i) : 0 < prodN f n := by
  induction n with
  | zero => exact Nat.one_pos
  | succ n ih => rw [prodN]; exact Nat.mul_pos (ih fun i hi => h i (by omega)) (h n (by omega))
/-- one factor taken out -/
theorem prodN_out {f g : Nat → Nat} {n c : Nat} (hc : c < n) (h : ∀ i, i < n → i ≠ c → f i = g i) (h1 : g c = 1) : prodN f n = f c * prodN g n := by
  induction n with
  | zero => omega
  | succ n ih =>
    rw [prodN, prodN]
    by_cases e : c = n
    · subst e
      rw [prodN_cong (g := g) fun i hi => h i (by omega) (by omega), h1, Nat.mul_one, Nat.mul_comm]
    · rw [ih (by omega) fun i hi hi2 => h i (by omega) hi2, h n (by omega) (Ne.symm e), Nat.mul_assoc]
/-- how many of the first k lines go from b -/
def pt (tl : Nat → Nat) (b k : Nat) : Nat := sumN (fun l => if tl l = b then 1 else 0) k
theorem pt_pos {tl : Nat → Nat} {b m l : Nat} (hl : l < m) (h : tl l = b) : 0 < pt tl b m := by
  have := sumN_get (f := fun l => if tl l = b then 1 else 0) hl
  unfold pt
  simp only [h, if_true] at this
  omega
theorem pt_no {tl : Nat → Nat} {b m : Nat} (h : pt tl b m = 0) : ∀ l, l < m → tl l ≠ b := fun l hl e => by
  have := pt_pos hl e
  omega
/-- lines that go down -/
def FG (n m : Nat) (d tl hd : Nat → Nat) : Prop := n ≤ 6 ∧ m ≤ 10 ∧ ∀ l, l < m → tl l ≠ 99 → tl l < n ∧ hd l < n ∧ d (tl l) < 1000 ∧ d (hd l) < d (tl l)
section FL
variable {n m W : Nat} {d tl hd x0 X F : Nat → Nat} {dn : Nat → Bool}
/-- what comes into b -/
def inF (m : Nat) (tl hd F : Nat → Nat) (b : Nat) : Nat := sumN (fun l => if tl l ≠ 99 ∧ hd l = b then F l else 0) m
/-- what is still to be divided by -/
def reF (n m : Nat) (tl : Nat → Nat) (dn : Nat → Bool) : Nat := prodN (fun b => if dn b = true then 1 else max 1 (pt tl b m)) n
def FI (n m : Nat) (d tl hd : Nat → Nat) (W : Nat) (x0 : Nat → Nat) (dn : Nat → Bool) (X F : Nat → Nat) : Prop :=
  (∀ b, b < n → d b < 1000 → X b = x0 b * W + inF m tl hd F b) ∧ (∀ l, l < m → (tl l ≠ 99 → dn (tl l) = true → F l * pt tl (tl l) m = X (tl l)) ∧ (tl l = 99 ∨ dn (tl l) = false → F l = 0)) ∧ (∀ x y, x < n → y < n → d y < 1000 → dn x = true → dn y = false → d y ≤ d x) ∧ (∀ b, b < n → d b < 1000 → dn b = false → reF n m tl dn ∣ X b) ∧ sumN (fun b => if d b < 1000 ∧ dn b = false then X b else 0) n ≤ sumN x0 n * W ∧ ∀ b, b < n → d b < 1000 → X b ≤ sumN x0 n * W
/-- all has gone down -/
def isF (n m : Nat) (d tl hd : Nat → Nat) (W : Nat) (x0 X F : Nat → Nat) : Prop :=
  (∀ b, b < n → d b < 1000 → X b = x0 b * W + inF m tl hd F b) ∧ (∀ l, l < m → (tl l ≠ 99 → F l * pt tl (tl l) m = X (tl l)) ∧ (tl l = 99 → F l = 0)) ∧ ∀ b, b < n → d b < 1000 → X b ≤ sumN x0 n * W
/-- the first j lines of c done: what is at b, what is on l -/
def goX (tl hd : Nat → Nat) (c e : Nat) (X : Nat → Nat) (j b : Nat) : Nat := X b + sumN (fun l => if tl l = c ∧ hd l = b then e else 0) j
def goF (tl : Nat → Nat) (c e : Nat) (F : Nat → Nat) (l : Nat) : Nat := if tl l = c then e else F l
theorem FI_0 (hG : FG n m d tl hd) (hW : prodN (fun b => max 1 (pt tl b m)) n ∣ W) (hX : ∀ b, b < n → d b < 1000 → X b = x0 b * W) : FI n m d tl hd W x0 (fun _ => false) X (fun _ => 0) := by
  have i0 : ∀ b, inF m tl hd (fun _ => 0) b = 0 := fun b => sumN_zero fun i _ => by show (if _ then 0 else 0) = 0; split <;> rfl
  have sx : sumN (fun b => if d b < 1000 ∧ (fun _ => false : Nat → Bool) b = false then X b else 0) n ≤ sumN x0 n * W := by
    rw [← sumN_mulr]
    refine sumN_le fun i hi => ?_
    by_cases c : d i < 1000
    · show (if _ then X i else 0) ≤ _
      rw [if_pos ⟨c, rfl⟩, hX i hi c]
      exact Nat.le_refl _
    · show (if _ then X i else 0) ≤ _
      rw [if_neg (fun q => c q.1)]; exact Nat.zero_le _
  refine ⟨fun b hb hd => by rw [i0, hX b hb hd, Nat.add_zero], fun l hl => ⟨fun _ q => absurd q Bool.false_ne_true, fun _ => rfl⟩, fun x y _ _ _ q => absurd q Bool.false_ne_true, fun b hb hd _ => ?_, sx, fun b hb hd => ?_⟩
  · rw [hX b hb hd]
    have e : reF n m tl (fun _ => false) = prodN (fun b => max 1 (pt tl b m)) n := prodN_cong fun i _ => if_neg Bool.false_ne_true
    rw [e]
    exact Nat.dvd_trans hW (Nat.dvd_mul_left _ _)
  · refine Nat.le_trans ?_ sx
    have := sumN_get (f := fun b => if d b < 1000 ∧ (fun _ => false : Nat → Bool) b = false then X b else 0) hb
    simpa [hd] using this
theorem FI_step (hG : FG n m d tl hd) (h : FI n m d tl hd W x0 dn X F) {c : Nat} (hc : c < n) (hdc : d c < 1000) (hnc : dn c = false) (hmax : ∀ y, y < n → d y < 1000 → dn y = false → d y ≤ d c) : FI n m d tl hd W x0 (fun x => if x = c then true else dn x) (goX tl hd c (X c / pt tl c m) X m) (goF tl c (X c / pt tl c m) F) := by
  obtain ⟨h1, h2, h3, h4, h5, h6⟩ := h
  generalize he : X c / pt tl c m = e
  have dvd : pt tl c m ≠ 0 → e * pt tl c m = X c ∧ reF n m tl (fun x => if x = c then true else dn x) ∣ e := by
    intro hp
    have o : reF n m tl dn = max 1 (pt tl c m) * reF n m tl (fun x => if x = c then true else dn x) := by
      have := prodN_out (f := fun b => if dn b = true then 1 else max 1 (pt tl b m)) (g := fun b => if (fun x => if x = c then true else dn x) b = true then 1 else max 1 (pt tl b m)) hc (fun i hi hic => by simp [hic]) (by simp)
      unfold reF
      rw [this]
      simp [hnc]
    have hm : max 1 (pt tl c m) = pt tl c m := by omega
    rw [hm] at o
    obtain ⟨q, hq⟩ := h4 c hc hdc hnc
    rw [o, Nat.mul_assoc] at hq
    have : e = reF n m tl (fun x => if x = c then true else dn x) * q := by
      rw [← he, hq, Nat.mul_div_cancel_left _ (by omega)]
    exact ⟨by rw [this, hq, Nat.mul_comm], by rw [this]; exact Nat.dvd_mul_right _ _⟩
  have noin : ∀ b, b < n → d c ≤ d b → goX tl hd c e X m b = X b := by
    intro b hb hdb
    have : sumN (fun l => if tl l = c ∧ hd l = b then e else 0) m = 0 := sumN_zero fun l hl => if_neg fun q => by
      have hg := hG.2.2 l hl (by have := hG.1; omega)
      rw [q.1, q.2] at hg
      omega
    unfold goX
    rw [this, Nat.add_zero]
  have redv : reF n m tl (fun x => if x = c then true else dn x) ∣ reF n m tl dn := by
    have := prodN_out (f := fun b => if dn b = true then 1 else max 1 (pt tl b m)) (g := fun b => if (fun x => if x = c then true else dn x) b = true then 1 else max 1 (pt tl b m)) hc (fun i hi hic => by simp [hic]) (by simp)
    unfold reF
    rw [this]
    exact Nat.dvd_mul_left _ _
  have in' : ∀ b, inF m tl hd (goF tl c e F) b = inF m tl hd F b + sumN (fun l => if tl l = c ∧ hd l = b then e else 0) m := by
    intro b
    unfold inF
    rw [← sumN_add]
    refine sumN_cong fun l hl => ?_
    unfold goF
    by_cases q : tl l = c
    · have : F l = 0 := (h2 l hl).2 (Or.inr (by rw [q]; exact hnc))
      have : tl l ≠ 99 := by have := hG.1; omega
      by_cases q2 : hd l = b <;> simp_all
    · simp [q]
  have sl : ∀ b, b < n → (fun l => if tl l = c ∧ hd l = b then e else 0) = (fun l => if tl l = c ∧ hd l = b then e else 0) := fun _ _ => rfl
  have ep : e * pt tl c m ≤ X c := by
    rw [← he]; exact Nat.div_mul_le_self _ _
  have h5' : sumN (fun b => if d b < 1000 ∧ (fun x => if x = c then true else dn x) b = false then goX tl hd c e X m b else 0) n ≤ sumN x0 n * W := by
    refine Nat.le_trans ?_ h5
    have s1 : sumN (fun b => sumN (fun l => if tl l = c ∧ hd l = b then e else 0) m) n ≤ e * pt tl c m := by
      rw [sumN_swap]
      have : e * pt tl c m = sumN (fun l => (if tl l = c then 1 else 0) * e) m := by rw [sumN_mulr, Nat.mul_comm]; rfl
      rw [this]
      refine sumN_le fun l _ => ?_
      by_cases q : tl l = c
      · simp only [q, true_and, if_true, Nat.one_mul]
        exact sumN_one _ _ _
      · simp only [q, false_and, if_false, Nat.zero_mul]
        exact Nat.le_of_eq (sumN_zero fun _ _ => rfl)
    have s2 : sumN (fun b => if d b < 1000 ∧ (fun x => if x = c then true else dn x) b = false then X b else 0) n + sumN (fun b => if c = b then X c else 0) n ≤ sumN (fun b => if d b < 1000 ∧ dn b = false then X b else 0) n := by
      rw [← sumN_add]
      refine sumN_le fun b hb => ?_
      by_cases q : b = c
      · subst q; simp [hdc, hnc]
      · simp [q, Ne.symm q]
    have s3 : X c ≤ sumN (fun b => if c = b then X c else 0) n := by
      have := sumN_get (f := fun b => if c = b then X c else 0) hc
      simpa using this
    have s4 : sumN (fun b => if d b < 1000 ∧ (fun x => if x = c then true else dn x) b = false then goX tl hd c e X m b else 0) n ≤ sumN (fun b => if d b < 1000 ∧ (fun x => if x = c then true else dn x) b = false then X b else 0) n + sumN (fun b => sumN (fun l => if tl l = c ∧ hd l = b then e else 0) m) n := by
      rw [← sumN_add]
      refine sumN_le fun b hb => ?_
      by_cases q : d b < 1000 ∧ (fun x => if x = c then true else dn x) b = false
      · rw [if_pos q, if_pos q]; exact Nat.le_refl _
      · rw [if_neg q, if_neg q]; omega
    omega
  refine ⟨fun b hb hdb => ?_, fun l hl => ⟨fun h9 hdn => ?_, fun hor => ?_⟩, fun x y hx hy hy1 hdx hdy => ?_, fun b hb hdb hnb => ?_, h5', fun b hb hdb => ?_⟩
  · rw [in' b]
    unfold goX
    rw [h1 b hb hdb, Nat.add_assoc]
  · have g := hG.2.2 l hl h9
    unfold goF
    by_cases q : tl l = c
    · rw [if_pos q, q, noin c hc (Nat.le_refl _)]
      exact (dvd (by have := pt_pos hl q; omega)).1
    · rw [if_neg q]
      simp [q] at hdn
      rw [noin _ g.1 (h3 _ _ g.1 hc hdc hdn hnc)]
      exact (h2 l hl).1 h9 hdn
  · unfold goF
    have q : tl l ≠ c := by
      intro q
      rcases hor with r | r
      · have := hG.1; omega
      · simp [q] at r
    rw [if_neg q]
    refine (h2 l hl).2 ?_
    rcases hor with r | r
    · exact Or.inl r
    · simp [q] at r; exact Or.inr r
  · have hdy' : y ≠ c ∧ dn y = false := by
      by_cases q : y = c
      · simp [q] at hdy
      · simp [q] at hdy; exact ⟨q, hdy⟩
    by_cases q : x = c
    · rw [q]; exact hmax y hy hy1 hdy'.2
    · simp [q] at hdx
      exact h3 x y hx hy hy1 hdx hdy'.2
  · have hnb' : b ≠ c ∧ dn b = false := by
      by_cases q : b = c
      · simp [q] at hnb
      · simp [q] at hnb; exact ⟨q, hnb⟩
    unfold goX
    refine Nat.dvd_add (Nat.dvd_trans redv (h4 b hb hdb hnb'.2)) (sumN_dvd fun l hl => ?_)
    by_cases q : tl l = c ∧ hd l = b
    · rw [if_pos q]
      exact (dvd (by have := pt_pos hl q.1; omega)).2
    · rw [if_neg q]; exact Nat.dvd_zero _
  · by_cases q : dn b = false ∧ b ≠ c
    · refine Nat.le_trans ?_ h5'
      have := sumN_get (f := fun b => if d b < 1000 ∧ (fun x => if x = c then true else dn x) b = false then goX tl hd c e X m b else 0) hb
      simpa [hdb, q.1, q.2] using this
    · have : goX tl hd c e X m b = X b := by
        refine noin b hb ?_
        by_cases q2 : b = c
        · rw [q2]; exact Nat.le_refl _
        · have : dn b = true := by
            cases hq : dn b
            · exact absurd ⟨hq, q2⟩ q
            · rfl
          exact h3 b c hb hc hdc this hnc
      rw [this]
      exact h6 b hb hdb
theorem FI_end (hG : FG n m d tl hd) (h : FI n m d tl hd W x0 dn X F) (hall : ∀ b, b < n → d b < 1000 → pt tl b m ≠ 0 → dn b = true) : isF n m d tl hd W x0 X F := by
  obtain ⟨h1, h2, h3, h4, h5, h6⟩ := h
  refine ⟨h1, fun l hl => ⟨fun h9 => ?_, fun h9 => (h2 l hl).2 (Or.inl h9)⟩, h6⟩
  have g := hG.2.2 l hl h9
  exact (h2 l hl).1 h9 (hall _ g.1 g.2.2.1 (by have := pt_pos hl (rfl : tl l = tl l); omega))
/-- what goes over a line is settled, up to the scale -/
theorem isF_uniq (hG : FG n m d tl hd) {W2 : Nat} {x2 X2 F2 : Nat → Nat} (hx : ∀ b, b < n → pt tl b m ≠ 0 → x0 b = x2 b) (h : isF n m d tl hd W x0 X F) (h' : isF n m d tl hd W2 x2 X2 F2) : ∀ l, l < m → F l * W2 = F2 l * W := by
  have key : ∀ (v b : Nat), b < n → d b < 1000 → pt tl b m ≠ 0 → 1000 - d b = v → X b * W2 = X2 b * W := by
    intro v
    induction v using Nat.strongRecOn with
    | ind v ih =>
      intro b hb hdb hpb hv
      rw [h.1 b hb hdb, h'.1 b hb hdb, Nat.add_mul, Nat.add_mul, hx b hb hpb]
      have e1 : x2 b * W * W2 = x2 b * W2 * W := by rw [Nat.mul_assoc, Nat.mul_comm W W2, ← Nat.mul_assoc]
      have e2 : inF m tl hd F b * W2 = inF m tl hd F2 b * W := by
        unfold inF
        rw [← sumN_mulr, ← sumN_mulr]
        refine sumN_cong fun l hl => ?_
        by_cases q : tl l ≠ 99 ∧ hd l = b
        · rw [if_pos q, if_pos q]
          have g := hG.2.2 l hl q.1
          have p := pt_pos hl (rfl : tl l = tl l)
          have i := ih (1000 - d (tl l)) (by have := g.2.2; rw [q.2] at this; omega) (tl l) g.1 g.2.2.1 (by omega) rfl
          rw [← (h.2.1 l hl).1 q.1, ← (h'.2.1 l hl).1 q.1] at i
          apply Nat.eq_of_mul_eq_mul_right p
          rw [Nat.mul_right_comm, i, Nat.mul_right_comm]
        · rw [if_neg q, if_neg q]; simp
      rw [e1, e2]
  intro l hl
  by_cases h9 : tl l = 99
  · rw [(h.2.1 l hl).2 h9, (h'.2.1 l hl).2 h9]; simp
  · have g := hG.2.2 l hl h9
    have p := pt_pos hl (rfl : tl l = tl l)
    have i := key _ (tl l) g.1 g.2.2.1 (by omega) rfl
    rw [← (h.2.1 l hl).1 h9, ← (h'.2.1 l hl).1 h9] at i
    apply Nat.eq_of_mul_eq_mul_right p
    rw [Nat.mul_right_comm, i, Nat.mul_right_comm]
theorem isF_le (hG : FG n m d tl hd) (h : isF n m d tl hd W x0 X F) {l : Nat} (hl : l < m) : F l ≤ sumN x0 n * W := by
  by_cases h9 : tl l = 99
  · rw [(h.2.1 l hl).2 h9]; exact Nat.zero_le _
  · have g := hG.2.2 l hl h9
    have e := (h.2.1 l hl).1 h9
    have p := pt_pos hl (rfl : tl l = tl l)
    refine Nat.le_trans ?_ (h.2.2 _ g.1 g.2.2.1)
    rw [← e]
    exact Nat.le_mul_of_pos_right _ p
theorem exF (hG : FG n m d tl hd) (hW : prodN (fun b => max 1 (pt tl b m)) n ∣ W) : ∃ F X, isF n m d tl hd W x0 X F := by
  have key : ∀ (k : Nat) (dn : Nat → Bool) (X F : Nat → Nat), fa_cnt dn n + k = n → FI n m d tl hd W x0 dn X F → ∃ F X, isF n m d tl hd W x0 X F := by
    intro k
    induction k with
    | zero =>
      intro dn X F hk h
      exact ⟨F, X, FI_end hG h fun b hb _ _ => cnt_full n (by omega) b hb⟩
    | succ k ih =>
      intro dn X F hk h
      by_cases ex : ∃ v, ∃ c, c < n ∧ d c < 1000 ∧ dn c = false ∧ 1000 - d c = v
      · obtain ⟨v, ⟨c, hc, hdc, hnc, hv⟩, hmin⟩ := pk_least _ ex
        have st := FI_step hG h hc hdc hnc fun y hy hy1 hy2 => by
          rcases Nat.lt_or_ge (d c) (d y) with q | q
          · exact absurd ⟨y, hy, hy1, hy2, rfl⟩ (hmin (1000 - d y) (by omega))
          · exact q
        refine ih _ _ _ ?_ st
        rw [cnt_up hnc n hc]; omega
      · refine ⟨F, X, FI_end hG h fun b hb hb1 _ => ?_⟩
        cases q : dn b with
        | true => rfl
        | false => exact absurd ⟨_, b, hb, hb1, q, rfl⟩ ex
  exact key n (fun _ => false) (fun b => x0 b * W) (fun _ => 0) (by rw [cnt_none]; omega) (FI_0 hG hW fun b _ _ => rfl)
end FL
