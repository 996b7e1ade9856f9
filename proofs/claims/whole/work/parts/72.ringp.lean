/-! rings: sets of boxes as bits -/
noncomputable def bP (p : Prop) : Bool := @decide p (Classical.propDecidable p)
theorem bP_iff {p : Prop} : bP p = true ↔ p := @decide_eq_true_iff p (Classical.propDecidable p)
theorem bP_no {p : Prop} : bP p = false ↔ ¬ p := by
  cases h : bP p with
  | true => exact ⟨fun e => absurd e (by decide), fun e => absurd (bP_iff.mp h) e⟩
  | false => exact ⟨fun _ z => by rw [bP_iff.mpr z] at h; exact absurd h (by decide), fun _ => rfl⟩
/-- a number that holds a set of boxes -/
def MK (A : Nat) (S : Nat → Bool) : Prop := A < 64 ∧ ∀ x, x < 6 → A.testBit x = S x
theorem MK.bit {A : Nat} {S : Nat → Bool} (h : MK A S) {x : Nat} (hx : A.testBit x = true) : x < 6 := by
  rcases Nat.lt_or_ge x 6 with c | c
  · exact c
  · rw [Nat.testBit_lt_two_pow (Nat.lt_of_lt_of_le h.1 (show 2 ^ 6 ≤ 2 ^ x from Nat.pow_le_pow_right (by decide) c))] at hx
    exact absurd hx (by decide)
theorem MK.and0 {A B : Nat} {S T : Nat → Bool} (h : MK A S) (h' : MK B T) : nI A &&& nI B = 0 ↔ ∀ x, x < 6 → ¬ (S x = true ∧ T x = true) := by
  have hb : A &&& B < 64 := Nat.lt_of_le_of_lt Nat.and_le_left h.1
  rw [fa_and, show (0 : Int32) = nI 0 from rfl, nI_eq (by omega) (by omega)]
  constructor
  · intro e x hx ⟨a, b⟩
    have : (A &&& B).testBit x = true := by rw [Nat.testBit_and, h.2 x hx, h'.2 x hx, a, b]; rfl
    rw [e, Nat.zero_testBit] at this
    exact absurd this (by decide)
  · intro e
    apply Nat.eq_of_testBit_eq
    intro x
    rw [Nat.zero_testBit, Nat.testBit_and]
    rcases Nat.lt_or_ge x 6 with c | c
    · rw [h.2 x c, h'.2 x c]
      have := e x c
      cases hs : S x <;> cases ht : T x <;> simp_all
    · rw [Nat.testBit_lt_two_pow (Nat.lt_of_lt_of_le h.1 (show 2 ^ 6 ≤ 2 ^ x from Nat.pow_le_pow_right (by decide) c))]; rfl
theorem MK.or {A B : Nat} {S T : Nat → Bool} (h : MK A S) (h' : MK B T) : MK (A ||| B) (fun x => S x || T x) := by
  refine ⟨Nat.or_lt_two_pow (n := 6) h.1 h'.1, fun x hx => ?_⟩
  rw [Nat.testBit_or, h.2 x hx, h'.2 x hx]
theorem MK.cong {A : Nat} {S T : Nat → Bool} (h : MK A S) (e : ∀ x, x < 6 → S x = T x) : MK A T := ⟨h.1, fun x hx => (h.2 x hx).trans (e x hx)⟩
theorem MK_one : ∀ b, b < 6 → ∀ x, x < 6 → (2 ^ b).testBit x = decide (x = b) := by decide +kernel
theorem MK_bit {b : Nat} (hb : b < 6) : MK (2 ^ b) (fun x => decide (x = b)) := ⟨Nat.lt_of_lt_of_le (Nat.pow_lt_pow_right (by decide) hb) (Nat.le_refl _), fun x hx => MK_one b hb x hx⟩
theorem sh_one : ∀ b, b < 6 → (1 : Int32) <<< (nI b &&& 31) = nI (2 ^ b) := by decide +kernel
theorem MK_0 : MK 0 (fun _ => false) := ⟨by decide, fun x _ => Nat.zero_testBit x⟩
theorem MK_all_n : ∀ n, n ≤ 6 → ((1 : Int32) <<< (nI n &&& 31)) - 1 = nI (2 ^ n - 1) ∧ 2 ^ n - 1 < 64 ∧ ∀ x, x < 6 → (2 ^ n - 1).testBit x = decide (x < n) := by decide +kernel
theorem MK_cl : ∀ B, B < 64 → ∀ b, b < 6 → nI B &&& (((1 : Int32) <<< (nI b &&& 31)) ^^^ (-1 : Int32)) = nI (B &&& (63 - 2 ^ b)) := by decide +kernel
theorem MK_cb : ∀ b, b < 6 → ∀ x, x < 6 → (63 - 2 ^ b).testBit x = decide (x ≠ b) := by decide +kernel
theorem MK.less {B : Nat} {S : Nat → Bool} (h : MK B S) {b : Nat} (hb : b < 6) : MK (B &&& (63 - 2 ^ b)) (fun x => if x = b then false else S x) := by
  refine ⟨Nat.lt_of_le_of_lt Nat.and_le_left h.1, fun x hx => ?_⟩
  rw [Nat.testBit_and, h.2 x hx, MK_cb b hb x hx]
  by_cases e : x = b
  · simp [e]
  · simp [e]
theorem MK.nz {B : Nat} {S : Nat → Bool} (h : MK B S) : nI B = 0 ↔ ∀ x, x < 6 → S x = false := by
  have hB := h.1
  rw [show (0 : Int32) = nI 0 from rfl, nI_eq (by omega) (by omega)]
  constructor
  · intro e x hx
    rw [← h.2 x hx, e, Nat.zero_testBit]
  · intro e
    apply Nat.eq_of_testBit_eq
    intro x
    rw [Nat.zero_testBit]
    rcases Nat.lt_or_ge x 6 with c | c
    · rw [h.2 x c]; exact e x c
    · exact Nat.testBit_lt_two_pow (Nat.lt_of_lt_of_le h.1 (show 2 ^ 6 ≤ 2 ^ x from Nat.pow_le_pow_right (by decide) c))
/-- a set that one cannot leave -/
def clo (n : Nat) (R : Nat → Nat → Bool) (S : Nat → Bool) : Prop := ∀ b, b < n → S b = true → ∃ x, x < n ∧ R b x = true ∧ S x = true
def hasR (n : Nat) (R : Nat → Nat → Bool) : Prop := ∃ S, clo n R S ∧ ∃ b, b < n ∧ S b = true
/-- boxes taken away, rounds gone -/
def elI (n : Nat) (R : Nat → Nat → Bool) (r : Nat) (L : Nat → Bool) : Prop := (∀ S, clo n R S → ∀ b, b < n → S b = true → L b = true) ∧ (clo n R L ∨ fa_cnt L n + r ≤ n)
/-- within a round that began with L0 -/
def elJ (n : Nat) (R : Nat → Nat → Bool) (L0 : Nat → Bool) (j : Nat) (L : Nat → Bool) : Prop := (∀ S, clo n R S → ∀ b, b < n → S b = true → L b = true) ∧ (((∀ b, b < n → L b = L0 b) ∧ ∀ b, b < j → L b = true → ∃ x, x < n ∧ R b x = true ∧ L x = true) ∨ (¬ clo n R L0 ∧ fa_cnt L n + 1 ≤ fa_cnt L0 n))
theorem cnt_le {p q : Nat → Bool} : ∀ n, (∀ b, b < n → p b = true → q b = true) → fa_cnt p n ≤ fa_cnt q n := by
  intro n
  induction n with
  | zero => intro _; exact Nat.le_refl _
  | succ n ih =>
    intro h
    have h1 := ih fun b hb => h b (by omega)
    cases hp : p n with
    | false =>
      rw [fa_cnt_no hp]
      cases hq : q n with
      | false => rw [fa_cnt_no hq]; exact h1
      | true => rw [fa_cnt_yes hq]; omega
    | true => rw [fa_cnt_yes hp, fa_cnt_yes (h n (by omega) hp)]; omega
theorem cnt_less {p : Nat → Bool} {b n : Nat} (hb : b < n) (h : p b = true) : fa_cnt (fun x => if x = b then false else p x) n + 1 = fa_cnt p n := by
  have h0 : (fun x => if x = b then false else p x) b = false := if_pos rfl
  have := cnt_up (dn := fun x => if x = b then false else p x) h0 n hb
  rw [← this]
  refine fa_cnt_cong fun k hk => ?_
  by_cases e : k = b
  · rw [if_pos e, e, h]
  · rw [if_neg e, if_neg e]
section RG
variable {n r : Nat} {R : Nat → Nat → Bool} {L L0 : Nat → Bool}
theorem elJ_0 (h : elI n R r L) : elJ n R L 0 L := ⟨h.1, Or.inl ⟨fun _ _ => rfl, fun b hb => by omega⟩⟩
theorem elJ_keep {j : Nat} (hj : j < n) (h : elJ n R L0 j L) (hx : ∃ x, x < n ∧ R j x = true ∧ L x = true) : elJ n R L0 (j + 1) L := by
  refine ⟨h.1, ?_⟩
  rcases h.2 with ⟨a, b⟩ | c
  · refine Or.inl ⟨a, fun k hk hl => ?_⟩
    by_cases e : k = j
    · rw [e]; exact hx
    · exact b k (by omega) hl
  · exact Or.inr c
theorem elJ_drop {j : Nat} (hj : j < n) (h : elJ n R L0 j L) (hx : ¬ ∃ x, x < n ∧ R j x = true ∧ L x = true) : elJ n R L0 (j + 1) (fun x => if x = j then false else L x) := by
  refine ⟨fun S hS b hb hSb => ?_, ?_⟩
  · show (if b = j then false else L b) = true
    have hb2 := h.1 S hS b hb hSb
    by_cases e : b = j
    · exfalso
      obtain ⟨x, x1, x2, x3⟩ := hS b hb hSb
      exact hx ⟨x, x1, by rw [← e]; exact x2, h.1 S hS x x1 x3⟩
    · rw [if_neg e]; exact hb2
  · cases hl : L j with
    | false =>
      have e : ∀ b, b < n → (if b = j then false else L b) = L b := fun b _ => by
        by_cases q : b = j
        · rw [if_pos q, q, hl]
        · rw [if_neg q]
      rcases h.2 with ⟨a, b⟩ | ⟨c, d⟩
      · left
        refine ⟨fun k hk => (e k hk).trans (a k hk), fun k hk hl2 => ?_⟩
        have hl3 : L k = true := by
          have : (if k = j then false else L k) = true := hl2
          rw [e k (by omega)] at this; exact this
        by_cases q : k = j
        · rw [q, hl] at hl3; exact absurd hl3 (by decide)
        · obtain ⟨x, x1, x2, x3⟩ := b k (by omega) hl3
          exact ⟨x, x1, x2, by show (if x = j then false else L x) = true; rw [e x x1]; exact x3⟩
      · right
        refine ⟨c, ?_⟩
        rw [fa_cnt_cong (q := L) e]; exact d
    | true =>
      right
      have hc := cnt_less hj hl
      rcases h.2 with ⟨a, b⟩ | ⟨c, d⟩
      · refine ⟨fun hclo => hx ?_, ?_⟩
        · obtain ⟨x, x1, x2, x3⟩ := hclo j hj (by rw [← a j hj]; exact hl)
          exact ⟨x, x1, x2, by rw [a x x1]; exact x3⟩
        · rw [hc, fa_cnt_cong a]; exact Nat.le_refl _
      · exact ⟨c, by omega⟩
theorem elJ_end (h : elI n R r L0) (hJ : elJ n R L0 n L) : elI n R (r + 1) L := by
  refine ⟨hJ.1, ?_⟩
  rcases hJ.2 with ⟨a, b⟩ | ⟨c, d⟩
  · left
    exact fun k hk hl => b k hk hl
  · rcases h.2 with e | e
    · exact absurd e c
    · right; omega
theorem cnt_0 {p : Nat → Bool} : ∀ n, fa_cnt p n = 0 → ∀ b, b < n → p b = false := by
  intro n
  induction n with
  | zero => intro _ b hb; omega
  | succ n ih =>
    intro h b hb
    cases hn : p n with
    | true => rw [fa_cnt_yes hn] at h; omega
    | false =>
      rw [fa_cnt_no hn] at h
      by_cases e : b = n
      · rw [e]; exact hn
      · exact ih h b (by omega)
theorem elI_end (h : elI n R n L) : (∃ b, b < n ∧ L b = true) ↔ hasR n R := by
  constructor
  · rintro ⟨b, hb, hl⟩
    rcases h.2 with e | e
    · exact ⟨L, e, b, hb, hl⟩
    · have := cnt_0 (p := L) n (by omega) b hb
      rw [this] at hl; exact absurd hl (by decide)
  · rintro ⟨S, hS, b, hb, hSb⟩
    exact ⟨b, hb, h.1 S hS b hb hSb⟩
theorem elI_empty (h : elI n R r L) (h0 : ∀ b, b < n → L b = false) : ¬ hasR n R := by
  rintro ⟨S, hS, b, hb, hSb⟩
  have := h.1 S hS b hb hSb
  rw [h0 b hb] at this; exact absurd this (by decide)
theorem elI_0 (hL : ∀ S, clo n R S → ∀ b, b < n → S b = true → L b = true) : elI n R 0 L := ⟨hL, Or.inr (by have := fa_cnt_le L n; omega)⟩
theorem hasR_cong {R' : Nat → Nat → Bool} (h : ∀ b x, b < n → x < n → R b x = R' b x) : hasR n R ↔ hasR n R' := by
  constructor
  · rintro ⟨S, hS, e⟩
    exact ⟨S, fun b hb hSb => by obtain ⟨x, x1, x2, x3⟩ := hS b hb hSb; exact ⟨x, x1, by rw [← h b x hb x1]; exact x2, x3⟩, e⟩
  · rintro ⟨S, hS, e⟩
    exact ⟨S, fun b hb hSb => by obtain ⟨x, x1, x2, x3⟩ := hS b hb hSb; exact ⟨x, x1, by rw [h b x hb x1]; exact x2, x3⟩, e⟩
end RG
/-! one line's weight changed -/
def wlN (N : Nt) (l u : Nat) : Nat → Nat := fun k => if k = l then u else N 4 k
theorem wlN_ok {N : Nt} (hN : Nok N) {l u : Nat} (h1 : 1 ≤ u) (h2 : u ≤ 20) : Wok N (wlN N l u) := fun k hk => by
  unfold wlN
  split
  · exact ⟨h1, h2⟩
  · exact hN.w4 k hk
/-- a step of a letter for t, at weight u -/
noncomputable def stN (N : Nt) (l u t b x : Nat) : Bool := bP (∃ j, j < N 0 7 ∧ tlN N (wlN N l u) 99 t j = b ∧ hdN N (wlN N l u) 99 t j = x)
/-- a ring by old and new ways -/
def rgN (N : Nt) (l u v t : Nat) : Prop := hasR (N 0 0) (fun b x => stN N l u t b x || stN N l v t b x)
theorem rgN_comm {N : Nt} {l u v t : Nat} : rgN N l u v t ↔ rgN N l v u t := hasR_cong fun b x _ _ => Bool.or_comm _ _
/-- the answer: the least such target -/
def RF (N : Nt) (l u v : Nat) (r : Int32) : Prop := (∃ t, t < N 0 0 ∧ rgN N l u v t ∧ (∀ t', t' < t → ¬ rgN N l u v t') ∧ r = nI t) ∨ ((∀ t, t < N 0 0 → ¬ rgN N l u v t) ∧ r = -6)
def okN (N : Nt) (l u v : Nat) : Prop := ∀ t, t < N 0 0 → ¬ rgN N l u v t
theorem okN_comm {N : Nt} {l u v : Nat} : okN N l u v ↔ okN N l v u := ⟨fun h t ht z => h t ht (rgN_comm.mpr z), fun h t ht z => h t ht (rgN_comm.mp z)⟩
theorem RF_uniq {N : Nt} {l u v : Nat} {r r' : Int32} (h : RF N l u v r) (h' : RF N l u v r') : r = r' := by
  rcases h with ⟨t, a, b, c, rfl⟩ | ⟨a, rfl⟩
  · rcases h' with ⟨t', a', b', c', rfl⟩ | ⟨a', rfl⟩
    · have : t = t' := by
        rcases Nat.lt_trichotomy t t' with q | q | q
        · exact absurd b (c' t q)
        · exact q
        · exact absurd b' (c t' q)
      rw [this]
    · exact absurd b (a' t a)
  · rcases h' with ⟨t', a', b', c', rfl⟩ | ⟨a', rfl⟩
    · exact absurd b' (a t' a')
    · rfl
theorem RF_ok {N : Nt} (hN : Nok N) {l u v : Nat} {r : Int32} (h : RF N l u v r) : (r = -6 ↔ okN N l u v) ∧ (0 ≤ r ↔ ¬ okN N l u v) := by
  have hn := hN.1.2
  rcases h with ⟨t, a, b, c, rfl⟩ | ⟨a, rfl⟩
  · refine ⟨⟨fun e => ?_, fun e => absurd b (e t a)⟩, ⟨fun _ e => e t a b, fun _ => nI_pos' (by omega)⟩⟩
    have := congrArg Int32.toInt e
    rw [nI_toInt (by omega)] at this
    have e2 : (-6 : Int32).toInt = -6 := by decide
    omega
  · exact ⟨⟨fun _ => a, fun _ => rfl⟩, ⟨fun e => absurd e (by decide), fun e => absurd a e⟩⟩
