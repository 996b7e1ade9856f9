/-! seeking: the lines that may change, and the rows of weights gone through -/
def frs (N : Nt) : Nat → Nat × (Nat → Nat)
  | 0 => (0, fun _ => 0)
  | k + 1 => if (frs N k).1 < 5 ∧ N 5 k = 0 ∧ N 6 k = 0 then ((frs N k).1 + 1, fun i => if i = (frs N k).1 then k else (frs N k).2 i) else frs N k
def fcN (N : Nt) : Nat := (frs N (N 0 7)).1
def frN (N : Nt) : Nat → Nat := (frs N (N 0 7)).2
theorem frs_ok (N : Nt) : ∀ k, (frs N k).1 ≤ 5 ∧ (∀ i, i < (frs N k).1 → (frs N k).2 i < k) ∧ (∀ i i', i < i' → i' < (frs N k).1 → (frs N k).2 i < (frs N k).2 i') := by
  intro k
  induction k with
  | zero => exact ⟨Nat.zero_le _, fun i h => absurd h (Nat.not_lt_zero _), fun i i' _ h => absurd h (Nat.not_lt_zero _)⟩
  | succ k ih =>
    obtain ⟨h1, h2, h3⟩ := ih
    rw [frs]
    split
    · next hc =>
      refine ⟨hc.1, fun i hi => ?_, fun i i' hii hi => ?_⟩
      · show (if i = (frs N k).1 then k else (frs N k).2 i) < k + 1
        have hi' : i < (frs N k).1 + 1 := hi
        by_cases e : i = (frs N k).1
        · rw [if_pos e]; omega
        · rw [if_neg e]; have := h2 i (by omega); omega
      · show (if i = (frs N k).1 then k else (frs N k).2 i) < (if i' = (frs N k).1 then k else (frs N k).2 i')
        have hi' : i' < (frs N k).1 + 1 := hi
        rw [if_neg (by omega)]
        by_cases e : i' = (frs N k).1
        · rw [if_pos e]; exact h2 i (by omega)
        · rw [if_neg e]; exact h3 i i' hii (by omega)
    · exact ⟨h1, fun i hi => by have := h2 i hi; omega, h3⟩
theorem frs_stop (N : Nt) {k : Nat} (h : 5 ≤ (frs N k).1) : ∀ j, k ≤ j → frs N j = frs N k := by
  intro j
  induction j with
  | zero => intro hj; rw [show k = 0 by omega]
  | succ j ih =>
    intro hj
    by_cases e : k = j + 1
    · rw [e]
    · have := ih (by omega)
      rw [frs, this, if_neg (fun q => by omega)]
theorem frN_lt {N : Nt} {i : Nat} (hi : i < fcN N) : frN N i < N 0 7 := (frs_ok N _).2.1 i hi
theorem fcN_le (N : Nt) : fcN N ≤ 5 := (frs_ok N _).1
theorem frN_inj {N : Nt} {i j : Nat} (hi : i < fcN N) (hj : j < fcN N) (h : frN N i = frN N j) : i = j := by
  rcases Nat.lt_trichotomy i j with q | q | q
  · have : frN N i < frN N j := (frs_ok N _).2.2 i j q hj
    omega
  · exact q
  · have : frN N j < frN N i := (frs_ok N _).2.2 j i q hi
    omega
theorem frN_lts {N : Nt} {i j : Nat} (h : i < j) (hj : j < fcN N) : frN N i < frN N j := (frs_ok N _).2.2 i j h hj
/-- a sum over the free lines is one over all lines -/
theorem frs_sum (N : Nt) (g : Nat → Nat) : ∀ k, (∀ l, l < k → (∀ i, i < (frs N k).1 → (frs N k).2 i ≠ l) → g l = 0) → sumN (fun i => g ((frs N k).2 i)) (frs N k).1 = sumN g k := by
  intro k
  induction k with
  | zero => intro _; rfl
  | succ k ih =>
    obtain ⟨h1, h2, h3⟩ := frs_ok N k
    rw [frs]
    split
    · intro h
      have e : sumN (fun i => g ((fun i => if i = (frs N k).1 then k else (frs N k).2 i) i)) ((frs N k).1 + 1) = sumN (fun i => g ((frs N k).2 i)) (frs N k).1 + g k := by
        rw [sumN]
        congr 1
        · exact sumN_cong fun i hi => by show g (if i = (frs N k).1 then k else (frs N k).2 i) = _; rw [if_neg (by omega)]
        · show g (if (frs N k).1 = (frs N k).1 then k else _) = g k
          rw [if_pos rfl]
      refine e.trans ?_
      rw [sumN, ih fun l hl hn => h l (by omega) fun i hi q => ?_]
      have hi' : i < (frs N k).1 + 1 := hi
      have q' : (if i = (frs N k).1 then k else (frs N k).2 i) = l := q
      by_cases e : i = (frs N k).1
      · rw [if_pos e] at q'; omega
      · rw [if_neg e] at q'; exact hn i (by omega) q'
    · intro h
      rw [sumN, ih fun l hl hn => h l (by omega) hn, h k (by omega) fun i hi q => by have := h2 i hi; omega, Nat.add_zero]
section SK
variable {N : Nt} {sp : Nat}
/-- a row of weights that may be chosen -/
def Cand (N : Nt) (sp : Nat) (w : Nat → Nat) : Prop := (∀ l, l < N 0 7 → w l = N 4 l ∨ ((∃ i, i < fcN N ∧ frN N i = l) ∧ 1 ≤ w l ∧ w l ≤ sp)) ∧ ∀ l, N 0 7 ≤ l → w l = N 4 l
theorem Cand.wok (hN : Nok N) (hsp : sp ≤ 20) {w : Nat → Nat} (h : Cand N sp w) : Wok N w := fun l hl => by
  rcases h.1 l hl with e | ⟨_, a, b⟩
  · rw [e]; exact hN.w4 l hl
  · omega
theorem Cand.own : Cand N sp (N 4) := ⟨fun l _ => Or.inl rfl, fun l _ => rfl⟩
theorem Cand.off {w : Nat → Nat} (h : Cand N sp w) {l : Nat} (hn : ∀ i, i < fcN N → frN N i ≠ l) : w l = N 4 l := by
  by_cases hl : l < N 0 7
  · rcases h.1 l hl with e | ⟨⟨i, a, b⟩, _⟩
    · exact e
    · exact absurd b (hn i a)
  · exact h.2 l (by omega)
theorem Cand.up {w : Nat → Nat} (h : Cand N sp w) {i v : Nat} (hi : i < fcN N) (hv : v = N 4 (frN N i) ∨ (1 ≤ v ∧ v ≤ sp)) : Cand N sp (fun l => if l = frN N i then v else w l) := by
  have hf := frN_lt hi
  refine ⟨fun l hl => ?_, fun l hl => ?_⟩
  · show (if l = frN N i then v else w l) = _ ∨ _
    by_cases e : l = frN N i
    · rw [if_pos e, e]
      rcases hv with hv | hv
      · exact Or.inl hv
      · refine Or.inr ⟨⟨i, hi, rfl⟩, ?_⟩
        show 1 ≤ (if frN N i = frN N i then v else w (frN N i)) ∧ (if frN N i = frN N i then v else w (frN N i)) ≤ sp
        rw [if_pos rfl]; exact hv
    · rw [if_neg e]
      rcases h.1 l hl with q | ⟨q1, q2⟩
      · exact Or.inl q
      · refine Or.inr ⟨q1, ?_⟩
        show 1 ≤ (if l = frN N i then v else w l) ∧ (if l = frN N i then v else w l) ≤ sp
        rw [if_neg e]; exact q2
  · show (if l = frN N i then v else w l) = _
    rw [if_neg (by omega)]; exact h.2 l hl
theorem Cand.ext {w u : Nat → Nat} (h : Cand N sp w) (hu : Cand N sp u) (e : ∀ i, i < fcN N → w (frN N i) = u (frN N i)) : w = u := by
  funext l
  by_cases hl : ∃ i, i < fcN N ∧ frN N i = l
  · obtain ⟨i, hi, rfl⟩ := hl
    exact e i hi
  · have hn : ∀ i, i < fcN N → frN N i ≠ l := fun i hi q => hl ⟨i, hi, q⟩
    rw [h.off hn, hu.off hn]
/-- the class's order -/
def chI (N : Nt) (sp i : Nat) : Nat := if sp < N 4 (frN N i) then sp + 1 else sp
def vlI (N : Nt) (sp i d : Nat) : Nat := if d < sp then d + 1 else N 4 (frN N i)
def wc (N : Nt) (sp : Nat) : Nat → Nat → (Nat → Nat) → (Nat → Nat)
  | 0, _, w => w
  | k + 1, q, w => wc N sp k (q / chI N sp k) (fun l => if l = frN N k then vlI N sp k (q % chI N sp k) else w l)
theorem chI_pos (hsp : 1 ≤ sp) (i : Nat) : 0 < chI N sp i := by unfold chI; split <;> omega
theorem vlI_ok (hsp : 1 ≤ sp) (i d : Nat) : vlI N sp i d = N 4 (frN N i) ∨ (1 ≤ vlI N sp i d ∧ vlI N sp i d ≤ sp) := by
  unfold vlI
  by_cases h : d < sp
  · right; rw [if_pos h]; omega
  · left; rw [if_neg h]
theorem wc_off : ∀ (k q : Nat) (w : Nat → Nat) (l : Nat), (∀ i, i < k → frN N i ≠ l) → wc N sp k q w l = w l := by
  intro k
  induction k with
  | zero => intro q w l _; rfl
  | succ k ih =>
    intro q w l h
    rw [wc, ih _ _ l fun i hi => h i (by omega)]
    rw [if_neg (fun e => h k (by omega) e.symm)]
theorem wc_last {k q : Nat} {w : Nat → Nat} (hk : k < fcN N) : wc N sp (k + 1) q w (frN N k) = vlI N sp k (q % chI N sp k) := by
  rw [wc, wc_off k _ _ _ fun i hi e => by have := frN_inj (by omega) hk e; omega]
  rw [if_pos rfl]
theorem wc_ind : ∀ (k q : Nat) (w w' : Nat → Nat), k ≤ fcN N → ∀ i, i < k → wc N sp k q w (frN N i) = wc N sp k q w' (frN N i) := by
  intro k
  induction k with
  | zero => intro q w w' _ i hi; omega
  | succ k ih =>
    intro q w w' hk i hi
    by_cases e : i = k
    · rw [e, wc_last (by omega), wc_last (by omega)]
    · rw [wc, wc]
      exact ih _ _ _ (by omega) i (by omega)
theorem wc_cand (hsp : 1 ≤ sp) : ∀ (k q : Nat) (w : Nat → Nat), k ≤ fcN N → Cand N sp w → Cand N sp (wc N sp k q w) := by
  intro k
  induction k with
  | zero => intro q w _ h; exact h
  | succ k ih =>
    intro q w hk h
    rw [wc]
    exact ih _ _ (by omega) (h.up (by omega) (vlI_ok hsp _ _))
theorem wc_base (hsp : 1 ≤ sp) {q : Nat} {w w' : Nat → Nat} (h : Cand N sp w) (h' : Cand N sp w') : wc N sp (fcN N) q w = wc N sp (fcN N) q w' := (wc_cand hsp _ q w (Nat.le_refl _) h).ext (wc_cand hsp _ q w' (Nat.le_refl _) h') fun i hi => wc_ind _ _ _ _ (Nat.le_refl _) i hi
theorem wc_cover (hN : Nok N) (hsp : 1 ≤ sp) {u : Nat → Nat} (hu : Cand N sp u) : ∀ k, k ≤ fcN N → ∃ q, q < prodN (chI N sp) k ∧ ∀ w i, i < k → wc N sp k q w (frN N i) = u (frN N i) := by
  intro k
  induction k with
  | zero => intro _; exact ⟨0, Nat.one_pos, fun w i hi => by omega⟩
  | succ k ih =>
    intro hk
    obtain ⟨q, hq, h⟩ := ih (by omega)
    have cp := chI_pos (N := N) hsp k
    have hf := frN_lt (N := N) (i := k) (by omega)
    have h4 := hN.w4 _ hf
    obtain ⟨dg, hd1, hd2⟩ : ∃ dg, dg < chI N sp k ∧ vlI N sp k dg = u (frN N k) := by
      have lo : 1 ≤ u (frN N k) → u (frN N k) ≤ sp → ∃ dg, dg < chI N sp k ∧ vlI N sp k dg = u (frN N k) := fun a b => by
        refine ⟨u (frN N k) - 1, by unfold chI; split <;> omega, ?_⟩
        unfold vlI
        rw [if_pos (by omega)]; omega
      rcases hu.1 _ hf with e | ⟨_, a, b⟩
      · by_cases c : sp < N 4 (frN N k)
        · refine ⟨sp, by unfold chI; rw [if_pos c]; omega, ?_⟩
          unfold vlI
          rw [if_neg (by omega), e]
        · exact lo (by omega) (by omega)
      · exact lo a b
    refine ⟨q * chI N sp k + dg, ?_, fun w i hi => ?_⟩
    · rw [prodN]
      calc q * chI N sp k + dg < q * chI N sp k + chI N sp k := by omega
        _ = (q + 1) * chI N sp k := by rw [Nat.add_mul, Nat.one_mul]
        _ ≤ prodN (chI N sp) k * chI N sp k := Nat.mul_le_mul_right _ hq
    · have e1 : (q * chI N sp k + dg) / chI N sp k = q := by
        rw [Nat.mul_comm, Nat.mul_add_div cp, Nat.div_eq_of_lt hd1, Nat.add_zero]
      have e2 : (q * chI N sp k + dg) % chI N sp k = dg := by
        rw [Nat.mul_comm, Nat.mul_add_mod, Nat.mod_eq_of_lt hd1]
      by_cases e : i = k
      · rw [e, wc_last (by omega), e2, hd2]
      · rw [wc, e1]
        exact h _ i (by omega)
theorem vlI_lt {i d d' : Nat} (h : d < d') (h' : d' < chI N sp i) : vlI N sp i d < vlI N sp i d' := by
  unfold chI at h'
  unfold vlI
  split at h'
  · rw [if_pos (by omega)]
    by_cases c : d' < sp
    · rw [if_pos c]; omega
    · rw [if_neg c]; omega
  · rw [if_pos (by omega), if_pos (by omega)]; omega
theorem wc_lt (hsp : 1 ≤ sp) : ∀ (k q q' : Nat) (w w' : Nat → Nat), k ≤ fcN N → q < q' → q' < prodN (chI N sp) k → ∃ i, i < k ∧ (∀ j, j < i → wc N sp k q w (frN N j) = wc N sp k q' w' (frN N j)) ∧ wc N sp k q w (frN N i) < wc N sp k q' w' (frN N i) := by
  intro k
  induction k with
  | zero =>
    intro q q' w w' _ h h'
    rw [prodN] at h'
    omega
  | succ k ih =>
    intro q q' w w' hk h h'
    have cp := chI_pos (N := N) hsp k
    rw [prodN] at h'
    have d1 : q' / chI N sp k < prodN (chI N sp) k := by
      rw [Nat.mul_comm] at h'
      exact Nat.div_lt_of_lt_mul h'
    rcases Nat.lt_or_ge (q / chI N sp k) (q' / chI N sp k) with c | c
    · obtain ⟨i, hi, a, b⟩ := ih (q / chI N sp k) (q' / chI N sp k) (fun l => if l = frN N k then vlI N sp k (q % chI N sp k) else w l) (fun l => if l = frN N k then vlI N sp k (q' % chI N sp k) else w' l) (by omega) c d1
      refine ⟨i, by omega, fun j hj => ?_, ?_⟩
      · rw [wc, wc]; exact a j hj
      · rw [wc, wc]; exact b
    · have e : q / chI N sp k = q' / chI N sp k := Nat.le_antisymm (Nat.div_le_div_right (by omega)) c
      refine ⟨k, by omega, fun j hj => ?_, ?_⟩
      · rw [wc, wc, e]
        exact wc_ind _ _ _ _ (by omega) j hj
      · rw [wc_last (by omega), wc_last (by omega)]
        refine vlI_lt ?_ (Nat.mod_lt _ cp)
        have m1 := Nat.div_add_mod q (chI N sp k)
        have m2 := Nat.div_add_mod q' (chI N sp k)
        rw [e] at m1
        omega
/-- a row is less than another -/
def lexL (m : Nat) (w u : Nat → Nat) : Prop := ∃ l, l < m ∧ (∀ j, j < l → w j = u j) ∧ w l < u l
theorem wc_lex (hsp : 1 ≤ sp) {q q' : Nat} (h : q < q') (h' : q' < prodN (chI N sp) (fcN N)) : lexL (N 0 7) (wc N sp (fcN N) q (N 4)) (wc N sp (fcN N) q' (N 4)) := by
  obtain ⟨i, hi, a, b⟩ := wc_lt (N := N) hsp (fcN N) q q' (N 4) (N 4) (Nat.le_refl _) h h'
  refine ⟨frN N i, frN_lt hi, fun j hj => ?_, b⟩
  by_cases e : ∃ k, k < fcN N ∧ frN N k = j
  · obtain ⟨k, hk, rfl⟩ := e
    refine a k ?_
    rcases Nat.lt_or_ge k i with c | c
    · exact c
    · by_cases e : k = i
      · rw [e] at hj; omega
      · have := frN_lts (N := N) (i := i) (j := k) (by omega) hk
        omega
  · have hn : ∀ k, k < fcN N → frN N k ≠ j := fun k hk q => e ⟨k, hk, q⟩
    rw [wc_off _ _ _ _ hn, wc_off _ _ _ _ hn]
/-- the reference's order -/
def pvI (N : Nt) (i d : Nat) : Nat := if d = 0 then N 4 (frN N i) else d
def wr (N : Nt) (B : Nat) : Nat → Nat → Nat → (Nat → Nat) → (Nat → Nat)
  | 0, _, _, w => w
  | j + 1, i, n, w => wr N B j (i + 1) (n / B) (fun l => if l = frN N i then pvI N i (n % B) else w l)
theorem wr_off {B : Nat} : ∀ (j i n : Nat) (w : Nat → Nat) (l : Nat), (∀ k, i ≤ k → k < i + j → frN N k ≠ l) → wr N B j i n w l = w l := by
  intro j
  induction j with
  | zero => intro i n w l _; rfl
  | succ j ih =>
    intro i n w l h
    rw [wr, ih _ _ _ l fun k h1 h2 => h k (by omega) (by omega)]
    rw [if_neg (fun e => h i (by omega) (by omega) e.symm)]
theorem wr_cand (hsp : 1 ≤ sp) : ∀ (j i n : Nat) (w : Nat → Nat), i + j ≤ fcN N → Cand N sp w → Cand N sp (wr N (sp + 1) j i n w) := by
  intro j
  induction j with
  | zero => intro i n w _ h; exact h
  | succ j ih =>
    intro i n w hk h
    rw [wr]
    refine ih _ _ _ (by omega) (h.up (by omega) ?_)
    unfold pvI
    have := Nat.mod_lt n (show 0 < sp + 1 by omega)
    by_cases c : n % (sp + 1) = 0
    · left; rw [if_pos c]
    · right; rw [if_neg c]; omega
theorem wr_cover (hsp : 1 ≤ sp) {u : Nat → Nat} (hu : Cand N sp u) : ∀ (j i : Nat), i + j ≤ fcN N → ∃ n, n < (sp + 1) ^ j ∧ ∀ w k, i ≤ k → k < i + j → wr N (sp + 1) j i n w (frN N k) = u (frN N k) := by
  intro j
  induction j with
  | zero => intro i _; exact ⟨0, Nat.one_pos, fun w k h1 h2 => by omega⟩
  | succ j ih =>
    intro i hij
    obtain ⟨n, hn, h⟩ := ih (i + 1) (by omega)
    have hf := frN_lt (N := N) (i := i) (by omega)
    obtain ⟨dg, hd1, hd2⟩ : ∃ dg, dg < sp + 1 ∧ pvI N i dg = u (frN N i) := by
      rcases hu.1 _ hf with e | ⟨_, a, b⟩
      · exact ⟨0, by omega, by unfold pvI; rw [if_pos rfl, e]⟩
      · exact ⟨u (frN N i), by omega, by unfold pvI; rw [if_neg (by omega)]⟩
    refine ⟨n * (sp + 1) + dg, ?_, fun w k h1 h2 => ?_⟩
    · rw [Nat.pow_succ]
      calc n * (sp + 1) + dg < n * (sp + 1) + (sp + 1) := by omega
        _ = (n + 1) * (sp + 1) := by rw [Nat.add_mul, Nat.one_mul]
        _ ≤ (sp + 1) ^ j * (sp + 1) := Nat.mul_le_mul_right _ hn
    · have e1 : (n * (sp + 1) + dg) / (sp + 1) = n := by
        rw [Nat.mul_comm, Nat.mul_add_div (by omega), Nat.div_eq_of_lt hd1, Nat.add_zero]
      have e2 : (n * (sp + 1) + dg) % (sp + 1) = dg := by
        rw [Nat.mul_comm, Nat.mul_add_mod, Nat.mod_eq_of_lt hd1]
      rw [wr, e1, e2]
      by_cases e : k = i
      · rw [e, wr_off _ _ _ _ _ fun k' a b q => by have := frN_inj (N := N) (i := k') (j := i) (by omega) (by omega) q; omega]
        rw [if_pos rfl, hd2]
      · exact h _ k (by omega) (by omega)
theorem wr_base (hsp : 1 ≤ sp) {n : Nat} {w : Nat → Nat} (h : Cand N sp w) : wr N (sp + 1) (fcN N) 0 n w = wr N (sp + 1) (fcN N) 0 n (N 4) := by
  have key : ∀ (j i n : Nat) (w w' : Nat → Nat), i + j ≤ fcN N → ∀ k, i ≤ k → k < i + j → wr N (sp + 1) j i n w (frN N k) = wr N (sp + 1) j i n w' (frN N k) := by
    intro j
    induction j with
    | zero => intro i n w w' _ k h1 h2; omega
    | succ j ih =>
      intro i n w w' hij k h1 h2
      rw [wr, wr]
      by_cases e : k = i
      · rw [e, wr_off _ _ _ _ _ fun k' a b q => by have := frN_inj (N := N) (i := k') (j := i) (by omega) (by omega) q; omega, wr_off _ _ _ _ _ fun k' a b q => by have := frN_inj (N := N) (i := k') (j := i) (by omega) (by omega) q; omega]
        rw [if_pos rfl, if_pos rfl]
      · exact ih _ _ _ _ (by omega) k (by omega) (by omega)
  exact (wr_cand hsp _ 0 n w (by omega) h).ext (wr_cand hsp _ 0 n (N 4) (by omega) Cand.own) fun i hi => key _ 0 n w (N 4) (by omega) i (by omega) (by omega)
end SK
