/-! the class's seeking -/
def SI (N : Nt) (sp : Nat) (v : Int32) (s : ds_S) : Prop := RC N s ∧ s.1 14 6 = nI sp ∧ s.1 14 7 = nI (fcN N) ∧ (∀ i, i < fcN N → s.1 17 i = nI (frN N i)) ∧ s.1 14 9 = v
theorem SI.of {N : Nt} {sp : Nat} {v : Int32} {σ s : ds_S} (h : SI N sp v σ) (hk : ∀ c, c = 1 ∨ (3 ≤ c ∧ c ≤ 5) ∨ c = 12 ∨ (61 ≤ c ∧ c ≤ 64) ∨ c = 17 → s.1 c = σ.1 c) (h6 : s.1 14 6 = σ.1 14 6) (h7 : s.1 14 7 = σ.1 14 7) (h9 : s.1 14 9 = σ.1 14 9) : SI N sp v s := by
  obtain ⟨a, b, c, d, e⟩ := h
  refine ⟨a.of fun c hc => hk c (by omega), h6.trans b, h7.trans c, fun i hi => ?_, h9.trans e⟩
  rw [hk 17 (by omega)]; exact d i hi
theorem ev_chooseFree {N : Nt} (hN : Nok N) {σ : ds_S} (hC : RC N σ) {K : ds_S → Prop} (hK : ∀ s, (∀ c, c ≠ 14 → c ≠ 17 → s.1 c = σ.1 c) → (∀ k, k ≠ 7 → s.1 14 k = σ.1 14 k) → s.2 = σ.2 → s.1 14 7 = nI (fcN N) → (∀ i, i < fcN N → s.1 17 i = nI (frN N i)) → K s) : ds_EV mt_X5_chooseFree Yc [.ref 14] σ K := by
  have hm := hN.2.1
  refine e_X5_chooseFree σ _ ?_
  generalize hQ : (fun r σ' => r = none ∧ K σ') = Q
  have hq : ∀ s, K s → Q none s := fun s h => by rw [← hQ]; exact ⟨rfl, h⟩
  clear hQ
  unfold w_X5_chooseFree
  have s5 : ∀ l, l < N 0 7 → N 5 l ≤ 1 := fun l h => (hN.2.2.1 l h).2.2.2.2.2.2.2.1
  have s6 : ∀ l, l < N 0 7 → N 6 l ≤ 1 := fun l h => (hN.2.2.1 l h).2.2.2.2.2.2.2.2
  refine pk_loop (fun fu k s => w_X5_chooseFree_7 fu (nI k) s Q) (fun k s => (∀ c, c ≠ 14 → c ≠ 17 → s.1 c = σ.1 c) ∧ (∀ k, k ≠ 7 → s.1 14 k = σ.1 14 k) ∧ s.2 = σ.2 ∧ s.1 14 7 = nI (frs N k).1 ∧ ∀ i, i < (frs N k).1 → s.1 17 i = nI ((frs N k).2 i)) (N 0 7) 0 _ (by omega) ⟨fun c h _ => if_neg h, fun k hk => by rw [ds_wi_1, if_neg (by omega)], rfl, by rw [ds_wi_1, if_pos ⟨rfl, rfl⟩]; rfl, fun i h => absurd h (Nat.not_lt_zero _)⟩ ?_ ?_
  · rintro fu s ⟨h1, h2, h3, h4, h5⟩
    rw [w_X5_chooseFree_7]
    exact pk_le (N 0 7) (N 0 7) (fun _ => hq _ (hK s h1 h2 h3 h4 h5)) (fun h => by omega) (by rw [h1 1 (by decide) (by decide)]; exact hC.2.1) rfl
  · rintro fu k s hk ⟨h1, h2, h3, h4, h5⟩ hnext
    have hok := frs_ok N k
    rw [w_X5_chooseFree_7]
    have e6 : s.1 1 6 = nI (bitsOf (N 5) (N 0 7)) := by rw [h1 1 (by decide) (by decide)]; exact hC.2.2.2.1
    have e7 : s.1 1 7 = nI (bitsOf (N 6) (N 0 7)) := by rw [h1 1 (by decide) (by decide)]; exact hC.2.2.2.2.1
    have eb : q_bit (nI (bitsOf (N 5) (N 0 7)) ||| nI (bitsOf (N 6) (N 0 7))) (nI k) = 0 ↔ N 5 k = 0 ∧ N 6 k = 0 := by
      rw [q_bit_or, bitl hm s5 hk, bitl hm s6 hk]
      have a5 := s5 k hk
      have a6 := s6 k hk
      rcases (show N 5 k = 0 ∨ N 5 k = 1 by omega) with x | x <;> rcases (show N 6 k = 0 ∨ N 6 k = 1 by omega) with y | y <;> rw [x, y] <;> decide
    rw [e6, e7, h4, eb, nI_1]
    have sc : frs N (k + 1) = if (frs N k).1 < 5 ∧ N 5 k = 0 ∧ N 6 k = 0 then ((frs N k).1 + 1, fun i => if i = (frs N k).1 then k else (frs N k).2 i) else frs N k := rfl
    refine pk_le (N 0 7) k (fun h => by omega) (fun _ => pk_le 5 (frs N k).1 (fun h => ?_) (fun h => ⟨fun hn => hnext s ⟨h1, h2, h3, ?_, ?_⟩, fun hy => ⟨vp_in_nI h (by decide), hnext _ ⟨fun c a b => ?_, fun j hj => ?_, h3, ?_, fun i hi => ?_⟩⟩⟩)) (by rw [h1 1 (by decide) (by decide)]; exact hC.2.1) rfl
    · have st := frs_stop N h (N 0 7) (by omega)
      refine hq _ (hK s h1 h2 h3 ?_ ?_)
      · unfold fcN; rw [st]; exact h4
      · unfold fcN frN; rw [st]; exact h5
    · rw [sc, if_neg (fun z => hn z.2)]; exact h4
    · rw [sc, if_neg (fun z => hn z.2)]; exact h5
    · funext j
      rw [ds_wi_1, if_neg (by omega), ds_wi_1, if_neg (by omega), h1 c a b]
    · rw [ds_wi_1, if_neg (by omega), ds_wi_1, if_neg (by omega)]; exact h2 j hj
    · rw [ds_wi_1, if_pos ⟨rfl, rfl⟩, sc, if_pos ⟨h, hy⟩, nI_1]
    · rw [sc, if_pos ⟨h, hy⟩] at hi ⊢
      have hi' : i < (frs N k).1 + 1 := hi
      show (ds_wi (ds_wi s 17 (nI (frs N k).1).toNatClampNeg (nI k)) 14 7 _).1 17 i = nI (if i = (frs N k).1 then k else (frs N k).2 i)
      rw [nI_clamp (n := (frs N k).1) (by omega), ds_wi_1, if_neg (by omega), ds_wi_1]
      by_cases e : i = (frs N k).1
      · rw [if_pos ⟨rfl, e⟩, if_pos e]
      · rw [if_neg (fun z => e z.2), if_neg e]; exact h5 i (by omega)
theorem q_ch_nI {a b : Nat} (ha : a < 2 ^ 31) (hb : b < 2 ^ 30) : q_ch (nI a) (nI b) = nI (if b < a then b + 1 else b) := by
  unfold q_ch
  by_cases h : b < a
  · rw [if_pos (nI_lt h ha), if_pos h, nI_1]
  · rw [if_neg (nI_nlt (by omega) (by omega)), if_neg h]
theorem chI_le {N : Nt} {sp : Nat} (hsp : sp ≤ 2) (i : Nat) : chI N sp i ≤ 3 := by unfold chI; split <;> omega
theorem prod_le {f : Nat → Nat} (h : ∀ i, f i ≤ 3) : ∀ k, prodN f k ≤ 3 ^ k := by
  intro k
  induction k with
  | zero => exact Nat.le_refl _
  | succ k ih => rw [prodN, Nat.pow_succ]; exact Nat.mul_le_mul ih (h k)
theorem prod5 {N : Nt} {sp : Nat} (hsp : sp ≤ 2) {k : Nat} (hk : k ≤ 5) : prodN (chI N sp) k ≤ 243 := Nat.le_trans (prod_le (chI_le hsp) k) (show 3 ^ k ≤ 3 ^ 5 from Nat.pow_le_pow_right (by decide) hk)
theorem ev_countChoices {N : Nt} (hN : Nok N) {sp : Nat} {v : Int32} {σ : ds_S} (hS : SI N sp v σ) (hsp : sp ≤ 2) {K : Int32 → ds_S → Prop} (hK : K (nI (prodN (chI N sp) (fcN N))) σ) : ds_EI mt_X5_countChoices Yc [.ref 14] σ K := by
  have hm := hN.2.1
  obtain ⟨hC, h6, h7, h17, h9⟩ := hS
  refine e_X5_countChoices σ _ ?_
  generalize hQ : (fun r σ' => ∃ x, r = some (Value.int x) ∧ K x σ') = Q
  have hq : Q (some (.int (nI (prodN (chI N sp) (fcN N))))) σ := by rw [← hQ]; exact ⟨_, rfl, hK⟩
  clear hQ
  have c5 := fcN_le N
  unfold w_X5_countChoices
  refine pk_loop (σ := Int32) (fun fu i u => w_X5_countChoices_4 fu u (nI i) σ Q) (fun i u => u = nI (prodN (chI N sp) i)) (fcN N) 0 1 (by omega) rfl ?_ ?_
  · rintro fu u rfl
    rw [w_X5_countChoices_4]
    exact pk_le (fcN N) (fcN N) (fun _ => hq) (fun h => by omega) h7 rfl
  · rintro fu i u hi rfl hnext
    have hf := frN_lt hi
    have h4 := hN.w4 _ hf
    rw [w_X5_countChoices_4, nI_clamp (n := i) (by omega), h17 i hi, nI_clamp (n := frN N i) (by omega), (hC.2.2.1 _ hf).2.2.2, h6, q_ch_nI (by omega) (by omega), pk_mul, nI_1]
    exact pk_le (fcN N) i (fun h => by omega) (fun _ => ⟨vp_in_nI (by omega) (by decide), vp_in_nI (by omega) (by decide), hnext _ rfl⟩) h7 rfl
theorem lvI_m1 (k : Nat) : lvI (k + 1) + (-1) = lvI k := by
  unfold lvI
  rw [if_neg (by omega)]
  by_cases q : k = 0
  · rw [q]; rfl
  · rw [if_neg q]
    obtain ⟨j, rfl⟩ : ∃ j, k = j + 1 := ⟨k - 1, by omega⟩
    exact pk_m1 j
theorem ch_sum {N : Nt} {sp : Nat} {w : Nat → Nat} (h : Cand N sp w) : sumN (fun i => if N 4 (frN N i) = w (frN N i) then 0 else 1) (fcN N) = chN N w := by
  have e : ∀ k, sumN (fun l => if N 4 l = w l then 0 else 1) k = cntL (N 4) w k := by
    intro k
    induction k with
    | zero => rfl
    | succ k ih => rw [sumN, cntL, ih]
  unfold chN
  rw [← e]
  refine frs_sum N (fun l => if N 4 l = w l then 0 else 1) (N 0 7) fun l hl hn => ?_
  show (if N 4 l = w l then 0 else 1) = 0
  rw [if_pos (h.off hn).symm]
theorem ev_choose {N : Nt} (hN : Nok N) {sp : Nat} {v : Int32} {σ : ds_S} (hS : SI N sp v σ) (hsp1 : 1 ≤ sp) (hsp : sp ≤ 2) {q : Nat} (hq1 : q < 1000) {tr : Nat → Nat} (htr : Cand N sp tr) (h18 : ∀ l, l < N 0 7 → σ.1 18 l = nI (tr l)) {K : Int32 → ds_S → Prop} (hK : ∀ r, (∀ l, l < N 0 7 → r l = nI (wc N sp (fcN N) q (N 4) l)) → K (nI (chN N (wc N sp (fcN N) q (N 4)))) (ds_si σ 18 r)) : ds_EI mt_X5_choose Yc [.ref 14, .int (nI q)] σ K := by
  have hm := hN.2.1
  obtain ⟨hC, h6, h7, h17, h9⟩ := hS
  refine e_X5_choose (nI q) σ _ ?_
  generalize hQ : (fun r σ' => ∃ x, r = some (Value.int x) ∧ K x σ') = Q
  have hq : ∀ x s, K x s → Q (some (.int x)) s := fun x s h => by rw [← hQ]; exact ⟨x, rfl, h⟩
  clear hQ
  have c5 := fcN_le N
  unfold w_X5_choose
  have ec : σ.1 14 7 - 1 = lvI (fcN N) := by
    rw [h7]
    unfold lvI
    by_cases z : fcN N = 0
    · rw [z]; rfl
    · rw [if_neg z]
      obtain ⟨j, hj⟩ : ∃ j, fcN N = j + 1 := ⟨fcN N - 1, by omega⟩
      rw [hj]; exact nI_pred j
  rw [ec]
  generalize hw : wc N sp (fcN N) q (N 4) = w at *
  have hwC : Cand N sp w := by rw [← hw]; exact wc_cand hsp1 _ _ _ (Nat.le_refl _) Cand.own
  refine ⟨fcN N + 1, pk_loopD (σ := Int32 × Int32 × ds_S) (fun fu k u => w_X5_choose_12 fu u.1 u.2.1 (lvI k) u.2.2 Q) (fun k u => k ≤ fcN N ∧ ∃ rest tr T r, u.2.1 = nI rest ∧ rest < 1000 ∧ u.1 = nI T ∧ u.2.2 = ds_si σ 18 r ∧ (∀ l, l < N 0 7 → r l = nI (tr l)) ∧ wc N sp k rest tr = w ∧ T + sumN (fun i => if N 4 (frN N i) = w (frN N i) then 0 else 1) k = chN N w) ?_ ?_ (fcN N) (0, nI q, σ) ⟨Nat.le_refl _, q, tr, 0, σ.1 18, rfl, hq1, rfl, (ds_si_self _ _).symm, h18, by rw [wc_base hsp1 htr Cand.own, hw], by rw [Nat.zero_add]; exact ch_sum hwC⟩⟩
  · rintro fu ⟨v2, v3, s⟩ ⟨-, rest, tr', T, r, e1, e2, e3, e4, e5, e6, e7⟩
    have e3' : v2 = nI T := e3
    have e4' : s = ds_si σ 18 r := e4
    show w_X5_choose_12 (fu + 1) v2 v3 (lvI 0) s Q
    rw [w_X5_choose_12, e3', e4']
    have e7' : T + 0 = chN N w := e7
    have e6' : tr' = w := e6
    refine ⟨fun _ => hq _ _ ?_, fun h => absurd (by decide) h⟩
    rw [show T = chN N w by omega]
    exact hK r fun l hl => by rw [e5 l hl, e6']
  · rintro fu k ⟨v2, v3, s⟩ ⟨hk, rest, tr', T, r, e1, e2, e3, e4, e5, e6, e7⟩ hnext
    have e1' : v3 = nI rest := e1
    have e3' : v2 = nI T := e3
    have e4' : s = ds_si σ 18 r := e4
    subst e1' e3' e4'
    have hkc : k < fcN N := by omega
    have hf := frN_lt hkc
    have h4 := hN.w4 _ hf
    have lk : lvI (k + 1) = nI k := if_neg (by omega)
    have cp := chI_pos (N := N) hsp1 k
    have c3 := chI_le (N := N) hsp k
    have a17 : (ds_si σ 18 r).1 17 k = nI (frN N k) := h17 k hkc
    have a64 : (ds_si σ 18 r).1 64 (frN N k) = nI (N 4 (frN N k)) := (hC.2.2.1 _ hf).2.2.2
    have a6 : (ds_si σ 18 r).1 14 6 = nI sp := h6
    have ech : q_ch (nI (N 4 (frN N k))) (nI sp) = nI (chI N sp k) := q_ch_nI (by omega) (by omega)
    have v10 : vp_in (nI (frN N k)) 10 := vp_in_nI (by omega) (by decide)
    have wk : w (frN N k) = vlI N sp k (rest % chI N sp k) := by rw [← e6]; exact wc_last hkc
    have hdm := Nat.mod_lt rest cp
    have hdl : rest / chI N sp k ≤ rest := Nat.div_le_self _ _
    have b95 : ∀ x, x = vlI N sp k (rest % chI N sp k) → w_X5_choose_95 (nI T) (nI (rest / chI N sp k)) (nI k) (nI (frN N k)) (nI x) (nI (frN N k)) (ds_si σ 18 r) Q (fun v2_2 v3_2 v4_2 σ2 => w_X5_choose_12 fu v2_2 v3_2 v4_2 σ2 Q) := by
      intro x hx
      have xb : x ≤ 20 := by rw [hx]; unfold vlI; split <;> omega
      unfold w_X5_choose_95
      rw [nI_clamp (n := frN N k) (by omega), ds_wi_si, a64]
      have rd : (ds_si σ 18 (upd r (frN N k) (nI x))).1 18 (frN N k) = nI x := pk_us
      rw [rd, nI_1, show (0 : Int32) = nI 0 from rfl, nI_add, show nI k + (-1) = lvI k by rw [← lk]; exact lvI_m1 k]
      have go : ∀ T', T' = T + (if N 4 (frN N k) = w (frN N k) then 0 else 1) → w_X5_choose_12 fu (nI T') (nI (rest / chI N sp k)) (lvI k) (ds_si σ 18 (upd r (frN N k) (nI x))) Q := by
        intro T' hT'
        refine hnext (_, _, _) ⟨by omega, rest / chI N sp k, (fun l => if l = frN N k then vlI N sp k (rest % chI N sp k) else tr' l), T', _, rfl, by omega, rfl, rfl, fun l hl => ?_, e6, ?_⟩
        · rw [upd_nI e5 l hl, hx]
        · rw [sumN] at e7
          rw [hT']
          omega
      refine ⟨v10, v10, v10, pk_ne x (N 4 (frN N k)) (fun h => go _ ?_) (fun h => go _ ?_)⟩
      · rw [if_neg (by rw [wk, ← hx]; exact Ne.symm h)]
      · rw [if_pos (by rw [wk, ← hx]; exact h.symm)]
    show w_X5_choose_12 (fu + 1) (nI T) (nI rest) (lvI (k + 1)) (ds_si σ 18 r) Q
    rw [w_X5_choose_12, lk, nI_clamp (n := k) (by omega), a17, nI_clamp (n := frN N k) (by omega), a64, a6, ech, pk_rem (by omega) cp (by omega)]
    refine ⟨fun h => absurd h (nI_pos (by omega)), fun _ => ⟨vp_in_nI (by omega) (by decide), v10, fun h => absurd h (nI_nle cp (by omega)), fun _ => ⟨nI_ne0 cp (by omega), ?_⟩⟩⟩
    unfold w_X5_choose_47
    refine ⟨fun h => absurd h (nI_nle cp (by omega)), fun _ => ⟨nI_ne0 cp (by omega), ?_⟩⟩
    unfold w_X5_choose_62
    rw [pk_div (by omega) cp (by omega), nI_clamp (n := frN N k) (by omega), a64, a6, nI_1]
    refine pk_le sp (rest % chI N sp k) (fun h => ⟨v10, b95 _ ?_⟩) (fun h => b95 _ ?_)
    · unfold vlI; rw [if_neg (by omega)]
    · unfold vlI; rw [if_pos h]
