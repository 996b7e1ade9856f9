/-! lowest terms -/
def Red (u v a b : Nat) : Prop := Nat.Coprime a b ∧ 0 < b ∧ u * b = v * a
theorem red_gcd {u v : Nat} (hv : 0 < v) : Red u v (u / Nat.gcd u v) (v / Nat.gcd u v) := by
  have g0 : 0 < Nat.gcd u v := Nat.gcd_pos_of_pos_right _ hv
  refine ⟨Nat.coprime_div_gcd_div_gcd g0, Nat.div_pos (Nat.gcd_le_right _ hv) g0, ?_⟩
  rw [← Nat.mul_div_assoc _ (Nat.gcd_dvd_right u v), ← Nat.mul_div_assoc _ (Nat.gcd_dvd_left u v), Nat.mul_comm]
theorem red_uniq {u v a b u' v' a' b' : Nat} (hv : 0 < v) (hv' : 0 < v') (h : Red u v a b) (h' : Red u' v' a' b') (e : u * v' = u' * v) : a = a' ∧ b = b' := by
  obtain ⟨c, p, q⟩ := h
  obtain ⟨c', p', q'⟩ := h'
  have k : a * b' = a' * b := by
    have h1 : (v * v') * (a * b') = (v * v') * (a' * b) := by
      have l : (v * v') * (a * b') = (v * a) * (v' * b') := by simp only [Nat.mul_assoc, Nat.mul_comm, Nat.mul_left_comm]
      have r : (v * v') * (a' * b) = (v' * a') * (v * b) := by simp only [Nat.mul_assoc, Nat.mul_comm, Nat.mul_left_comm]
      rw [l, r, ← q, ← q']
      have l2 : u * b * (v' * b') = (u * v') * (b * b') := by simp only [Nat.mul_assoc, Nat.mul_comm, Nat.mul_left_comm]
      have r2 : u' * b' * (v * b) = (u' * v) * (b * b') := by simp only [Nat.mul_assoc, Nat.mul_comm, Nat.mul_left_comm]
      rw [l2, r2, e]
    exact Nat.eq_of_mul_eq_mul_left (Nat.mul_pos hv hv') h1
  have d1 : b ∣ b' := c.symm.dvd_of_dvd_mul_left (show b ∣ a * b' by rw [k]; exact Nat.dvd_mul_left _ _)
  have d2 : b' ∣ b := c'.symm.dvd_of_dvd_mul_left (show b' ∣ a' * b by rw [← k]; exact Nat.dvd_mul_left _ _)
  have eb : b = b' := Nat.dvd_antisymm d1 d2
  refine ⟨?_, eb⟩
  rw [← eb] at k
  exact Nat.eq_of_mul_eq_mul_right p k
theorem red_le {u v a b : Nat} (h : Red u v a b) (hv : 0 < v) : b ≤ v ∧ a ≤ u := by
  obtain ⟨c, p, q⟩ := h
  have d1 : b ∣ v := c.symm.dvd_of_dvd_mul_right (show b ∣ v * a by rw [← q]; exact Nat.dvd_mul_left _ _)
  have l1 := Nat.le_of_dvd hv d1
  refine ⟨l1, ?_⟩
  rcases Nat.lt_or_ge u a with h1 | h1
  · exfalso
    have : u * b < v * a := Nat.lt_of_lt_of_le (Nat.mul_lt_mul_of_pos_right h1 p) (by rw [Nat.mul_comm a b]; exact Nat.mul_le_mul_right _ l1)
    omega
  · exact h1
theorem nn64 {k : Nat} (hk : k < 2 ^ 63) : (0 : Int64) ≤ lN k := by rw [show (0 : Int64) = lN 0 from rfl, pk_lLE (by decide) hk]; omega
theorem ps64 {k : Nat} (h0 : 0 < k) (hk : k < 2 ^ 63) : (0 : Int64) < lN k := by rw [show (0 : Int64) = lN 0 from rfl, pk_lLT (by decide) hk]; omega
theorem q_gcd_nI {u v : Nat} (hu : u < 2 ^ 63) (hv : v < 2 ^ 63) : q_gcd (lN u) (lN v) = lN (Nat.gcd u v) := by
  unfold q_gcd
  rw [pk_lT hu, pk_lT hv]
  rfl
theorem q_low_red {u v a b : Nat} (h : Red u v a b) (hv : 0 < v) (hu : u < 2 ^ 63) (hv2 : v < 2 ^ 63) : q_low (lN u) (lN v) 0 = lN a ∧ q_low (lN u) (lN v) 1 = lN b := by
  have g0 : 0 < Nat.gcd u v := Nat.gcd_pos_of_pos_right _ hv
  have gl : Nat.gcd u v ≤ v := Nat.gcd_le_right _ hv
  obtain ⟨ea, eb⟩ := red_uniq hv hv h (red_gcd hv) rfl
  unfold q_low
  rw [if_pos rfl, if_neg (by decide), q_gcd_nI hu hv2, pk_lDiv hu g0 (by omega), pk_lDiv hv2 g0 (by omega), ea, eb]
  exact ⟨rfl, rfl⟩
theorem q_low0_red {u v a b : Nat} (h : Red u v a b) (hv : 0 < v) (hu : u < 2 ^ 63) (hv2 : v < 2 ^ 63) : q_low0 (lN u) (lN v) 0 = lN a ∧ q_low0 (lN u) (lN v) 1 = lN b := by
  have g0 : 0 < Nat.gcd u v := Nat.gcd_pos_of_pos_right _ hv
  have gl : Nat.gcd u v ≤ v := Nat.gcd_le_right _ hv
  obtain ⟨ea, eb⟩ := red_uniq hv hv h (red_gcd hv) rfl
  unfold q_low0
  rw [q_gcd_nI hu hv2, if_pos (ps64 g0 (by omega)), if_pos rfl, if_neg (by decide), pk_lDiv hu g0 (by omega), pk_lDiv hv2 g0 (by omega), ea, eb]
  exact ⟨rfl, rfl⟩
/-! the net's own flows -/
noncomputable def fN (N : Nt) (w : Nat → Nat) (mo t : Nat) (x0 : Nat → Nat) : Nat → Nat := Classical.epsilon (fun F => ∃ X, isF (N 0 0) (N 0 7) (dN N w mo t) (tlN N w mo t) (hdN N w mo t) 151200 x0 X F)
noncomputable def onN (N : Nt) (w : Nat → Nat) (mo : Nat) (x : Nat → Nat) (k : Nat) : Nat := sumN (fun t => ov (N 1) (N 2) (tlN N w mo t) (fN N w mo t (fun b => x (6 * b + t))) k) (N 0 0)
section FN
variable {N : Nt} {w : Nat → Nat} {mo t : Nat} {x0 : Nat → Nat}
theorem fgN (hN : Nok N) (hw : Wok N w) : FG (N 0 0) (N 0 7) (dN N w mo t) (tlN N w mo t) (hdN N w mo t) := fgD (t := t) (hN.gok hw) hN.2.1
theorem fN_is (hN : Nok N) (hw : Wok N w) : ∃ X, isF (N 0 0) (N 0 7) (dN N w mo t) (tlN N w mo t) (hdN N w mo t) 151200 x0 X (fN N w mo t x0) := by
  have := exF (x0 := x0) (fgN (mo := mo) (t := t) hN hw) (pt_dvd (fgN hN hw))
  exact Classical.epsilon_spec this
theorem fN_scale (hN : Nok N) (hw : Wok N w) {W : Nat} {x2 X F : Nat → Nat} (hx : ∀ b, b < N 0 0 → pt (tlN N w mo t) b (N 0 7) ≠ 0 → x2 b = x0 b) (h : isF (N 0 0) (N 0 7) (dN N w mo t) (tlN N w mo t) (hdN N w mo t) W x2 X F) : ∀ l, l < N 0 7 → F l * 151200 = fN N w mo t x0 l * W := by
  obtain ⟨X', h'⟩ := fN_is (mo := mo) (t := t) (x0 := x0) hN hw
  exact isF_uniq (fgN hN hw) hx h h'
theorem fN_eq (hN : Nok N) (hw : Wok N w) {x2 X F : Nat → Nat} (hx : ∀ b, b < N 0 0 → pt (tlN N w mo t) b (N 0 7) ≠ 0 → x2 b = x0 b) (h : isF (N 0 0) (N 0 7) (dN N w mo t) (tlN N w mo t) (hdN N w mo t) 151200 x2 X F) : ∀ l, l < N 0 7 → F l = fN N w mo t x0 l := fun l hl => Nat.eq_of_mul_eq_mul_right (by decide) (fN_scale hN hw hx h l hl)
theorem fN_le (hN : Nok N) (hw : Wok N w) {l : Nat} (hl : l < N 0 7) : fN N w mo t x0 l ≤ sumN x0 (N 0 0) * 151200 := by
  obtain ⟨X', h'⟩ := fN_is (mo := mo) (t := t) (x0 := x0) hN hw
  exact isF_le (fgN hN hw) h' hl
theorem ov_le {fa fb tl F : Nat → Nat} (k : Nat) : ov fa fb tl F k ≤ F (k / 2) := by
  unfold ov
  by_cases q : tl (k / 2) = (if k % 2 = 0 then fa (k / 2) else fb (k / 2))
  · rw [if_pos q]; exact Nat.le_refl _
  · rw [if_neg q]; exact Nat.zero_le _
theorem sum6 {f : Nat → Nat} {n c : Nat} (hn : n ≤ 6) (h : ∀ i, i < n → f i ≤ c) : sumN f n ≤ 6 * c := by
  have h1 : sumN f n ≤ sumN (fun _ => c) n := sumN_le h
  have h2 : ∀ k, sumN (fun _ => c) k = k * c := by
    intro k
    induction k with
    | zero => simp [sumN]
    | succ k ih => rw [sumN, ih, Nat.add_mul]; omega
  rw [h2] at h1
  exact Nat.le_trans h1 (Nat.mul_le_mul_right _ hn)
theorem onN_le (hN : Nok N) (hw : Wok N w) {x : Nat → Nat} {c k : Nat} (hx : ∀ i, i < 36 → x i ≤ c) (hk : k < 2 * N 0 7) : onN N w mo x k ≤ 36 * c * 151200 := by
  have hn := hN.1.2
  have : onN N w mo x k ≤ 6 * (6 * c * 151200) := by
    refine sum6 hn fun t ht => Nat.le_trans (ov_le k) (Nat.le_trans (fN_le hN hw (by omega)) (Nat.mul_le_mul_right _ (sum6 hn fun b hb => hx _ (by omega))))
  omega
end FN
theorem ev_sendOne {N : Nt} (hN : Nok N) {σ : ds_S} (hC : RC N σ) {w : Nat → Nat} (hw : Wok N w) {mo t i : Nat} (ht : t < N 0 0) (hi : i < N 0 0) (hW : WN N w mo t σ) {K : ds_S → Prop} (hK : ∀ s, kL 10 9 σ s → (∀ k, k < 2 * N 0 7 → s.2 10 k = lN (ov (N 1) (N 2) (tlN N w mo t) (fN N w mo t (fun b => if b = i then 1 else 0)) k)) → K s) : ds_EV mt_X0_sendOne Yc [.ref 8, .ref 1, .ref (20 + t), .int (nI i)] σ K := by
  have hn := hN.1.2
  have hm := hN.2.1
  refine e_X0_sendOne (20 + t) (nI i) σ _ ?_
  unfold w_X0_sendOne
  refine ev_fillL ⟨by decide, rfl⟩ (L := 20) rfl (by decide) fun s1 h1 h2 h3 => ev_fillL ⟨by decide, rfl⟩ (L := 6) rfl (by decide) fun s2 g1 g2 g3 => ⟨vp_in_nI (by omega) (by decide), ?_⟩
  rw [nI_clamp (n := i) (by omega)]
  have e1 : (ds_wl s2 9 i (151200 : Int64)).1 = σ.1 := g1.trans h1
  have k9 : ∀ c, c ≠ 10 → c ≠ 9 → (ds_wl s2 9 i (151200 : Int64)).2 c = σ.2 c := fun c a b => by rw [ds_wl_row _ _ _ _ b, g2 c b, h2 c a]
  have hW' : WOK (N 0 0) (N 0 7) (N 1) (N 2) w (thN N mo) (dN N w mo t) t (ds_wl s2 9 i (151200 : Int64)) := WOK.cong hW (fun c _ _ _ => by rw [e1]) (by omega)
  refine ev_pass (hN.gok hw) hm ht (dN_is hN hw mo ht) (by rw [e1]; exact hC.2.1) (fun l hl => by rw [e1]; exact (hC.2.2.1 l hl).1) hW' (A := fun _ => 0) (x0 := fun b => if b = i then 1 else 0) (fun b _ => by show (if _ then 1 else 0) ≤ _; split <;> omega) ⟨fun k hk => ?_, fun b hb _ => ?_⟩ fun s F X hk hF hov => ⟨rfl, hK s ?_ fun k hk2 => ?_⟩
  · rw [ds_wl_row _ _ _ _ (by decide), g2 10 (by decide), h3 k (by omega)]
    have : ov (N 1) (N 2) (tlD (N 1) (N 2) w (thN N mo) (dN N w mo t)) (fun _ => 0) k = 0 := by simp [ov]
    rw [this]; rfl
  · show _ = lN ((if b = i then 1 else 0) * 151200)
    rw [ds_wl_2]
    by_cases q : b = i
    · rw [if_pos ⟨rfl, q⟩, if_pos q]; rfl
    · rw [if_neg (fun z => q z.2), if_neg q, g3 b (by omega)]; rfl
  · exact ⟨hk.1.trans e1, fun c a b => (hk.2 c a b).trans (k9 c a b)⟩
  · rw [hov k hk2, Nat.zero_add]
    congr 1
    exact ov_cong (m := N 0 7) (fun l hl => fN_eq hN hw (fun b _ _ => rfl) hF l hl) hk2
theorem ev_collect {n t a : Nat} (hn : n ≤ 6) (ht : t < 6) {σ : ds_S} (h0 : σ.1 1 0 = nI n) {x : Nat → Nat} (hk : ds_k Yc a 10) (hL : Yc.2.2.1 a = 36) (hx : ∀ b, b < n → σ.1 a (6 * b + t) = nI (x b)) (hxb : ∀ b, b < n → x b ≤ 1000000) {K : Int32 → ds_S → Prop} (hK : ∀ r s, s.1 = σ.1 → (∀ c, c ≠ 9 → s.2 c = σ.2 c) → (∀ b, b < n → s.2 9 b = lN (x b * 151200)) → (r = 0 ∧ (∀ b, b < n → x b = 0)) ∨ (r = 1 ∧ ∃ b, b < n ∧ 0 < x b) → K r s) : ds_EI mt_X0_collect Yc [.ref 8, .ref 1, .ref a, .int (nI t)] σ K := by
  refine e_X0_collect a (nI t) σ _ ?_
  generalize hQ : (fun r σ' => ∃ x, r = some (Value.int x) ∧ K x σ') = Q
  have hq : ∀ x s, K x s → Q (some (.int x)) s := fun x s h => by rw [← hQ]; exact ⟨x, rfl, h⟩
  clear hQ
  unfold w_X0_collect
  refine pk_loop (σ := Int32 × ds_S) (fun fu i s => w_X0_collect_6 fu a (nI t) s.1 (nI i) s.2 Q) (fun i s => s.2.1 = σ.1 ∧ (∀ c, c ≠ 9 → s.2.2 c = σ.2 c) ∧ (∀ b, b < i → s.2.2 9 b = lN (x b * 151200)) ∧ ((s.1 = 0 ∧ (∀ b, b < i → x b = 0)) ∨ (s.1 = 1 ∧ ∃ b, b < i ∧ 0 < x b))) n 0 (0, σ) (by omega) ⟨rfl, fun _ _ => rfl, fun b h => by omega, Or.inl ⟨rfl, fun b h => by omega⟩⟩ ?_ ?_
  · rintro fu ⟨v, s⟩ ⟨h1, h2, h3, h4⟩
    have h1' : s.1 = σ.1 := h1
    have h4' : (v = 0 ∧ (∀ b, b < n → x b = 0)) ∨ (v = 1 ∧ ∃ b, b < n ∧ 0 < x b) := h4
    show w_X0_collect_6 (fu + 1) a (nI t) v (nI n) s Q
    rw [w_X0_collect_6]
    exact pk_le n n (fun _ => ⟨h4'.imp And.left And.left, hq _ _ (hK v s h1 h2 h3 h4')⟩) (fun h => by omega) (by rw [h1']; exact h0) rfl
  · rintro fu i ⟨v, s⟩ hi ⟨h1, h2, h3, h4⟩ hnext
    have h1' : s.1 = σ.1 := h1
    have h2' : ∀ c, c ≠ 9 → s.2 c = σ.2 c := h2
    have h3' : ∀ b, b < i → s.2 9 b = lN (x b * 151200) := h3
    have h4' : (v = 0 ∧ (∀ b, b < i → x b = 0)) ∨ (v = 1 ∧ ∃ b, b < i ∧ 0 < x b) := h4
    show w_X0_collect_6 (fu + 1) a (nI t) v (nI i) s Q
    have ix : nI i * 6 + nI t = nI (6 * i + t) := by rw [show (6 : Int32) = nI 6 from rfl, pk_mul, nI_add, Nat.mul_comm]
    have bx := hxb i hi
    rw [w_X0_collect_6, ix, hL, nI_clamp (n := 6 * i + t) (by omega), nI_clamp (n := i) (by omega), h1', hx i hi, nI_l (by omega), show (151200 : Int64) = lN 151200 from rfl, lN_mul, nI_1]
    have v36 : vp_in (nI (6 * i + t)) 36 := vp_in_nI (by omega) (by decide)
    have vi : vp_in (nI i) 6 := vp_in_nI (by omega) (by decide)
    have st : ∀ v', (v' = 0 ∧ (∀ b, b < i + 1 → x b = 0)) ∨ (v' = 1 ∧ ∃ b, b < i + 1 ∧ 0 < x b) → w_X0_collect_6 fu a (nI t) v' (nI (i + 1)) (ds_wl s 9 i (lN (x i * 151200))) Q := by
      intro v' hv'
      refine hnext (v', _) ⟨h1', fun c hc => (ds_wl_row _ _ _ _ hc).trans (h2' c hc), fun b hb => ?_, hv'⟩
      show (ds_wl s 9 i (lN (x i * 151200))).2 9 b = _
      rw [ds_wl_2]
      by_cases q : b = i
      · rw [if_pos ⟨rfl, q⟩, q]
      · rw [if_neg (fun z => q z.2)]; exact h3' b (by omega)
    refine pk_le n i (fun h => by omega) (fun _ => ⟨hk, v36, vi, pk_le (x i) 0 (fun h => st _ ?_) (fun h => st _ ?_)⟩) h0 rfl
    · rcases h4' with ⟨rfl, h5⟩ | ⟨rfl, b, h5, h6⟩
      · refine Or.inl ⟨rfl, fun b hb => ?_⟩
        by_cases q : b = i
        · rw [q]; omega
        · exact h5 b (by omega)
      · exact Or.inr ⟨rfl, b, by omega, h6⟩
    · refine Or.inr ⟨?_, i, by omega, h⟩
      rcases h4' with ⟨rfl, _⟩ | ⟨rfl, _⟩ <;> rfl
theorem ev_sendTable {N : Nt} (hN : Nok N) {σ : ds_S} (hC : RC N σ) {w : Nat → Nat} (hw : Wok N w) {mo a : Nat} {x : Nat → Nat} (hka : ds_k Yc a 10) (hLa : Yc.2.2.1 a = 36) (hx : ∀ i, i < 36 → σ.1 a i = nI (x i)) (hxb : ∀ i, i < 36 → x i ≤ 1000000) (hW : ∀ t, t < N 0 0 → (∃ b, b < N 0 0 ∧ 0 < x (6 * b + t)) → WN N w mo t σ) {K : ds_S → Prop} (hK : ∀ s, kL 10 9 σ s → (∀ k, k < 2 * N 0 7 → s.2 10 k = lN (onN N w mo x k)) → K s) : ds_EV mt_X0_sendTable Yc [.ref 8, .ref 1, .ref 6, .ref a] σ K := by
  have hn := hN.1.2
  have hm := hN.2.1
  refine e_X0_sendTable a σ _ ?_
  generalize hQ : (fun r σ' => r = none ∧ K σ') = Q
  have hq : ∀ s, K s → Q none s := fun s h => by rw [← hQ]; exact ⟨rfl, h⟩
  clear hQ
  unfold w_X0_sendTable
  refine ev_fillL ⟨by decide, rfl⟩ (L := 20) rfl (by decide) fun s1 h1 h2 h3 => ?_
  refine pk_loop (fun fu i s => w_X0_sendTable_11 fu a (nI i) s Q) (fun i s => kL 10 9 σ s ∧ ∀ k, k < 2 * N 0 7 → s.2 10 k = lN (sumN (fun t => ov (N 1) (N 2) (tlN N w mo t) (fN N w mo t (fun b => x (6 * b + t))) k) i)) (N 0 0) 0 s1 (by omega) ⟨⟨h1, fun c a _ => h2 c a⟩, fun k hk => h3 k (by omega)⟩ ?_ ?_
  · rintro fu s ⟨hk, hs⟩
    rw [w_X0_sendTable_11]
    exact pk_le (N 0 0) (N 0 0) (fun _ => hq _ (hK s hk hs)) (fun h => by omega) (by rw [hk.1]; exact hC.1) rfl
  · rintro fu t s ht ⟨hk, hs⟩ hnext
    rw [w_X0_sendTable_11]
    obtain ⟨-, -, y7⟩ := ways_at t (by omega)
    rw [nI_clamp (n := t) (by omega), y7, nI_1]
    refine pk_le (N 0 0) t (fun h => by omega) (fun _ => ev_collect hn (by omega) (by rw [hk.1]; exact hC.1) hka hLa (x := fun b => x (6 * b + t)) (fun b hb => by rw [hk.1]; exact hx _ (by omega)) (fun b hb => hxb _ (by omega)) fun r s2 g1 g2 g3 g4 => ?_) (by rw [hk.1]; exact hC.1) rfl
    have k2 : kL 10 9 σ s2 := ⟨g1.trans hk.1, fun c a b => (g2 c b).trans (hk.2 c a b)⟩
    have e10 : s2.2 10 = s.2 10 := g2 10 (by decide)
    rcases g4 with ⟨rfl, hz⟩ | ⟨rfl, hp⟩
    · refine ⟨fun _ => hnext s2 ⟨k2, fun k hk2 => ?_⟩, fun h => absurd rfl h⟩
      rw [e10, hs k hk2, sumN]
      have z : fN N w mo t (fun b => x (6 * b + t)) (k / 2) = 0 := by
        have := fN_le (mo := mo) (t := t) (x0 := fun b => x (6 * b + t)) hN hw (l := k / 2) (by omega)
        rw [sumN_zero (f := fun b => x (6 * b + t)) hz] at this
        omega
      have z2 := ov_le (fa := N 1) (fb := N 2) (tl := tlN N w mo t) (F := fN N w mo t (fun b => x (6 * b + t))) k
      rw [z] at z2
      rw [show ov (N 1) (N 2) (tlN N w mo t) (fN N w mo t (fun b => x (6 * b + t))) k = 0 by omega, Nat.add_zero]
    · refine ⟨fun h => absurd h (by decide), fun _ => ⟨vp_in_nI (by omega) (by decide), ?_⟩⟩
      have hWt : WOK (N 0 0) (N 0 7) (N 1) (N 2) w (thN N mo) (dN N w mo t) t s2 := WOK.cong (hW t ht hp) (fun c _ _ _ => by rw [k2.1]) (by omega)
      refine ev_pass (hN.gok hw) hm ht (dN_is hN hw mo ht) (by rw [k2.1]; exact hC.2.1) (fun l hl => by rw [k2.1]; exact (hC.2.2.1 l hl).1) hWt (A := fun k => sumN (fun t => ov (N 1) (N 2) (tlN N w mo t) (fN N w mo t (fun b => x (6 * b + t))) k) t) (x0 := fun b => x (6 * b + t)) (fun b hb => hxb _ (by omega)) ⟨fun k hk2 => ?_, fun b hb _ => g3 b hb⟩ fun s3 F X hk3 hF hov => hnext s3 ⟨k2.trans hk3, fun k hk2 => ?_⟩
      · rw [e10, hs k hk2]
        have : ov (N 1) (N 2) (tlD (N 1) (N 2) w (thN N mo) (dN N w mo t)) (fun _ => 0) k = 0 := by simp [ov]
        rw [this, Nat.add_zero]
      · rw [hov k hk2, sumN]
        congr 2
        exact ov_cong (m := N 0 7) (fun l hl => fN_eq hN hw (fun b _ _ => rfl) hF l hl) hk2
