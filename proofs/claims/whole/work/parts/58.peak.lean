/-! the fullest line -/
def pkN (T R : Nat → Nat) : Nat → Nat × Nat × Nat
  | 0 => (0, 1, 99)
  | k + 1 => if (pkN T R k).1 * R (k / 2) < T k * (pkN T R k).2.1 then (T k, R (k / 2), k) else pkN T R k
theorem pkN_ok {T R : Nat → Nat} {B m : Nat} (hT : ∀ k, k < 2 * m → T k ≤ B) (hR : ∀ l, l < m → 1 ≤ R l ∧ R l ≤ 100) : ∀ k, k ≤ 2 * m → (pkN T R k).1 ≤ B ∧ 1 ≤ (pkN T R k).2.1 ∧ (pkN T R k).2.1 ≤ 100 ∧ ((pkN T R k).2.2 = 99 ∨ (pkN T R k).2.2 < k) := by
  intro k
  induction k with
  | zero => intro _; exact ⟨Nat.zero_le _, Nat.le_refl 1, (by decide : (1 : Nat) ≤ 100), Or.inl rfl⟩
  | succ k ih =>
    intro hk
    obtain ⟨h1, h2, h3, h4⟩ := ih (by omega)
    rw [pkN]
    split
    · have := hR (k / 2) (by omega)
      exact ⟨hT k (by omega), this.1, this.2, Or.inr (by show k < k + 1; omega)⟩
    · exact ⟨h1, h2, h3, by omega⟩
theorem pkN_cong {T T' R : Nat → Nat} : ∀ k, (∀ j, j < k → T j = T' j) → pkN T R k = pkN T' R k := by
  intro k
  induction k with
  | zero => intro _; rfl
  | succ k ih =>
    intro h
    rw [pkN, pkN, ih fun j hj => h j (by omega), h k (by omega)]
/-- where the fullest line is, as the class says it -/
def atC (q : Nat) : Int32 := if q = 99 then -6 else nI q
def PS (a : Nat) (p : Nat × Nat × Nat) (s : ds_S) : Prop := s.2 a 0 = lN p.1 ∧ s.1 a 1 = nI p.2.1 ∧ s.1 a 2 = (if p.2.2 = 99 then -6 else nI (p.2.2 / 2)) ∧ s.1 a 3 = (if p.2.2 = 99 then -6 else nI (p.2.2 % 2))
def kP (a : Nat) (σ s : ds_S) : Prop := (∀ c k, c ≠ a ∨ 4 ≤ k → s.1 c k = σ.1 c k) ∧ ∀ c, c ≠ a → s.2 c = σ.2 c
theorem kP.refl (a : Nat) (σ : ds_S) : kP a σ σ := ⟨fun _ _ _ => rfl, fun _ _ => rfl⟩
theorem kP.wi {a k : Nat} {σ s : ds_S} {x : Int32} (h : kP a σ s) (hk : k < 4) : kP a σ (ds_wi s a k x) := ⟨fun c j hc => by rw [ds_wi_1, if_neg (by omega)]; exact h.1 c j hc, h.2⟩
theorem kP.wl {a k : Nat} {σ s : ds_S} {x : Int64} (h : kP a σ s) : kP a σ (ds_wl s a k x) := ⟨h.1, fun c hc => (ds_wl_row _ _ _ _ hc).trans (h.2 c hc)⟩
theorem kP.row {a : Nat} {σ s : ds_S} (h : kP a σ s) {c : Nat} (hc : c ≠ a) : s.1 c = σ.1 c := funext fun k => h.1 c k (Or.inl hc)
/-- a peak's cell -/
def PC (a : Nat) : Prop := a = 11 ∨ a = 13 ∨ a = 19 ∨ a = 16
theorem PC.k {a : Nat} (h : PC a) : ds_k Yc a 3 := by
  rcases h with rfl | rfl | rfl | rfl <;> exact ⟨by decide, rfl⟩
theorem ev_clear {a : Nat} (ha : PC a) {σ : ds_S} {K : ds_S → Prop} (hK : ∀ s, (∀ c, c ≠ a → s.1 c = σ.1 c) → (∀ c, c ≠ a → s.2 c = σ.2 c) → PS a (0, 1, 99) s → s.1 a 4 = nI 0 → s.1 a 5 = -1 → K s) : ds_EV mt_X3_clear Yc [.ref a] σ K := by
  have k := ha.k
  refine e_X3_clear a σ _ ⟨k, k, k, k, k, k, rfl, hK _ (fun c hc => ?_) (fun c hc => ?_) ⟨?_, ?_, ?_, ?_⟩ ?_ ?_⟩
  · funext j
    simp only [ds_wi_1]
    rw [if_neg (by omega), if_neg (by omega), if_neg (by omega), if_neg (by omega), if_neg (by omega)]
    rfl
  · exact ds_wl_row _ _ _ _ hc
  · show (ds_wl σ a 0 0).2 a 0 = _
    rw [ds_wl_2, if_pos ⟨rfl, rfl⟩]; rfl
  · simp only [ds_wi_1]; simp; rfl
  · simp only [ds_wi_1]; simp
  · simp only [ds_wi_1]; simp
  · simp only [ds_wi_1]; simp; rfl
  · simp only [ds_wi_1]; simp
theorem ev_climb {a m : Nat} (ha : PC a) (hm : m ≤ 10) {σ : ds_S} {T R : Nat → Nat} {B : Nat} (hB : B ≤ 10000000000000) (h11 : σ.1 1 1 = nI m) (h63 : ∀ l, l < m → σ.1 63 l = nI (R l)) (hR : ∀ l, l < m → 1 ≤ R l ∧ R l ≤ 100) (hT : ∀ k, k < 2 * m → σ.2 10 k = lN (T k) ∧ T k ≤ B) (hP : PS a (0, 1, 99) σ) {K : ds_S → Prop} (hK : ∀ s, kP a σ s → PS a (pkN T R (2 * m)) s → K s) : ds_EV mt_X3_climb Yc [.ref a, .ref 1, .ref 8] σ K := by
  have k := ha.k
  have an : a ≠ 1 ∧ a ≠ 10 ∧ a ≠ 63 := by rcases ha with rfl | rfl | rfl | rfl <;> decide
  refine e_X3_climb a σ _ ?_
  generalize hQ : (fun r σ' => r = none ∧ K σ') = Q
  have hq : ∀ s, K s → Q none s := fun s h => by rw [← hQ]; exact ⟨rfl, h⟩
  clear hQ
  unfold w_X3_climb
  have ok := pkN_ok (T := T) (R := R) (B := B) (m := m) (fun k hk => (hT k hk).2) hR
  refine pk_loop (fun fu i s => w_X3_climb_2 fu a (nI i) s Q) (fun i s => kP a σ s ∧ PS a (pkN T R (2 * i)) s) m 0 σ (by omega) ⟨kP.refl _ _, hP⟩ ?_ ?_
  · rintro fu s ⟨hk, hp⟩
    rw [w_X3_climb_2]
    exact pk_le m m (fun _ => hq _ (hK s hk hp)) (fun h => by omega) (by rw [hk.row an.1.symm]; exact h11) rfl
  · rintro fu i s hi ⟨hk, hp⟩ hnext
    rw [w_X3_climb_2]
    refine pk_le m i (fun h => by omega) (fun _ => ?_) (by rw [hk.row an.1.symm]; exact h11) rfl
    generalize hKK : (fun v3_1 σ1 => w_X3_climb_2 fu a (v3_1 + (1 : Int32)) σ1 Q) = KK
    have hkk : ∀ s, kP a σ s → PS a (pkN T R (2 * i + 2)) s → KK (nI i) s := fun s h1 h2 => by
      rw [← hKK]
      show w_X3_climb_2 fu a (nI i + 1) s Q
      rw [nI_1]
      exact hnext s ⟨h1, h2⟩
    clear hKK hnext
    refine pk_loop (fun fu j s => w_X3_climb_13 fu a (nI i) (nI j) s Q KK) (fun j s => kP a σ s ∧ PS a (pkN T R (2 * i + j)) s) 2 0 s (by omega) ⟨hk, hp⟩ ?_ ?_
    · rintro fu s ⟨hk, hp⟩
      rw [w_X3_climb_13]
      exact pk_le 2 2 (fun _ => hkk s hk hp) (fun h => by omega)
    · rintro fu j s hj ⟨hk, hp⟩ hnext
      obtain ⟨p1, p2, p3, p4⟩ := hp
      have ix : (2 : Int32) * nI i + nI j = nI (2 * i + j) := by rw [show (2 : Int32) = nI 2 from rfl, pk_mul, nI_add]
      have e10 : s.2 10 (2 * i + j) = lN (T (2 * i + j)) := by rw [hk.2 10 an.2.1.symm]; exact (hT _ (by omega)).1
      have e63 : s.1 63 i = nI (R i) := by rw [hk.row an.2.2.symm]; exact h63 i hi
      obtain ⟨b1, b2, b3, b4⟩ := ok (2 * i + j) (by omega)
      have bT := (hT (2 * i + j) (by omega)).2
      have bR := hR i hi
      have v20 : vp_in (nI (2 * i + j)) 20 := vp_in_nI (by omega) (by decide)
      have v10 : vp_in (nI i) 10 := vp_in_nI (by omega) (by decide)
      have m1 : T (2 * i + j) * (pkN T R (2 * i + j)).2.1 ≤ 10000000000000 * 100 := Nat.mul_le_mul (by omega) b3
      have m2 : (pkN T R (2 * i + j)).1 * R i ≤ 10000000000000 * 100 := Nat.mul_le_mul (by omega) bR.2
      rw [w_X3_climb_13, ix, nI_clamp (n := 2 * i + j) (by omega), nI_clamp (n := i) (by omega), e10, e63, p1, p2, nI_l (by omega), nI_l (by omega), lN_mul, lN_mul, nI_1 j, lg_cmp_le, pk_lLE (by omega) (by omega)]
      have di : (2 * i + j) / 2 = i := by omega
      have mi : (2 * i + j) % 2 = j := by omega
      have sc : pkN T R (2 * i + (j + 1)) = if (pkN T R (2 * i + j)).1 * R i < T (2 * i + j) * (pkN T R (2 * i + j)).2.1 then (T (2 * i + j), R i, 2 * i + j) else pkN T R (2 * i + j) := by
        rw [show 2 * i + (j + 1) = (2 * i + j) + 1 by omega, pkN, di]
      refine pk_le 2 j (fun h => by omega) (fun _ => ⟨v20, k, k, v10, fun h => hnext s ⟨hk, ?_⟩, fun h => ⟨k, v10, k, k, k, hnext _ ⟨(((hk.wl).wi (by decide)).wi (by decide)).wi (by decide), ?_⟩⟩⟩)
      · rw [sc, if_neg (by omega)]
        exact ⟨p1, p2, p3, p4⟩
      · rw [sc, if_pos (by omega)]
        refine ⟨?_, ?_, ?_, ?_⟩
        · show (ds_wl s a 0 _).2 a 0 = _
          rw [ds_wl_2, if_pos ⟨rfl, rfl⟩]
        · simp only [ds_wi_1]; simp
        · simp only [ds_wi_1]; simp
          rw [if_neg (by omega), di]
        · simp only [ds_wi_1]; simp
          rw [if_neg (by omega), Nat.mod_eq_of_lt hj]
/-- the reference's way of comparing: like ours -/
theorem gt_iff {T a b o r U L rm : Nat} (h1 : Red T 151200 a b) (h2 : Red o (151200 * r) U L) (hr : 0 < r) : U * (b * rm) < a * L ↔ o * rm < T * r := by
  obtain ⟨-, b0, e1⟩ := h1
  obtain ⟨-, l0, e2⟩ := h2
  have k1 : U * (b * rm) * (151200 * r) = o * rm * (b * L) := by
    calc U * (b * rm) * (151200 * r) = (151200 * r * U) * (b * rm) := by rw [Nat.mul_comm (U * (b * rm)), Nat.mul_assoc (151200 * r)]
      _ = o * L * (b * rm) := by rw [e2]
      _ = o * rm * (b * L) := by simp only [Nat.mul_assoc, Nat.mul_comm, Nat.mul_left_comm]
  have k2 : a * L * (151200 * r) = T * r * (b * L) := by
    calc a * L * (151200 * r) = (151200 * a) * (r * L) := by simp only [Nat.mul_assoc, Nat.mul_comm, Nat.mul_left_comm]
      _ = T * b * (r * L) := by rw [e1]
      _ = T * r * (b * L) := by simp only [Nat.mul_assoc, Nat.mul_comm, Nat.mul_left_comm]
  constructor
  · intro h
    have := Nat.mul_lt_mul_of_pos_right h (show 0 < 151200 * r by omega)
    rw [k1, k2] at this
    exact Nat.lt_of_mul_lt_mul_right this
  · intro h
    have := Nat.mul_lt_mul_of_pos_right h (Nat.mul_pos b0 l0)
    rw [← k1, ← k2] at this
    exact Nat.lt_of_mul_lt_mul_right this
theorem red_room {T a b rm U L : Nat} (h1 : Red T 151200 a b) (h2 : Red a (b * rm) U L) : Red T (151200 * rm) U L := by
  obtain ⟨-, b0, e1⟩ := h1
  obtain ⟨c, l0, e2⟩ := h2
  refine ⟨c, l0, Nat.eq_of_mul_eq_mul_left b0 ?_⟩
  calc b * (T * L) = T * b * L := by simp only [Nat.mul_assoc, Nat.mul_comm, Nat.mul_left_comm]
    _ = 151200 * (a * L) := by rw [e1, Nat.mul_assoc]
    _ = 151200 * (b * rm * U) := by rw [e2]
    _ = b * (151200 * rm * U) := by simp only [Nat.mul_assoc, Nat.mul_comm, Nat.mul_left_comm]
/-- the worst of a table: over, room, place -/
noncomputable def wsN (N : Nt) (w : Nat → Nat) (mo : Nat) (x : Nat → Nat) : Nat × Nat × Nat := pkN (onN N w mo x) (N 3) (2 * N 0 7)
theorem Nok.rm {N : Nt} (h : Nok N) : ∀ l, l < N 0 7 → 1 ≤ N 3 l ∧ N 3 l ≤ 100 := fun l hl => ⟨(h.2.2.1 l hl).2.2.2.1, (h.2.2.1 l hl).2.2.2.2.1⟩
theorem wsN_ok {N : Nt} (hN : Nok N) {w : Nat → Nat} (hw : Wok N w) {mo : Nat} {x : Nat → Nat} {c : Nat} (hx : ∀ i, i < 36 → x i ≤ c) : (wsN N w mo x).1 ≤ 36 * c * 151200 ∧ 1 ≤ (wsN N w mo x).2.1 ∧ (wsN N w mo x).2.1 ≤ 100 ∧ ((wsN N w mo x).2.2 = 99 ∨ (wsN N w mo x).2.2 < 2 * N 0 7) := pkN_ok (fun k hk => onN_le hN hw hx hk) hN.rm _ (Nat.le_refl _)
/-- the reference's worst -/
def WR (p : Nat × Nat × Nat) (s : ds_S) : Prop := (∃ U L, s.2 0 19 = lN U ∧ s.2 0 20 = lN L ∧ Red p.1 (151200 * p.2.1) U L) ∧ s.1 0 21 = (if p.2.2 = 99 then -1 else nI p.2.2)
theorem ev_findWorst {N : Nt} (hN : Nok N) {w x : Nat → Nat} (hw : Wok N w) {mo tb : Nat} {σ : ds_S} (hS : SM N w mo x σ) (htb : tb < 3) (hxb : ∀ i, i < 36 → x (36 * tb + i) ≤ 1000000) {K : ds_S → Prop} (hK : ∀ s, kM σ s → WR (wsN N w mo (fun i => x (36 * tb + i))) s → K s) : ds_EV mt_X9_findWorst Ym [.ref 0, .int (nI tb)] σ K := by
  have hn := hN.1.2
  have hm := hN.2.1
  refine e_X9_findWorst (nI tb) σ _ ?_
  generalize hQ : (fun r σ' => r = none ∧ K σ') = Q
  have hq : ∀ s, K s → Q none s := fun s h => by rw [← hQ]; exact ⟨rfl, h⟩
  clear hQ
  unfold w_X9_findWorst
  refine ev_findOn hN hw hS htb hxb fun s1 hk1 hO => ?_
  have bon : ∀ k, k < 2 * N 0 7 → onN N w mo (fun i => x (36 * tb + i)) k ≤ 36 * 1000000 * 151200 := fun k hk => onN_le hN hw hxb hk
  have ok := pkN_ok (T := onN N w mo (fun i => x (36 * tb + i))) (R := N 3) (B := 36 * 1000000 * 151200) (m := N 0 7) bon hN.rm
  generalize hT : onN N w mo (fun i => x (36 * tb + i)) = T at *
  have hT' : wsN N w mo (fun i => x (36 * tb + i)) = pkN T (N 3) (2 * N 0 7) := by unfold wsN; rw [hT]
  rw [hT'] at hK
  refine pk_loop (fun fu k s => w_X9_findWorst_22 fu (nI k) s Q) (fun k s => kM σ s ∧ OnR (N 0 7) T s ∧ WR (pkN T (N 3) k) s) (2 * N 0 7) 0 _ (by omega) ⟨((hk1.wl (by omega)).wl (by omega)).wi (by omega), fun k hk => ?_, ⟨0, 1, ?_, ?_, Nat.gcd_one_right 0, by decide, rfl⟩, ?_⟩ ?_ ?_
  · obtain ⟨a, b, p1, p2, p3⟩ := hO k hk
    refine ⟨a, b, ?_, ?_, p3⟩
    · show (ds_wl (ds_wl s1 0 19 0) 0 20 1).2 12 k = _
      rw [ds_wl_2, if_neg (by omega), ds_wl_2, if_neg (by omega)]; exact p1
    · show (ds_wl (ds_wl s1 0 19 0) 0 20 1).2 13 k = _
      rw [ds_wl_2, if_neg (by omega), ds_wl_2, if_neg (by omega)]; exact p2
  · show (ds_wl (ds_wl s1 0 19 0) 0 20 1).2 0 19 = _
    rw [ds_wl_2, if_neg (by omega), ds_wl_2, if_pos ⟨rfl, rfl⟩]; rfl
  · show (ds_wl (ds_wl s1 0 19 0) 0 20 1).2 0 20 = _
    rw [ds_wl_2, if_pos ⟨rfl, rfl⟩]; rfl
  · rw [ds_wi_1, if_pos ⟨rfl, rfl⟩]; rfl
  · rintro fu s ⟨hk, hO, hW⟩
    rw [w_X9_findWorst_22]
    have e7 : (2 : Int32) * s.1 0 7 = nI (2 * N 0 7) := by rw [(hS.k hk).1.2.1, show (2 : Int32) = nI 2 from rfl, pk_mul]
    exact pk_le (2 * N 0 7) (2 * N 0 7) (fun _ => hq _ (hK s hk hW)) (fun h => by omega) e7 rfl
  · rintro fu k s hk' ⟨hk, hO, ⟨U, L, u1, u2, u3⟩, u4⟩ hnext
    have e7 : (2 : Int32) * s.1 0 7 = nI (2 * N 0 7) := by rw [(hS.k hk).1.2.1, show (2 : Int32) = nI 2 from rfl, pk_mul]
    obtain ⟨a, b, qa, qb, hr⟩ := hO k hk'
    obtain ⟨b1, b2, b3, b4⟩ := ok k (by omega)
    have bT := bon k hk'
    have bR := hN.rm (k / 2) (by omega)
    have rl := red_le hr (by decide)
    have rl2 := red_le u3 (by omega)
    have hb0 := hr.2.1
    have hL0 := u3.2.1
    have eR : s.1 3 (k / 2) = nI (N 3 (k / 2)) := ((hS.k hk).2.1 (k / 2) (by omega)).2.2.1
    have ed : nI k / (2 : Int32) = nI (k / 2) := pk_div (d := 2) (by omega) (by decide) (by decide)
    have v20 : vp_in (nI k) 20 := vp_in_nI (by omega) (by decide)
    have v10 : vp_in (nI (k / 2)) 10 := vp_in_nI (by omega) (by decide)
    have mb : b * N 3 (k / 2) ≤ 151200 * 100 := Nat.mul_le_mul rl.1 bR.2
    have mb0 : 0 < b * N 3 (k / 2) := Nat.mul_pos hb0 (by omega)
    have gt : q_gt (lN a) (lN (b * N 3 (k / 2))) (lN U) (lN L) = if (pkN T (N 3) k).1 * N 3 (k / 2) < T k * (pkN T (N 3) k).2.1 then 1 else 0 := by
      unfold q_gt
      rw [pk_lT (by omega), pk_lT (by omega), pk_lT (by omega), pk_lT (by omega)]
      have := gt_iff (rm := N 3 (k / 2)) hr u3 (by omega)
      have e : ((U : Int) * ((b * N 3 (k / 2) : Nat) : Int) < (a : Int) * (L : Int)) ↔ (pkN T (N 3) k).1 * N 3 (k / 2) < T k * (pkN T (N 3) k).2.1 := by
        rw [← this]
        constructor
        · intro h; exact_mod_cast h
        · intro h; exact_mod_cast h
      simp only [e]
    have sc : pkN T (N 3) (k + 1) = if (pkN T (N 3) k).1 * N 3 (k / 2) < T k * (pkN T (N 3) k).2.1 then (T k, N 3 (k / 2), k) else pkN T (N 3) k := rfl
    have hred := red_gcd (u := a) (v := b * N 3 (k / 2)) mb0
    obtain ⟨l1, l2⟩ := q_low_red hred mb0 (by omega) (by omega)
    rw [w_X9_findWorst_22, ed, nI_clamp (n := k) (by omega), nI_clamp (n := k / 2) (by omega), qa, qb, eR, nI_l (by omega), lN_mul, u1, u2, gt, l1, l2, nI_1 k]
    refine pk_le (2 * N 0 7) k (fun h => by omega) (fun _ => ⟨v20, v10, v20, nn64 (by omega), ps64 mb0 (by omega), nn64 (by omega), ps64 hL0 (by omega), fun h => hnext s ⟨hk, hO, ?_⟩, fun h => ⟨v20, nn64 (by omega), ps64 mb0 (by omega), v20, nn64 (by omega), ps64 mb0 (by omega), hnext _ ⟨((hk.wl (by omega)).wl (by omega)).wi (by omega), fun j hj => ?_, ?_⟩⟩⟩) e7 rfl
    · have c : ¬ (pkN T (N 3) k).1 * N 3 (k / 2) < T k * (pkN T (N 3) k).2.1 := fun z => by rw [if_pos z] at h; exact absurd h (by decide)
      rw [sc, if_neg c]
      exact ⟨⟨U, L, u1, u2, u3⟩, u4⟩
    · obtain ⟨a', b', p1, p2, p3⟩ := hO j hj
      refine ⟨a', b', ?_, ?_, p3⟩
      · rw [ds_wi_2, ds_wl_2, if_neg (by omega), ds_wl_2, if_neg (by omega)]; exact p1
      · rw [ds_wi_2, ds_wl_2, if_neg (by omega), ds_wl_2, if_neg (by omega)]; exact p2
    · have c : (pkN T (N 3) k).1 * N 3 (k / 2) < T k * (pkN T (N 3) k).2.1 := by
        by_cases z : (pkN T (N 3) k).1 * N 3 (k / 2) < T k * (pkN T (N 3) k).2.1
        · exact z
        · rw [if_neg z] at h; exact absurd rfl h
      rw [sc, if_pos c]
      refine ⟨⟨_, _, ?_, ?_, red_room hr hred⟩, ?_⟩
      · rw [ds_wi_2, ds_wl_2, if_neg (by omega), ds_wl_2, if_pos ⟨rfl, rfl⟩]
      · rw [ds_wi_2, ds_wl_2, if_pos ⟨rfl, rfl⟩]
      · rw [ds_wi_1, if_pos ⟨rfl, rfl⟩, if_neg (by show ¬ k = 99; omega)]
