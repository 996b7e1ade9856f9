/-! the reference's seeking -/
def kK (σ s : ds_S) : Prop := ∀ c k, c ≠ 4 → c ≠ 8 → c ≠ 9 → c ≠ 14 → c ≠ 15 → ¬ (c = 0 ∧ (k = 21 ∨ k = 24 ∨ k = 25)) → s.1 c k = σ.1 c k
theorem kK.refl (σ : ds_S) : kK σ σ := fun _ _ _ _ _ _ _ _ => rfl
theorem kK.wi {σ s : ds_S} {c k : Nat} {x : Int32} (h : kK σ s) (hc : c = 4 ∨ c = 8 ∨ c = 9 ∨ c = 14 ∨ c = 15) : kK σ (ds_wi s c k x) := fun c' k' h1 h2 h3 h4 h5 h6 => by rw [ds_wi_1, if_neg (by omega)]; exact h c' k' h1 h2 h3 h4 h5 h6
theorem kK.wl {σ s : ds_S} {c k : Nat} {x : Int64} (h : kK σ s) : kK σ (ds_wl s c k x) := h
theorem kK.ka {σ s s' : ds_S} (h : kK σ s) (h2 : kMA s s') : kK σ s' := fun c k h1 h3 h4 h5 h6 h7 => (h2.1 c k h4 h7).trans (h c k h1 h3 h4 h5 h6 h7)
theorem kK.sm {N : Nt} {w x w' : Nat → Nat} {σ s : ds_S} (hk : kK σ s) (h : SM N w' 99 x σ) (h4 : ∀ l, l < N 0 7 → s.1 4 l = nI (w l)) : SM N w 99 x s := by
  obtain ⟨⟨a, b, c, d⟩, e, f⟩ := h
  refine ⟨⟨?_, ?_, ?_, ?_⟩, fun l hl => ?_, fun i hi => ?_⟩
  · rw [hk 0 0 (by omega) (by omega) (by omega) (by omega) (by omega) (by omega)]; exact a
  · rw [hk 0 7 (by omega) (by omega) (by omega) (by omega) (by omega) (by omega)]; exact b
  · rw [hk 0 9 (by omega) (by omega) (by omega) (by omega) (by omega) (by omega)]; exact c
  · rw [hk 0 13 (by omega) (by omega) (by omega) (by omega) (by omega) (by omega)]; exact d
  · obtain ⟨q1, q2, q3, q4, q6⟩ := e l hl
    rw [hk 1 l (by omega) (by omega) (by omega) (by omega) (by omega) (by omega), hk 2 l (by omega) (by omega) (by omega) (by omega) (by omega) (by omega), hk 3 l (by omega) (by omega) (by omega) (by omega) (by omega) (by omega), hk 6 l (by omega) (by omega) (by omega) (by omega) (by omega) (by omega)]
    exact ⟨q1, q2, q3, h4 l hl, q6⟩
  · rw [hk 7 i (by omega) (by omega) (by omega) (by omega) (by omega) (by omega)]; exact f i hi
theorem cntL_comm (f g : Nat → Nat) (k : Nat) : cntL f g k = cntL g f k := by
  induction k with
  | zero => rfl
  | succ k ih =>
    rw [cntL, cntL, ih]
    by_cases e : f k = g k
    · rw [if_pos e, if_pos e.symm]
    · rw [if_neg e, if_neg (fun z => e z.symm)]
theorem ev_changes {m : Nat} (hm : m ≤ 10) {σ : ds_S} (h7 : σ.1 0 7 = nI m) {w u : Nat → Nat} (h4 : ∀ l, l < m → σ.1 4 l = nI (w l) ∧ w l ≤ 20) (h14 : ∀ l, l < m → σ.1 14 l = nI (u l) ∧ u l ≤ 20) : ds_EI mt_X9_changes Ym [.ref 0] σ (fun r s => r = nI (cntL u w m) ∧ s = σ) := by
  refine e_X9_changes σ _ ?_
  generalize hQ : (fun r s => ∃ x, r = some (Value.int x) ∧ x = nI (cntL u w m) ∧ s = σ) = Q
  have hq : Q (some (.int (nI (cntL u w m)))) σ := by rw [← hQ]; exact ⟨_, rfl, rfl, rfl⟩
  clear hQ
  unfold w_X9_changes
  refine pk_loop (σ := Int32) (fun fu l v => w_X9_changes_4 fu v (nI l) σ Q) (fun l v => v = nI (cntL u w l)) m 0 0 (by omega) rfl ?_ ?_
  · rintro fu v rfl
    rw [w_X9_changes_4]
    exact pk_le m m (fun _ => hq) (fun h => by omega) h7 rfl
  · rintro fu l v hl rfl hnext
    obtain ⟨a1, a2⟩ := h4 l hl
    obtain ⟨b1, b2⟩ := h14 l hl
    have vl : vp_in (nI l) 10 := vp_in_nI (by omega) (by decide)
    rw [w_X9_changes_4, nI_clamp (n := l) (by omega), a1, b1, show (0 : Int32) = nI 0 from rfl, nI_add, nI_1, nI_1]
    refine pk_le m l (fun h => by omega) (fun _ => ⟨vl, vl, pk_ne (w l) (u l) (fun h => hnext _ ?_) (fun h => hnext _ ?_)⟩) h7 rfl
    · rw [cntL, if_neg (fun z => h z.symm)]
    · rw [cntL, if_pos h.symm]
theorem ev_isLesser {m : Nat} (hm : m ≤ 10) {σ : ds_S} (h7 : σ.1 0 7 = nI m) {w u : Nat → Nat} (h4 : ∀ l, l < m → σ.1 4 l = nI (w l) ∧ w l ≤ 20) (h8 : ∀ l, l < m → σ.1 8 l = nI (u l) ∧ u l ≤ 20) {K : Int32 → ds_S → Prop} (hK0 : ¬ lexL m w u → K 0 σ) (hK1 : lexL m w u → K 1 σ) : ds_EI mt_X9_isLesserRow Ym [.ref 0] σ K := by
  refine e_X9_isLesserRow σ _ ?_
  generalize hQ : (fun r s => ∃ x, r = some (Value.int x) ∧ K x s) = Q
  have hq : ∀ x, K x σ → Q (some (.int x)) σ := fun x h => by rw [← hQ]; exact ⟨x, rfl, h⟩
  clear hQ
  unfold w_X9_isLesserRow
  refine pk_loop (σ := Unit) (fun fu l _ => w_X9_isLesserRow_2 fu (nI l) σ Q) (fun l _ => ∀ j, j < l → w j = u j) m 0 () (by omega) (fun j h => by omega) ?_ ?_
  · rintro fu - h
    show w_X9_isLesserRow_2 (fu + 1) (nI m) σ Q
    rw [w_X9_isLesserRow_2]
    refine pk_le m m (fun _ => hq _ (hK0 ?_)) (fun h => by omega) h7 rfl
    rintro ⟨l, hl, _, h2⟩
    have := h l hl
    omega
  · rintro fu l - hl h hnext
    obtain ⟨a1, a2⟩ := h4 l hl
    obtain ⟨b1, b2⟩ := h8 l hl
    have vl : vp_in (nI l) 10 := vp_in_nI (by omega) (by decide)
    show w_X9_isLesserRow_2 (fu + 1) (nI l) σ Q
    rw [w_X9_isLesserRow_2, nI_clamp (n := l) (by omega), a1, b1, nI_1]
    refine pk_le m l (fun h => by omega) (fun _ => ⟨vl, vl, pk_eq (w l) (u l) (fun e => hnext () fun j hj => ?_) (fun e => ⟨vl, vl, pk_le (u l) (w l) (fun z => hq _ (hK0 ?_)) (fun z => hq _ (hK1 ⟨l, hl, h, z⟩))⟩)⟩) h7 rfl
    · by_cases q : j = l
      · rw [q]; exact e
      · exact h j (by omega)
    · rintro ⟨l', hl', h1, h2⟩
      rcases Nat.lt_trichotomy l' l with c | c | c
      · have := h l' c; omega
      · rw [c] at h2; omega
      · exact e (h1 l c)
theorem wr_zero {N : Nt} {B : Nat} : ∀ (j i : Nat), wr N B j i 0 (N 4) = N 4 := by
  intro j
  induction j with
  | zero => intro i; rfl
  | succ j ih =>
    intro i
    rw [wr, Nat.zero_div, Nat.zero_mod]
    have : (fun l => if l = frN N i then pvI N i 0 else N 4 l) = N 4 := by
      funext l
      by_cases e : l = frN N i
      · rw [if_pos e, e]; rfl
      · rw [if_neg e]
    rw [this]
    exact ih (i + 1)
/-- the picks: cell 4 becomes the row of number n -/
theorem pick_M {N : Nt} (hN : Nok N) {σ : ds_S} {sp : Nat} (hsp1 : 1 ≤ sp) (hsp : sp ≤ 2) {tr : Nat → Nat} (htr : Cand N sp tr) (h4 : ∀ l, l < N 0 7 → σ.1 4 l = nI (tr l)) (h14 : ∀ l, l < N 0 7 → σ.1 14 l = nI (N 4 l)) (h15 : ∀ i, i < fcN N → σ.1 15 i = nI (frN N i)) {n : Nat} (hn : n < 1000) {v2 v4 v5 v6 : Int32} {Q : Option Value → ds_S → Prop} {K : Int32 → Int32 → Int32 → Int32 → Int32 → Int32 → ds_S → Prop}
    (hK : ∀ r, (∀ l, l < N 0 7 → r l = nI (wr N (sp + 1) (fcN N) 0 n (N 4) l)) → K (nI sp) v2 (nI (fcN N)) v4 v5 v6 (ds_si σ 4 r)) : ∃ f, w_X9_seek_143 f (nI sp) v2 (nI (fcN N)) v4 v5 v6 (nI n) (0 : Int32) σ Q K := by
  have hm := hN.2.1
  have c5 := fcN_le N
  have hbase := wr_base (n := n) hsp1 htr
  generalize hw : wr N (sp + 1) (fcN N) 0 n (N 4) = w at *
  refine pk_loop (σ := Int32 × ds_S) (fun fu i u => w_X9_seek_143 fu (nI sp) v2 (nI (fcN N)) v4 v5 v6 u.1 (nI i) u.2 Q K) (fun i u => ∃ rest tr r, u.1 = nI rest ∧ rest < 1000 ∧ u.2 = ds_si σ 4 r ∧ (∀ l, l < N 0 7 → r l = nI (tr l)) ∧ ∀ j, i + j = fcN N → wr N (sp + 1) j i rest tr = w) (fcN N) 0 (nI n, σ) (by omega) ⟨n, tr, σ.1 4, rfl, hn, (ds_si_self _ _).symm, h4, fun j hj => by rw [show j = fcN N by omega]; exact hbase⟩ ?_ ?_
  · rintro fu ⟨v7, s⟩ ⟨rest, tr', r, -, -, e3, e4, e5⟩
    have e3' : s = ds_si σ 4 r := e3
    show w_X9_seek_143 (fu + 1) (nI sp) v2 (nI (fcN N)) v4 v5 v6 v7 (nI (fcN N)) s Q K
    rw [w_X9_seek_143, e3']
    refine pk_le (fcN N) (fcN N) (fun _ => hK r fun l hl => ?_) (fun h => by omega)
    have : tr' = w := e5 0 (by omega)
    rw [e4 l hl, this]
  · rintro fu i ⟨v7, s⟩ hi ⟨rest, tr', r, e1, e2, e3, e4, e5⟩ hnext
    have e1' : v7 = nI rest := e1
    have e3' : s = ds_si σ 4 r := e3
    subst e1' e3'
    show w_X9_seek_143 (fu + 1) (nI sp) v2 (nI (fcN N)) v4 v5 v6 (nI rest) (nI i) (ds_si σ 4 r) Q K
    have hf := frN_lt hi
    have h4' := hN.w4 _ hf
    have a15 : (ds_si σ 4 r).1 15 i = nI (frN N i) := h15 i hi
    have a14 : (ds_si σ 4 r).1 14 (frN N i) = nI (N 4 (frN N i)) := h14 _ hf
    have hml := Nat.mod_lt rest (show 0 < sp + 1 by omega)
    have hdl : rest / (sp + 1) ≤ rest := Nat.div_le_self _ _
    have v10 : vp_in (nI (frN N i)) 10 := vp_in_nI (by omega) (by decide)
    have nz : ¬ nI (sp + 1) = 0 := nI_ne0 (by omega) (by omega)
    have b190 : ∀ x, x = pvI N i (rest % (sp + 1)) → w_X9_seek_190 (nI sp) v2 (nI (fcN N)) v4 v5 v6 (nI rest) (nI i) (nI x) (nI (frN N i)) (ds_si σ 4 r) Q (fun v1_1 v2_1 v3_1 v4_1 v5_1 v6_1 v7_1 v8_1 σ1 => w_X9_seek_143 fu v1_1 v2_1 v3_1 v4_1 v5_1 v6_1 v7_1 v8_1 σ1 Q K) := by
      intro x hx
      unfold w_X9_seek_190
      rw [nI_1 sp, nI_clamp (n := frN N i) (by omega), ds_wi_si, pk_div (by omega) (by omega) (by omega), nI_1 i]
      refine ⟨v10, nz, hnext (_, _) ⟨rest / (sp + 1), (fun l => if l = frN N i then pvI N i (rest % (sp + 1)) else tr' l), _, rfl, by omega, rfl, fun l hl => ?_, fun j hj => ?_⟩⟩
      · rw [upd_nI e4 l hl, hx]
      · have := e5 (j + 1) (by omega)
        rw [wr] at this
        exact this
    rw [w_X9_seek_143, nI_1 sp, nI_clamp (n := i) (by omega), a15, nI_clamp (n := frN N i) (by omega), a14, pk_rem (by omega) (by omega) (by omega)]
    refine pk_le (fcN N) i (fun h => by omega) (fun _ => ⟨nz, vp_in_nI (by omega) (by decide), pk_ne (rest % (sp + 1)) 0 (fun h => b190 _ ?_) (fun h => ⟨vp_in_nI (by omega) (by decide), v10, b190 _ ?_⟩)⟩)
    · unfold pvI; rw [if_neg h]
    · unfold pvI; rw [if_pos h]
