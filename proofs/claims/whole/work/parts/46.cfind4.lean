theorem cnt_up {dn : Nat → Bool} {b : Nat} (hb : dn b = false) : ∀ n, b < n → fa_cnt (fun x => if x = b then true else dn x) n = fa_cnt dn n + 1 := by
  have lo : ∀ n, n ≤ b → fa_cnt (fun x => if x = b then true else dn x) n = fa_cnt dn n := fun n hn => fa_cnt_cong fun k hk => if_neg (by omega)
  intro n
  induction n with
  | zero => intro h; omega
  | succ n ih =>
    intro h
    by_cases e : b = n
    · subst e
      rw [fa_cnt_yes (by simp), fa_cnt_no hb, lo b (Nat.le_refl _)]
    · have := ih (by omega)
      cases hn : dn n
      · rw [fa_cnt_no (by simp [Ne.symm e, hn]), fa_cnt_no hn, this]
      · rw [fa_cnt_yes (by simp [Ne.symm e, hn]), fa_cnt_yes hn, this]
theorem cnt_full {dn : Nat → Bool} : ∀ n, fa_cnt dn n = n → ∀ x, x < n → dn x = true := by
  intro n
  induction n with
  | zero => intro _ x hx; omega
  | succ n ih =>
    intro h x hx
    have hle := fa_cnt_le dn n
    cases hn : dn n with
    | false => rw [fa_cnt_no hn] at h; omega
    | true =>
      rw [fa_cnt_yes hn] at h
      by_cases e : x = n
      · rw [e]; exact hn
      · exact ih (by omega) x (by omega)
theorem cnt_none (n : Nat) : fa_cnt (fun _ => false) n = 0 := by
  induction n with
  | zero => rfl
  | succ n ih => rw [fa_cnt_no rfl, ih]
section CG
variable {n m t tw : Nat} {fa fb w : Nat → Nat} {th : Nat → Bool} {d f : Nat → Nat} {σ : ds_S}
/-- boxes in order of their sums -/
def orD (n : Nat) (d : Nat → Nat) (t r : Nat) (o : Nat → Nat) : Prop := (∀ j, j < r → o j < n ∧ d (o j) < 1000) ∧ (∀ i j, i < r → j < r → o i = o j → i = j) ∧ (∀ i j, i ≤ j → j < r → d (o i) ≤ d (o j)) ∧ (0 < r → o 0 = t)
/-- the ways to a target, known -/
def WOK (n m : Nat) (fa fb w : Nat → Nat) (th : Nat → Bool) (d : Nat → Nat) (t : Nat) (s : ds_S) : Prop := (∀ x, x < n → s.1 (26 + t) x = nI (d x)) ∧ nxR n fa fb w th d t m s ∧ ∃ r o, s.1 (20 + t) 2 = nI r ∧ r ≤ n ∧ 0 < r ∧ (∀ j, j < r → s.1 (32 + t) j = nI (o j)) ∧ orD n d t r o ∧ ∀ x, x < n → d x < 1000 → ∃ j, j < r ∧ o j = x
theorem ev_find (hG : Gok n m fa fb w) (hm : m ≤ 10) (htn : t < n) (hw : TW tw) (hd : isD n m fa fb w th t d) (hC : GC n m fa fb w tw σ) {v : Int32} (hv : ∀ l, l < m → q_bit v (nI l) = if th l = true then 1 else 0) {K : ds_S → Prop}
    (hK : ∀ s, kpT t σ s → WOK n m fa fb w th d t s → K s) : ds_EV mt_X7_find Yc [.ref (20 + t), .ref 1, .ref tw, .int v, .int (nI t)] σ K := by
  have hn := hG.1
  have ht : t < 6 := by omega
  refine e_X7_find (20 + t) tw v (nI t) σ _ ?_
  generalize hQ : (fun r σ' => r = none ∧ K σ') = Q
  have hq : ∀ s, K s → Q none s := fun s h => by rw [← hQ]; exact ⟨rfl, h⟩
  clear hQ
  obtain ⟨⟨y0, y1, y3, y4, y5⟩, ⟨z0, z1, z3, z4, z5⟩, -⟩ := ways_at t ht
  obtain ⟨k0, k1, k2, k3, k4, k5⟩ := ways_k t ht
  unfold w_X7_find
  rw [y0, z0]
  refine ⟨k0, ev_fill k1 (by rw [z0]; decide) ?_⟩
  rw [z0]
  refine ⟨k0, k1, vp_in_nI (by omega) (by decide), k0, ?_⟩
  rw [nI_clamp (n := t) (by omega)]
  have end1 : ∀ s, kpT t σ s → (∀ x, x < n → s.1 (26 + t) x = nI (d x)) → (∃ r o, s.1 (20 + t) 2 = nI r ∧ r ≤ n ∧ 0 < r ∧ (∀ j, j < r → s.1 (32 + t) j = nI (o j)) ∧ orD n d t r o ∧ ∀ x, x < n → d x < 1000 → ∃ j, j < r ∧ o j = x) → w_X7_find_110 (20 + t) tw v s Q := by
    intro s hs hfar ⟨r, o, q1, q2, q3, q4, q5, q6⟩
    unfold w_X7_find_110
    refine ⟨k0, ev_findNext hG hm ht hw hd (hC.kp hw hs) hv hfar fun s' hs' hR => hq _ (hK s' ?_ ?_)⟩
    · exact ⟨hs'.1.trans hs.1, fun c hc => (hs'.2 c (by omega) (by omega) (by omega)).trans (hs.2 c hc)⟩
    · refine ⟨fun x hx => ?_, hR, r, o, ?_, q2, q3, fun j hj => ?_, q5, q6⟩
      · rw [hs'.2 (26 + t) (by omega) (by omega) (by omega)]; exact hfar x hx
      · rw [hs'.2 (20 + t) (by omega) (by omega) (by omega)]; exact q1
      · rw [hs'.2 (32 + t) (by omega) (by omega) (by omega)]; exact q4 j hj
  generalize hs0 : ds_wi (ds_wi (ds_si σ (26 + t) fun k => if k < 6 then 1000 else σ.1 (26 + t) k) (26 + t) t 0) (20 + t) 2 0 = s0
  have kp0 : kpT t σ s0 := by
    rw [← hs0]
    exact (((kpT.refl t σ).si (by omega)).wi (by omega)).wi (by omega)
  have far0 : ∀ x, x < n → s0.1 (26 + t) x = nI (if x = t then 0 else 1000) := by
    intro x hx
    rw [← hs0, ds_wi_1, if_neg (by omega), ds_wi_1]
    by_cases e : x = t
    · rw [if_pos ⟨rfl, e⟩, if_pos e]; rfl
    · rw [if_neg (fun q => e q.2), if_neg e, ds_si_1, if_pos rfl, if_pos (by omega)]; rfl
  have rc0' : s0.1 (20 + t) 2 = nI 0 := by rw [← hs0, ds_wi_1, if_pos ⟨rfl, rfl⟩]; rfl
  have e10 : s0.1 1 0 = nI n := (hC.kp hw kp0).1
  clear hs0
  rw [e10]
  generalize hK60 : (fun v3_2 σ2 => w_X7_find_110 (20 + t) tw v3_2 σ2 Q) = K60
  have hk60 : ∀ s, w_X7_find_110 (20 + t) tw v s Q → K60 v s := fun s h => by rw [← hK60]; exact h
  clear hK60
  refine pk_loop (σ := Int32 × ds_S) (fun fu i s => w_X7_find_36 fu (20 + t) tw v s.1 (nI i) s.2 Q K60 K60) (fun i s => ∃ f dn o, kpT t σ s.2 ∧ (∀ x, x < n → s.2.1 (26 + t) x = nI (f x)) ∧ s.2.1 (20 + t) 2 = nI i ∧ (∀ j, j < i → s.2.1 (32 + t) j = nI (o j)) ∧ (∀ x, x < n → q_bit s.1 (nI x) = if dn x = true then 0 else 1) ∧ preD 1000 n m fa fb w th t f ∧ (∀ x, x < n → dn x = true → f x = d x) ∧ (∀ l, l < m → th l = true → (dn (fa l) = true → f (fb l) ≤ d (fa l) + w l) ∧ (dn (fb l) = true → f (fa l) ≤ d (fb l) + w l)) ∧ orD n d t i o ∧ (∀ x, x < n → dn x = true → ∃ j, j < i ∧ o j = x) ∧ (∀ j, j < i → dn (o j) = true) ∧ (∀ j x, j < i → x < n → dn x = false → d (o j) ≤ d x) ∧ fa_cnt dn n = i) n 0 (_, s0) (by omega) ?_ ?_ ?_
  · refine ⟨fun x => if x = t then 0 else 1000, fun _ => false, fun _ => 0, kp0, far0, rc0', fun j h => by omega, fun x hx => ?_, ⟨by simp, fun x _ => ?_, fun x _ hxt hlt => ?_⟩, fun x _ h => absurd h Bool.false_ne_true, fun l _ _ => ⟨fun h => absurd h Bool.false_ne_true, fun h => absurd h Bool.false_ne_true⟩, ⟨fun j h => by omega, fun i j h => by omega, fun i j _ h => by omega, fun h => by omega⟩, fun x _ h => absurd h Bool.false_ne_true, fun j h => by omega, fun j x h => by omega, ?_⟩
    · exact q_bit_all n (by omega) x hx
    · by_cases e : x = t <;> simp [e]
    · simp [hxt] at hlt
    · exact cnt_none n
  · rintro fu ⟨v5, s⟩ ⟨f, dn, o, hs, hfar, hrc, hor, hv5, hp, hdn, hln, hoD, hall, hod, hle, hc⟩
    show w_X7_find_36 (fu + 1) (20 + t) tw v v5 (nI n) s Q K60 K60
    rw [w_X7_find_36]
    have e1 : s.1 1 0 = nI n := (hC.kp hw hs).1
    have hfull := cnt_full n hc
    refine pk_le n n (fun _ => hk60 s (end1 s hs (fun x hx => ?_) ⟨n, o, hrc, Nat.le_refl _, by omega, hor, hoD, fun x hx _ => hall x hx (hfull x hx)⟩)) (fun h => by omega) e1 rfl
    rw [← hdn x hx (hfull x hx)]
    exact hfar x hx
  · rintro fu i ⟨v5, s⟩ hi ⟨f, dn, o, hs, hfar, hrc, hor, hv5, hp, hdn, hln, hoD, hall, hod, hle, hc⟩ hnext
    show w_X7_find_36 (fu + 1) (20 + t) tw v v5 (nI i) s Q K60 K60
    have hs' : kpT t σ s := hs
    have hfar' : ∀ x, x < n → s.1 (26 + t) x = nI (f x) := hfar
    have hv5' : ∀ x, x < n → q_bit v5 (nI x) = if dn x = true then 0 else 1 := hv5
    have hrc' : s.1 (20 + t) 2 = nI i := hrc
    have hor' : ∀ j, j < i → s.1 (32 + t) j = nI (o j) := hor
    rw [w_X7_find_36, y1, z1]
    have e1 : s.1 1 0 = nI n := (hC.kp hw hs).1
    have near := hd.near hG htn hp hdn hln
    refine pk_le n i (fun h => by omega) (fun _ => ⟨k0, ev_nearest hn ht e1 hfar' hp.2.1 hv5' (fun h0 => ⟨fun h => absurd rfl h, fun _ => hk60 s ?_⟩) (fun b hb hnb hfb hmin => ⟨fun _ => ?_, fun h => absurd h ?_⟩)⟩) e1 rfl
    · have far1 : ∀ x, x < n → dn x = false → 1000 ≤ d x := by
        intro x hx hnx
        rcases Nat.lt_or_ge (d x) 1000 with h1 | h1
        · obtain ⟨z, a1, a2, a3, a4⟩ := near (d x) x hx hnx rfl h1
          have := h0 z a1 a2
          omega
        · exact h1
      refine end1 s hs' (fun x hx => ?_) ⟨i, o, hrc', by omega, ?_, hor', hoD, fun x hx hx1 => ?_⟩
      · cases hdx : dn x with
        | true => rw [hfar' x hx, hdn x hx hdx]
        | false =>
          have h1 := far1 x hx hdx
          have h2 := hd.1.2.1 x hx
          have h3 := h0 x hx hdx
          have h4 := hp.2.1 x hx
          rw [hfar' x hx]
          congr 1
          omega
      · rcases Nat.eq_zero_or_pos i with e | e
        · exfalso
          have hdt : dn t = false := by
            cases hdt : dn t
            · rfl
            · obtain ⟨j, hj, _⟩ := hall t htn hdt
              omega
          have := far1 t htn hdt
          have := hd.1.1
          omega
        · exact e
      · cases hdx : dn x with
        | true => exact hall x hx hdx
        | false => have := far1 x hx hdx; omega
    · have hdb : d b ≤ f b := hd.le_pre hG (Nat.le_refl _) hp (f b) b hb rfl
      have hbd : f b = d b := by
        obtain ⟨z, a1, a2, a3, a4⟩ := near (d b) b hb hnb rfl (by omega)
        have := hmin z a1 a2
        omega
      have hbmin : ∀ y, y < n → dn y = false → d b ≤ d y := by
        intro y hy hny
        rcases Nat.lt_or_ge (d y) 1000 with h1 | h1
        · obtain ⟨z, a1, a2, a3, a4⟩ := near (d y) y hy hny rfl h1
          have := hmin z a1 a2
          omega
        · omega
      have vi : vp_in (nI i) 6 := vp_in_nI (by omega) (by decide)
      rw [hrc', nI_clamp (n := i) (by omega)]
      have r2 : (ds_wi s (32 + t) i (nI b)).1 (20 + t) 2 = nI i := by rw [ds_wi_1, if_neg (by omega)]; exact hrc'
      rw [r2, nI_1]
      have kp1 : kpT t σ (ds_wi (ds_wi s (32 + t) i (nI b)) (20 + t) 2 (nI (i + 1))) := (hs'.wi (by omega)).wi (by omega)
      refine ⟨k0, k0, k2, vi, k0, k0, k0, ev_come hG hm ht htn hw hd (hC.kp hw kp1) hv hb (fun x hx => ?_) hp hbd fun r g hr hpg hgf hgl => ?_⟩
      · rw [ds_wi_1, if_neg (by omega), ds_wi_1, if_neg (by omega)]; exact hfar' x hx
      · refine hnext (_, _) ⟨g, (fun x => if x = b then true else dn x), (fun j => if j = i then b else o j), kp1.si (by omega), fun x hx => ?_, ?_, fun j hj => ?_, q_bit_less (by omega) hb hv5', hpg, fun x hx hx2 => ?_, fun l hl htl => ?_, ⟨fun j hj => ?_, fun a c ha hc2 hac => ?_, fun a c hac hc2 => ?_, fun _ => ?_⟩, fun x hx hx2 => ?_, fun j hj => ?_, fun j x hj hx hx2 => ?_, ?_⟩
        · show (ds_si _ (26 + t) r).1 (26 + t) x = _
          rw [ds_si_1, if_pos rfl]; exact hr x hx
        · show (ds_si _ (26 + t) r).1 (20 + t) 2 = _
          rw [ds_si_1, if_neg (by omega), ds_wi_1, if_pos ⟨rfl, rfl⟩]
        · show (ds_si _ (26 + t) r).1 (32 + t) j = nI (if j = i then b else o j)
          rw [ds_si_1, if_neg (by omega), ds_wi_1, if_neg (by omega), ds_wi_1]
          by_cases e : j = i
          · rw [if_pos ⟨rfl, e⟩, if_pos e]
          · rw [if_neg (fun q => e q.2), if_neg e]; exact hor' j (by omega)
        · have q1 := hd.le_pre hG (Nat.le_refl _) hpg (g x) x hx rfl
          have q2 := hgf x
          by_cases e : x = b
          · subst e; omega
          · simp [e] at hx2
            have := hdn x hx hx2
            omega
        · have q1 := hgf (fa l)
          have q2 := hgf (fb l)
          have q3 := hgl l hl htl
          have q4 := hln l hl htl
          refine ⟨fun h => ?_, fun h => ?_⟩
          · by_cases e : fa l = b
            · have := q3.1 e; rw [e]; exact this
            · simp [e] at h; have := q4.1 h; omega
          · by_cases e : fb l = b
            · have := q3.2 e; rw [e]; exact this
            · simp [e] at h; have := q4.2 h; omega
        · show (if j = i then b else o j) < n ∧ d (if j = i then b else o j) < 1000
          by_cases e : j = i
          · rw [if_pos e]; exact ⟨hb, by omega⟩
          · rw [if_neg e]; exact hoD.1 j (by omega)
        · have hac' : (if a = i then b else o a) = (if c = i then b else o c) := hac
          by_cases e1 : a = i
          · by_cases e2 : c = i
            · omega
            · rw [if_pos e1, if_neg e2] at hac'
              have := hod c (by omega)
              rw [← hac', hnb] at this
              exact absurd this (by decide)
          · by_cases e2 : c = i
            · rw [if_neg e1, if_pos e2] at hac'
              have := hod a (by omega)
              rw [hac', hnb] at this
              exact absurd this (by decide)
            · rw [if_neg e1, if_neg e2] at hac'
              exact hoD.2.1 a c (by omega) (by omega) hac'
        · show d (if a = i then b else o a) ≤ d (if c = i then b else o c)
          by_cases e2 : c = i
          · rw [if_pos e2]
            by_cases e1 : a = i
            · rw [if_pos e1]; exact Nat.le_refl _
            · rw [if_neg e1]; exact hle a b (by omega) hb hnb
          · rw [if_neg e2, if_neg (by omega)]
            exact hoD.2.2.1 a c hac (by omega)
        · show (if 0 = i then b else o 0) = t
          by_cases e : 0 = i
          · rw [if_pos e]
            have hdt : dn t = false := by
              cases hdt : dn t
              · rfl
              · obtain ⟨j, hj, _⟩ := hall t htn hdt
                omega
            have h1 := hbmin t htn hdt
            rw [hd.1.1] at h1
            by_cases hbt : b = t
            · exact hbt
            · obtain ⟨y, hy, h2, h3⟩ := hd.low hG hb hbt (by omega)
              omega
          · rw [if_neg e]; exact hoD.2.2.2 (by omega)
        · by_cases e : x = b
          · exact ⟨i, by omega, by show (if i = i then b else o i) = x; rw [if_pos rfl]; exact e.symm⟩
          · simp [e] at hx2
            obtain ⟨j, hj, hjx⟩ := hall x hx hx2
            exact ⟨j, by omega, by show (if j = i then b else o j) = x; rw [if_neg (by omega)]; exact hjx⟩
        · by_cases e : j = i
          · simp [e]
          · simp [e]
            right
            exact hod j (by omega)
        · have hx3 : x ≠ b ∧ dn x = false := by
            by_cases e : x = b
            · simp [e] at hx2
            · simp [e] at hx2; exact ⟨e, hx2⟩
          show d (if j = i then b else o j) ≤ d x
          by_cases e : j = i
          · rw [if_pos e]; exact hbmin x hx hx3.2
          · rw [if_neg e]; exact hle j x (by omega) hx hx3.2
        · rw [cnt_up hnb n hb, hc]
    · intro e
      have := congrArg Int32.toInt e
      rw [nI_toInt (by omega)] at this
      have e2 : (-1 : Int32).toInt = -1 := by decide
      omega
end CG
