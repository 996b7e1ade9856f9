theorem ov_scale {fa fb tl F G : Nat → Nat} {m c W k : Nat} (h : ∀ l, l < m → F l * c = G l * W) (hk : k < 2 * m) : ov fa fb tl F k * c = ov fa fb tl G k * W := by
  unfold ov
  by_cases q : tl (k / 2) = (if k % 2 = 0 then fa (k / 2) else fb (k / 2))
  · rw [if_pos q, if_pos q]; exact h _ (by omega)
  · rw [if_neg q, if_neg q]; simp
theorem kM.wl {σ s : ds_S} {c k : Nat} {x : Int64} (h : kM σ s) (hc : (10 ≤ c ∧ c ≤ 13) ∨ (c = 0 ∧ (k = 16 ∨ k = 19 ∨ k = 20))) : kM σ (ds_wl s c k x) := ⟨h.1, fun c' k' h1 h2 => by rw [ds_wl_2, if_neg (by omega)]; exact h.2 c' k' h1 h2⟩
theorem kM.wi {σ s : ds_S} {c k : Nat} {x : Int32} (h : kM σ s) (hc : c = 0 ∧ k = 21) : kM σ (ds_wi s c k x) := ⟨fun c' k' h1 h2 => by rw [ds_wi_1, if_neg (by omega)]; exact h.1 c' k' h1 h2, h.2⟩
theorem q_bx_yes {n z : Nat} (hz : z < n) (hn : n < 2 ^ 31) : ¬ q_bx (nI z) (nI n) = 0 := by
  rw [q_bx_rng hn, show q_rng (nI z) 0 (nI n) = 1 from q_rng_in (lo := 0) (Nat.zero_le _) hz hn]
  decide
theorem q_in_yes {z : Nat} (hz : z ≤ 1) : ¬ q_in (nI z).toInt64 0 1 = 0 := by
  rw [q_in_0_1, show q_rng (nI z) 0 2 = 1 from q_rng_in (lo := 0) (hi := 2) (Nat.zero_le _) (by omega) (by decide)]
  decide
/-- the share of a letter from i to j on line k / 2 the way k % 2 -/
noncomputable def shN (N : Nt) (w : Nat → Nat) (mo i j k : Nat) : Nat := ov (N 1) (N 2) (tlN N w mo j) (fN N w mo j (fun b => if b = i then 1 else 0)) k
theorem shN_le {N : Nt} {w : Nat → Nat} (hN : Nok N) (hw : Wok N w) {mo i j k : Nat} (hk : k < 2 * N 0 7) : shN N w mo i j k ≤ 907200 := by
  have hn := hN.1.2
  refine Nat.le_trans (ov_le k) (Nat.le_trans (fN_le hN hw (by omega)) ?_)
  have : sumN (fun b => if b = i then 1 else 0) (N 0 0) ≤ 6 * 1 := sum6 hn fun b _ => by show (if _ then 1 else 0) ≤ 1; split <;> omega
  omega
theorem pt_t0 {n m t : Nat} {fa fb w : Nat → Nat} {th : Nat → Bool} {d : Nat → Nat} (hG : Gok n m fa fb w) (ht : t < n) (hd : isD n m fa fb w th t d) : pt (tlD fa fb w th d) t m = 0 := by
  have hn := hG.1
  unfold pt
  refine sumN_zero fun l hl => if_neg fun z => ?_
  have sm := tlD_some (th := th) (d := d) hG hl (by omega)
  have g := hG.2 l hl
  rw [z, hd.1.1] at sm
  omega
theorem ev_shareM {N : Nt} (hN : Nok N) {w x : Nat → Nat} (hw : Wok N w) {mo : Nat} {σ : ds_S} (hS : SM N w mo x σ) {i j l y p : Nat} (hi : i < N 0 0) (hj : j < N 0 0) (hl : l < N 0 7) (hy : y ≤ 1) (hp : p ≤ 1) {K : Int64 → ds_S → Prop} (hK : ∀ s a b, kM σ s → Red (shN N w mo i j (2 * l + y)) 151200 a b → K (lN (if p = 0 then a else b)) s) : ds_EL mt_X9_share Ym [.ref 0, .int (nI i), .int (nI j), .int (nI l), .int (nI y), .int (nI p)] σ K := by
  have hn := hN.1.2
  have hm := hN.2.1
  have bb : ∀ z, z < N 0 0 → ¬ q_bx (nI z) (σ.1 0 0) = 0 := fun z hz => by rw [hS.1.1]; exact q_bx_yes hz (by omega)
  have bl : ¬ q_bx (nI l) (σ.1 0 7) = 0 := by rw [hS.1.2.1]; exact q_bx_yes hl (by omega)
  have b2 : ∀ z, z ≤ 1 → ¬ q_in (nI z).toInt64 0 1 = 0 := fun z hz => q_in_yes hz
  refine e_X9_share (nI i) (nI j) (nI l) (nI y) (nI p) σ _ ⟨fun h => absurd h (bb i hi), fun _ => ⟨fun h => absurd h (bb j hj), fun _ => ⟨fun _ => ⟨fun h => absurd h (b2 y hy), fun _ => ⟨fun _ => ?_, fun h => absurd h (b2 p hp)⟩⟩, fun h => absurd h bl⟩⟩⟩
  generalize hQ : (fun r σ' => ∃ x, r = some (Value.long x) ∧ K x σ') = Q
  have hq : ∀ x s, K x s → Q (some (.long x)) s := fun x s h => by rw [← hQ]; exact ⟨x, rfl, h⟩
  clear hQ
  have hG := hN.gok hw
  have hd := dN_is hN hw mo hj
  refine ev_findFar hG hm hj hd (hS.gm hN) fun r hr => ?_
  have km0 : kM σ (ds_si σ 9 r) := (kM.refl _).si9
  have e9 : ∀ x, x < N 0 0 → (ds_si σ 9 r).1 9 x = nI (fm (dN N w mo j) x) := hr
  generalize ds_si σ 9 r = s0 at km0 e9 ⊢
  refine pk_loop (fun fu b s => w_X9_share_62 fu (nI i) (nI j) (nI l) (nI y) (nI p) (nI b) s Q) (fun b s => kM σ s ∧ s.1 = s0.1 ∧ ∀ z, z < b → s.2 10 z = lN (if z = i ∧ i ≠ j then 1 else 0)) 6 0 s0 (by omega) ⟨km0, rfl, fun z h => by omega⟩ ?_ ?_
  · rintro fu s ⟨hk, h1, h10⟩
    rw [w_X9_share_62]
    refine pk_le 6 6 (fun _ => ?_) (fun h => by omega)
    refine ev_goDown hG hm hd ((hS.k hk).gm hN) (fun x hx => by rw [h1]; exact e9 x hx) (x0 := fun z => if z = i ∧ i ≠ j then 1 else 0) (fun b hb => h10 b (by omega)) (fun b _ => by show (if _ then 1 else 0) ≤ _; split <;> omega) fun s' F X hk' hF hW hfl => ?_
    have ix : (2 : Int32) * nI l + nI y = nI (2 * l + y) := by rw [show (2 : Int32) = nI 2 from rfl, pk_mul, nI_add]
    have hFG : FG (N 0 0) (N 0 7) (dN N w mo j) (tlD (N 1) (N 2) w (thN N mo) (dN N w mo j)) (hdD (N 1) (N 2) w (thN N mo) (dN N w mo j)) := fgN (mo := mo) (t := j) hN hw
    have bW := pt_prod_le hFG
    have pW : 0 < prodN (fun b => max 1 (pt (tlD (N 1) (N 2) w (thN N mo) (dN N w mo j)) b (N 0 7))) (N 0 0) := pt_prod_pos
    have bF : F ((2 * l + y) / 2) ≤ 6 * 151200 := by
      refine Nat.le_trans (isF_le hFG hF (by omega)) (Nat.mul_le_mul (sum6 (c := 1) hn fun b _ => ?_) bW)
      show (if _ then 1 else 0) ≤ 1
      split <;> omega
    have bov := ov_le (fa := N 1) (fb := N 2) (tl := tlD (N 1) (N 2) w (thN N mo) (dN N w mo j)) (F := F) (2 * l + y)
    have sc := fN_scale (mo := mo) (t := j) (x0 := fun b => if b = i then 1 else 0) hN hw (fun b hb hpb => by
      by_cases q : b = i
      · have : i ≠ j := fun e => hpb (by rw [q, e]; exact pt_t0 hG hj hd)
        simp [q, this]
      · simp [q]) hF
    have sc2 := ov_scale (fa := N 1) (fb := N 2) (tl := tlN N w mo j) (k := 2 * l + y) sc (by omega)
    have sc3 : ov (N 1) (N 2) (tlD (N 1) (N 2) w (thN N mo) (dN N w mo j)) F (2 * l + y) * 151200 = shN N w mo i j (2 * l + y) * prodN (fun b => max 1 (pt (tlD (N 1) (N 2) w (thN N mo) (dN N w mo j)) b (N 0 7))) (N 0 0) := sc2
    rw [ix, nI_clamp (n := 2 * l + y) (by omega), hfl _ (by omega), hW]
    generalize prodN (fun b => max 1 (pt (tlD (N 1) (N 2) w (thN N mo) (dN N w mo j)) b (N 0 7))) (N 0 0) = W at *
    generalize ov (N 1) (N 2) (tlD (N 1) (N 2) w (thN N mo) (dN N w mo j)) F (2 * l + y) = u at *
    have hred := red_gcd (u := u) (v := W) pW
    have hred2 : Red (shN N w mo i j (2 * l + y)) 151200 (u / Nat.gcd u W) (W / Nat.gcd u W) := by
      refine ⟨hred.1, hred.2.1, ?_⟩
      apply Nat.eq_of_mul_eq_mul_right pW
      have e1 := hred.2.2
      generalize u / Nat.gcd u W = a at *
      generalize W / Nat.gcd u W = b at *
      calc shN N w mo i j (2 * l + y) * b * W = (shN N w mo i j (2 * l + y) * W) * b := Nat.mul_right_comm _ _ _
        _ = u * 151200 * b := by rw [sc3]
        _ = 151200 * (u * b) := by rw [Nat.mul_comm u, Nat.mul_assoc]
        _ = 151200 * a * W := by rw [e1, Nat.mul_comm W, Nat.mul_assoc]
    have ql := q_low_red hred pW (by omega) (by omega)
    refine ⟨vp_in_nI (by omega) (by decide), nn64 (by omega), ps64 pW (by omega), hq _ _ ?_⟩
    have fin := hK s' _ _ (hk.trans hk'.k) hred2
    rcases (show p = 0 ∨ p = 1 by omega) with rfl | rfl
    · rw [show (nI 0) = (0 : Int32) from rfl, ql.1]; exact fin
    · rw [show (nI 1) = (1 : Int32) from rfl, ql.2]; exact fin
  · rintro fu b s hb ⟨hk, h1, h10⟩ hnext
    rw [w_X9_share_62, nI_clamp (n := b) (by omega), nI_1]
    have vb : vp_in (nI b) 6 := vp_in_nI hb (by decide)
    have st : ∀ v : Nat, v = (if b = i ∧ i ≠ j then 1 else 0) → w_X9_share_62 fu (nI i) (nI j) (nI l) (nI y) (nI p) (nI (b + 1)) (ds_wl s 10 b (lN v)) Q := by
      intro v hv
      refine hnext _ ⟨hk.wl (by omega), h1, fun z hz => ?_⟩
      rw [ds_wl_2]
      by_cases q : z = b
      · rw [if_pos ⟨rfl, q⟩, hv, q]
      · rw [if_neg (fun r => q r.2)]; exact h10 z (by omega)
    exact pk_le 6 b (fun h => by omega) (fun _ => pk_ne b i (fun h => ⟨vb, st 0 (by rw [if_neg (fun z => h z.1)])⟩) (fun h => pk_eq i j (fun h2 => ⟨vb, st 0 (by rw [if_neg (fun z => z.2 h2)])⟩) (fun h2 => ⟨vb, st 1 (by rw [if_pos ⟨h, h2⟩])⟩)))
/-- a fraction more -/
theorem red_add {S f a b W F a' b' : Nat} (hr : Red S 151200 a b) (hW : 0 < W) (hf : F * 151200 = f * W) (h' : Red (a * (W / Nat.gcd b W) + F * (b / Nat.gcd b W)) (b / Nat.gcd b W * W) a' b') : Red (S + f) 151200 a' b' := by
  obtain ⟨c, p, q⟩ := hr
  have g0 : 0 < Nat.gcd b W := Nat.gcd_pos_of_pos_right _ hW
  obtain ⟨b1, hb1⟩ := Nat.gcd_dvd_left b W
  obtain ⟨w1, hw1⟩ := Nat.gcd_dvd_right b W
  have eb : b / Nat.gcd b W = b1 := Nat.div_eq_of_eq_mul_right g0 hb1
  have ew : W / Nat.gcd b W = w1 := Nat.div_eq_of_eq_mul_right g0 hw1
  rw [eb, ew] at h'
  generalize Nat.gcd b W = g at *
  obtain ⟨c', p', q'⟩ := h'
  refine ⟨c', p', ?_⟩
  have hb0 : 0 < b1 := by
    rcases Nat.eq_zero_or_pos b1 with e | e
    · rw [e, Nat.mul_zero] at hb1; omega
    · exact e
  have key : (a * w1 + F * b1) * 151200 = (b1 * W) * (S + f) := by
    have e1 : a * w1 * 151200 = S * b1 * W := by
      calc a * w1 * 151200 = 151200 * a * w1 := by rw [Nat.mul_right_comm, Nat.mul_comm a]
        _ = S * b * w1 := by rw [q]
        _ = S * (g * b1) * w1 := by rw [hb1]
        _ = S * b1 * (g * w1) := by simp only [Nat.mul_assoc, Nat.mul_comm, Nat.mul_left_comm]
        _ = S * b1 * W := by rw [← hw1]
    have e2 : F * b1 * 151200 = f * b1 * W := by
      calc F * b1 * 151200 = F * 151200 * b1 := Nat.mul_right_comm _ _ _
        _ = f * W * b1 := by rw [hf]
        _ = f * b1 * W := Nat.mul_right_comm _ _ _
    rw [Nat.add_mul, e1, e2, ← Nat.add_mul, ← Nat.add_mul, Nat.mul_comm, Nat.mul_comm b1, Nat.mul_assoc, Nat.mul_comm b1]
  apply Nat.eq_of_mul_eq_mul_left (Nat.mul_pos hb0 hW)
  calc b1 * W * ((S + f) * b') = (b1 * W) * (S + f) * b' := by rw [← Nat.mul_assoc (b1 * W)]
    _ = (a * w1 + F * b1) * 151200 * b' := by rw [key]
    _ = 151200 * ((a * w1 + F * b1) * b') := by rw [Nat.mul_comm _ 151200, Nat.mul_assoc]
    _ = 151200 * (b1 * W * a') := by rw [q']
    _ = b1 * W * (151200 * a') := by rw [Nat.mul_left_comm]
/-- a row of fractions in lowest terms, over 151200 -/
def OnR (m : Nat) (T : Nat → Nat) (s : ds_S) : Prop := ∀ k, k < 2 * m → ∃ a b, s.2 12 k = lN a ∧ s.2 13 k = lN b ∧ Red (T k) 151200 a b
theorem ev_findOn {N : Nt} (hN : Nok N) {w x : Nat → Nat} (hw : Wok N w) {mo tb : Nat} {σ : ds_S} (hS : SM N w mo x σ) (htb : tb < 3) (hxb : ∀ i, i < 36 → x (36 * tb + i) ≤ 1000000) {K : ds_S → Prop} (hK : ∀ s, kM σ s → OnR (N 0 7) (onN N w mo (fun i => x (36 * tb + i))) s → K s) : ds_EV mt_X9_findOn Ym [.ref 0, .int (nI tb)] σ K := by
  have hn := hN.1.2
  have hm := hN.2.1
  have hG := hN.gok hw
  refine e_X9_findOn (nI tb) σ _ ?_
  generalize hQ : (fun r σ' => r = none ∧ K σ') = Q
  have hq : ∀ s, K s → Q none s := fun s h => by rw [← hQ]; exact ⟨rfl, h⟩
  clear hQ
  unfold w_X9_findOn
  generalize hK1 : (fun (v1_1 : Int32) σ1 => ∃ n, w_X9_findOn_30 n v1_1 (0 : Int32) σ1 Q) = K1
  refine pk_loop (fun fu i s => w_X9_findOn_2 fu (nI tb) (nI i) s Q K1) (fun i s => kM σ s ∧ ∀ k, k < i → s.2 12 k = lN 0 ∧ s.2 13 k = lN 1) 20 0 σ (by omega) ⟨kM.refl _, fun k h => by omega⟩ ?_ ?_
  · rintro fu s ⟨hk, h0⟩
    rw [w_X9_findOn_2]
    refine pk_le 20 20 (fun _ => ?_) (fun h => by omega)
    rw [← hK1]
    refine pk_loop (fun fu t s => w_X9_findOn_30 fu (nI tb) (nI t) s Q) (fun t s => kM σ s ∧ OnR (N 0 7) (fun k => sumN (fun t => ov (N 1) (N 2) (tlN N w mo t) (fN N w mo t (fun b => x (36 * tb + (6 * b + t)))) k) t) s) (N 0 0) 0 s (by omega) ⟨hk, fun k hk2 => ⟨0, 1, (h0 k (by omega)).1, (h0 k (by omega)).2, Nat.gcd_one_right 0, by decide, rfl⟩⟩ ?_ ?_
    · rintro fu s ⟨hk, hO⟩
      rw [w_X9_findOn_30]
      exact pk_le (N 0 0) (N 0 0) (fun _ => hq _ (hK s hk hO)) (fun h => by omega) (hS.k hk).1.1 rfl
    · rintro fu t s ht ⟨hk, hO⟩ hnext
      rw [w_X9_findOn_30]
      have hd := dN_is hN hw mo ht
      refine pk_le (N 0 0) t (fun h => by omega) (fun _ => ev_findFar hG hm ht hd ((hS.k hk).gm hN) fun r hr => ?_) (hS.k hk).1.1 rfl
      have km0 : kM σ (ds_si s 9 r) := hk.si9
      have e9 : ∀ x, x < N 0 0 → (ds_si s 9 r).1 9 x = nI (fm (dN N w mo t) x) := hr
      have hO0 : OnR (N 0 7) (fun k => sumN (fun t => ov (N 1) (N 2) (tlN N w mo t) (fN N w mo t (fun b => x (36 * tb + (6 * b + t)))) k) t) (ds_si s 9 r) := hO
      generalize ds_si s 9 r = s0 at km0 e9 hO0 ⊢
      generalize hK2 : (fun (v1_2 v2_2 : Int32) (σ2 : ds_S) => ds_EV mt_X9_goDown Ym [.ref 0] σ2 (fun σ3 => ∃ n, w_X9_findOn_77 n v1_2 v2_2 (0 : Int32) σ3 Q (fun v1_4 v2_4 σ4 => w_X9_findOn_30 fu v1_4 (v2_4 + (1 : Int32)) σ4 Q))) = K2
      refine pk_loop (fun fu b s => w_X9_findOn_45 fu (nI tb) (nI t) (nI b) s Q K2) (fun b s => kM σ s ∧ s.1 = s0.1 ∧ OnR (N 0 7) (fun k => sumN (fun t => ov (N 1) (N 2) (tlN N w mo t) (fN N w mo t (fun b => x (36 * tb + (6 * b + t)))) k) t) s ∧ ∀ z, z < b → s.2 10 z = lN (x (36 * tb + (6 * z + t)))) 6 0 s0 (by omega) ⟨km0, rfl, hO0, fun z h => by omega⟩ ?_ ?_
      · rintro fu2 s1 ⟨hk1, h1, hO1, h10⟩
        rw [w_X9_findOn_45]
        refine pk_le 6 6 (fun _ => ?_) (fun h => by omega)
        rw [← hK2]
        refine ev_goDown hG hm hd ((hS.k hk1).gm hN) (fun x hx => by rw [h1]; exact e9 x hx) (x0 := fun z => x (36 * tb + (6 * z + t))) (fun b hb => h10 b (by omega)) (fun b hb => hxb _ (by omega)) fun s2 F X hk2 hF hW hfl => ?_
        have hFG : FG (N 0 0) (N 0 7) (dN N w mo t) (tlD (N 1) (N 2) w (thN N mo) (dN N w mo t)) (hdD (N 1) (N 2) w (thN N mo) (dN N w mo t)) := fgN (mo := mo) (t := t) hN hw
        have bW := pt_prod_le hFG
        have pW : 0 < prodN (fun b => max 1 (pt (tlD (N 1) (N 2) w (thN N mo) (dN N w mo t)) b (N 0 7))) (N 0 0) := pt_prod_pos
        have bF : ∀ k, k < 2 * N 0 7 → ov (N 1) (N 2) (tlD (N 1) (N 2) w (thN N mo) (dN N w mo t)) F k ≤ 6000000 * 151200 := by
          intro k hk
          refine Nat.le_trans (ov_le k) (Nat.le_trans (isF_le hFG hF (by omega)) (Nat.mul_le_mul (sum6 (c := 1000000) hn fun b hb => hxb _ (by omega)) bW))
        have sc := fN_scale (mo := mo) (t := t) (x0 := fun z => x (36 * tb + (6 * z + t))) hN hw (fun b hb hpb => rfl) hF
        have sc2 : ∀ k, k < 2 * N 0 7 → ov (N 1) (N 2) (tlD (N 1) (N 2) w (thN N mo) (dN N w mo t)) F k * 151200 = ov (N 1) (N 2) (tlN N w mo t) (fN N w mo t (fun b => x (36 * tb + (6 * b + t)))) k * prodN (fun b => max 1 (pt (tlD (N 1) (N 2) w (thN N mo) (dN N w mo t)) b (N 0 7))) (N 0 0) := fun k hk => ov_scale (fa := N 1) (fb := N 2) (tl := tlN N w mo t) (k := k) sc hk
        generalize prodN (fun b => max 1 (pt (tlD (N 1) (N 2) w (thN N mo) (dN N w mo t)) b (N 0 7))) (N 0 0) = W at *
        generalize ov (N 1) (N 2) (tlD (N 1) (N 2) w (thN N mo) (dN N w mo t)) F = u at *
        have hk3 : kM σ s2 := hk1.trans hk2.k
        have hO2 : OnR (N 0 7) (fun k => sumN (fun t => ov (N 1) (N 2) (tlN N w mo t) (fN N w mo t (fun b => x (36 * tb + (6 * b + t)))) k) t) s2 := by
          intro k hk'
          obtain ⟨a, b, p, q, r⟩ := hO1 k hk'
          exact ⟨a, b, (hk2.2 12 k (by decide) (by decide) (by omega)).trans p, (hk2.2 13 k (by decide) (by decide) (by omega)).trans q, r⟩
        have bS : ∀ k, k < 2 * N 0 7 → sumN (fun t => ov (N 1) (N 2) (tlN N w mo t) (fN N w mo t (fun b => x (36 * tb + (6 * b + t)))) k) t ≤ 36 * 1000000 * 151200 := fun k hk' => by
          have h1 : sumN (fun t => ov (N 1) (N 2) (tlN N w mo t) (fN N w mo t (fun b => x (36 * tb + (6 * b + t)))) k) t ≤ onN N w mo (fun i => x (36 * tb + i)) k := sumN_mono (by omega)
          have h2 := onN_le (mo := mo) hN hw (x := fun i => x (36 * tb + i)) hxb hk'
          omega
        refine pk_loop (fun fu k s => w_X9_findOn_77 fu (nI tb) (nI t) (nI k) s Q _) (fun k s => kM σ s ∧ s.2 0 16 = lN W ∧ (∀ j, j < 2 * N 0 7 → s.2 11 j = lN (u j)) ∧ (∀ j, j < k → ∃ a b, s.2 12 j = lN a ∧ s.2 13 j = lN b ∧ Red (sumN (fun t => ov (N 1) (N 2) (tlN N w mo t) (fN N w mo t (fun b => x (36 * tb + (6 * b + t)))) j) (t + 1)) 151200 a b) ∧ ∀ j, k ≤ j → j < 2 * N 0 7 → ∃ a b, s.2 12 j = lN a ∧ s.2 13 j = lN b ∧ Red (sumN (fun t => ov (N 1) (N 2) (tlN N w mo t) (fN N w mo t (fun b => x (36 * tb + (6 * b + t)))) j) t) 151200 a b) (2 * N 0 7) 0 s2 (by omega) ⟨hk3, hW, hfl, fun j h => by omega, fun j _ h => hO2 j h⟩ ?_ ?_
        · rintro fu3 s3 ⟨g1, g2, g3, g4, g5⟩
          rw [w_X9_findOn_77]
          have e7 : (2 : Int32) * s3.1 0 7 = nI (2 * N 0 7) := by rw [(hS.k g1).1.2.1, show (2 : Int32) = nI 2 from rfl, pk_mul]
          refine pk_le (2 * N 0 7) (2 * N 0 7) (fun _ => ?_) (fun h => by omega) e7 rfl
          show w_X9_findOn_30 fu (nI tb) (nI t + 1) s3 Q
          rw [nI_1]
          exact hnext s3 ⟨g1, g4⟩
        · rintro fu3 k s3 hk' ⟨g1, g2, g3, g4, g5⟩ hnext2
          obtain ⟨a, b, qa, qb, hr⟩ := g5 k (Nat.le_refl _) hk'
          have rl := red_le hr (by decide)
          have b0 := hr.2.1
          have e7 : (2 : Int32) * s3.1 0 7 = nI (2 * N 0 7) := by rw [(hS.k g1).1.2.1, show (2 : Int32) = nI 2 from rfl, pk_mul]
          have vk : vp_in (nI k) 20 := vp_in_nI (by omega) (by decide)
          have hS1 := bS k hk'
          have hu := bF k hk'
          have gg : 0 < Nat.gcd b W := Nat.gcd_pos_of_pos_right _ pW
          have gle : Nat.gcd b W ≤ b := Nat.gcd_le_left _ b0
          have q1 : b / Nat.gcd b W ≤ 151200 := Nat.le_trans (Nat.div_le_self _ _) rl.1
          have q2 : W / Nat.gcd b W ≤ 151200 := Nat.le_trans (Nat.div_le_self _ _) bW
          have q3 : 0 < b / Nat.gcd b W := Nat.div_pos gle gg
          have eg : q_gcd (lN b) (lN W) = lN (Nat.gcd b W) := q_gcd_nI (by omega) (by omega)
          have ng : ¬ lN (Nat.gcd b W) = 0 := fun z => by have := (pk_lNe0 (by omega)).mp z; omega
          have m1 : a * (W / Nat.gcd b W) ≤ 36 * 1000000 * 151200 * 151200 := Nat.mul_le_mul (by omega) q2
          have m2 : u k * (b / Nat.gcd b W) ≤ 6000000 * 151200 * 151200 := Nat.mul_le_mul hu q1
          have m3 : b / Nat.gcd b W * W ≤ 151200 * 151200 := Nat.mul_le_mul q1 bW
          have m4 : 0 < b / Nat.gcd b W * W := Nat.mul_pos q3 pW
          have sck := sc2 k hk'
          rw [w_X9_findOn_77, nI_clamp (n := k) (by omega), qa, qb, g2, g3 k hk', eg, pk_lDiv (by omega) gg (by omega), pk_lDiv (by omega) gg (by omega), lN_mul, lN_mul, lN_mul, lN_add, nI_1 k]
          have hred := red_gcd (u := a * (W / Nat.gcd b W) + u k * (b / Nat.gcd b W)) (v := b / Nat.gcd b W * W) m4
          obtain ⟨l1, l2⟩ := q_low_red hred m4 (by omega) (by omega)
          rw [l1, l2]
          refine pk_le (2 * N 0 7) k (fun h => by omega) (fun _ => ⟨vk, nn64 (by omega), nn64 (by omega), vk, ng, vk, ng, vk, vk, ng, nn64 (by omega), ps64 m4 (by omega), vk, nn64 (by omega), ps64 m4 (by omega), vk, hnext2 _ ⟨(g1.wl (by omega)).wl (by omega), ?_, fun j hj => ?_, fun j hj => ?_, fun j hj hj2 => ?_⟩⟩) e7 rfl
          · rw [ds_wl_2, if_neg (by omega), ds_wl_2, if_neg (by omega)]; exact g2
          · rw [ds_wl_2, if_neg (by omega), ds_wl_2, if_neg (by omega)]; exact g3 j hj
          · by_cases e : j = k
            · subst e
              refine ⟨_, _, ?_, ?_, red_add hr pW sck hred⟩
              · rw [ds_wl_2, if_neg (by omega), ds_wl_2, if_pos ⟨rfl, rfl⟩]
              · rw [ds_wl_2, if_pos ⟨rfl, rfl⟩]
            · obtain ⟨a', b', p1, p2, p3⟩ := g4 j (by omega)
              refine ⟨a', b', ?_, ?_, p3⟩
              · rw [ds_wl_2, if_neg (by omega), ds_wl_2, if_neg (by omega)]; exact p1
              · rw [ds_wl_2, if_neg (by omega), ds_wl_2, if_neg (by omega)]; exact p2
          · obtain ⟨a', b', p1, p2, p3⟩ := g5 j (by omega) hj2
            refine ⟨a', b', ?_, ?_, p3⟩
            · rw [ds_wl_2, if_neg (by omega), ds_wl_2, if_neg (by omega)]; exact p1
            · rw [ds_wl_2, if_neg (by omega), ds_wl_2, if_neg (by omega)]; exact p2
      · rintro fu2 b s1 hb ⟨hk1, h1, hO1, h10⟩ hnext2
        have ix : (36 : Int32) * nI tb + 6 * nI b + nI t = nI (36 * tb + (6 * b + t)) := by
          rw [show (36 : Int32) = nI 36 from rfl, show (6 : Int32) = nI 6 from rfl, pk_mul, pk_mul, nI_add, nI_add, Nat.add_assoc]
        have bx := hxb (6 * b + t) (by omega)
        rw [w_X9_findOn_45, ix, nI_clamp (n := 36 * tb + (6 * b + t)) (by omega), nI_clamp (n := b) (by omega), (hS.k hk1).2.2 _ (by omega), nI_l (by omega), nI_1]
        refine pk_le 6 b (fun h => by omega) (fun _ => ⟨vp_in_nI (by omega) (by decide), vp_in_nI hb (by decide), hnext2 _ ⟨hk1.wl (by omega), h1, fun k hk' => ?_, fun z hz => ?_⟩⟩)
        · obtain ⟨a', b', p1, p2, p3⟩ := hO1 k hk'
          refine ⟨a', b', ?_, ?_, p3⟩
          · rw [ds_wl_2, if_neg (by omega)]; exact p1
          · rw [ds_wl_2, if_neg (by omega)]; exact p2
        · rw [ds_wl_2]
          by_cases q : z = b
          · rw [if_pos ⟨rfl, q⟩, q]
          · rw [if_neg (fun r => q r.2)]; exact h10 z (by omega)
  · rintro fu i s hi ⟨hk, h0⟩ hnext
    rw [w_X9_findOn_2, nI_clamp (n := i) (by omega), nI_1]
    have vi : vp_in (nI i) 20 := vp_in_nI hi (by decide)
    refine pk_le 20 i (fun h => by omega) (fun _ => ⟨vi, vi, hnext _ ⟨(hk.wl (by omega)).wl (by omega), fun k hk2 => ?_⟩⟩)
    by_cases q : k = i
    · rw [ds_wl_2, if_neg (by omega), ds_wl_2, if_pos ⟨rfl, q⟩, ds_wl_2, if_pos ⟨rfl, q⟩]
      exact ⟨rfl, rfl⟩
    · rw [ds_wl_2, if_neg (by omega), ds_wl_2, if_neg (by omega), ds_wl_2, if_neg (by omega), ds_wl_2, if_neg (by omega)]
      exact h0 k (by omega)
