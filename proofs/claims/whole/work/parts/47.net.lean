/-! the net's own sums: chosen once, for weights w and a line more away -/
def thN (N : Nt) (mo l : Nat) : Bool := decide (N 6 l = 0 ∧ l ≠ mo)
theorem thN_iff {N : Nt} {mo l : Nat} : thN N mo l = true ↔ N 6 l = 0 ∧ l ≠ mo := decide_eq_true_iff
def moC (mo : Nat) : Int32 := if mo < 10 then nI mo else -1
def moM (mo : Nat) : Int32 := if mo < 10 then nI mo else -6
def Wok (N : Nt) (w : Nat → Nat) : Prop := ∀ l, l < N 0 7 → 1 ≤ w l ∧ w l ≤ 20
theorem Nok.w4 {N : Nt} (h : Nok N) : Wok N (N 4) := fun l hl => ⟨(h.2.2.1 l hl).2.2.2.2.2.1, (h.2.2.1 l hl).2.2.2.2.2.2.1⟩
theorem Nok.gok {N : Nt} {w : Nat → Nat} (h : Nok N) (hw : Wok N w) : Gok (N 0 0) (N 0 7) (N 1) (N 2) w := ⟨h.1.2, fun l hl => ⟨(h.2.2.1 l hl).1, (h.2.2.1 l hl).2.1, (h.2.2.1 l hl).2.2.1, (hw l hl).1, (hw l hl).2⟩⟩
noncomputable def dN (N : Nt) (w : Nat → Nat) (mo t : Nat) : Nat → Nat := Classical.epsilon (fun d => isD (N 0 0) (N 0 7) (N 1) (N 2) w (thN N mo) t d)
theorem dN_is {N : Nt} {w : Nat → Nat} (h : Nok N) (hw : Wok N w) {t : Nat} (mo : Nat) (ht : t < N 0 0) : isD (N 0 0) (N 0 7) (N 1) (N 2) w (thN N mo) t (dN N w mo t) := Classical.epsilon_spec (exD (th := thN N mo) (h.gok hw) ht)
/-- NEXT of a box, where it goes, how many -/
noncomputable def tlN (N : Nt) (w : Nat → Nat) (mo t l : Nat) : Nat := tlD (N 1) (N 2) w (thN N mo) (dN N w mo t) l
noncomputable def hdN (N : Nt) (w : Nat → Nat) (mo t l : Nat) : Nat := hdD (N 1) (N 2) w (thN N mo) (dN N w mo t) l
/-- the lines that are there, as bits -/
theorem there_bits {N : Nt} (h : Nok N) {mo : Nat} : ∀ l, l < N 0 7 → q_bit (q_lt (moC mo) (nI (N 0 7)) (nI (bitsOf (N 6) (N 0 7)))) (nI l) = if thN N mo l = true then 1 else 0 := by
  intro l hl
  have hm := h.2.1
  have s6 : ∀ l, l < N 0 7 → N 6 l ≤ 1 := fun l hl => (h.2.2.1 l hl).2.2.2.2.2.2.2.2
  have b := bitm hm s6
  have e6 : q_bit (nI (bitsOf (N 6) (N 0 7)) ^^^ (-1 : Int32)) (nI l) = nI (1 - N 6 l) := by rw [q_bit_cpl _ b l (by omega), bitsOf_at s6 hl]
  have e7 : q_bit (((1 : Int32) <<< (nI (N 0 7) &&& 31)) - (1 : Int32)) (nI l) = 1 := q_bit_all _ hm l hl
  have a6 := s6 l hl
  unfold q_lt moC
  by_cases c : mo < 10
  · rw [if_pos c, if_neg (fun e => ?_), q_bit_and, q_bit_and, e6, e7, q_bit_not mo c l (by omega)]
    · by_cases e : l = mo
      · have : ¬ thN N mo l = true := fun q => (thN_iff.mp q).2 e
        rw [if_pos e, if_neg this]
        rcases (show N 6 l = 0 ∨ N 6 l = 1 by omega) with q | q <;> rw [q] <;> rfl
      · rw [if_neg e]
        rcases (show N 6 l = 0 ∨ N 6 l = 1 by omega) with q | q
        · rw [if_pos (thN_iff.mpr ⟨q, e⟩), q]; rfl
        · rw [if_neg (fun z => by have := (thN_iff.mp z).1; omega), q]; rfl
    · have := congrArg Int32.toInt e
      rw [nI_toInt (by omega)] at this
      have e2 : (-1 : Int32).toInt = -1 := by decide
      omega
  · rw [if_neg c, if_pos rfl, q_bit_and, e6, e7]
    rcases (show N 6 l = 0 ∨ N 6 l = 1 by omega) with q | q
    · rw [if_pos (thN_iff.mpr ⟨q, by omega⟩), q]; rfl
    · rw [if_neg (fun z => by have := (thN_iff.mp z).1; omega), q]; rfl
theorem q_th_bits {N : Nt} {mo l : Nat} (hl : l < 10) (h6 : N 6 l ≤ 1) : q_th (nI (N 6 l)) (nI l) (moM mo) = if thN N mo l = true then 1 else 0 := by
  unfold q_th moM
  have e0 : nI (N 6 l) = 0 ↔ N 6 l = 0 := (nI01 h6).1
  have e1 : nI l ≠ (if mo < 10 then nI mo else -6) ↔ l ≠ mo := by
    by_cases c : mo < 10
    · rw [if_pos c, Ne, nI_eq (by omega) (by omega)]
    · rw [if_neg c]
      refine ⟨fun _ => by omega, fun _ e => ?_⟩
      have := congrArg Int32.toInt e
      rw [nI_toInt (by omega)] at this
      have e2 : (-6 : Int32).toInt = -6 := by decide
      omega
  by_cases c : N 6 l = 0 ∧ l ≠ mo
  · rw [if_pos ⟨e0.mpr c.1, e1.mpr c.2⟩, if_pos (thN_iff.mpr c)]
  · rw [if_neg (fun q => c ⟨e0.mp q.1, e1.mp q.2⟩), if_neg (fun q => c (thN_iff.mp q))]
/-- the reference's state as its ways read it: weights w, a line more away, loads x -/
def SM (N : Nt) (w : Nat → Nat) (mo : Nat) (x : Nat → Nat) (σ : ds_S) : Prop := (σ.1 0 0 = nI (N 0 0) ∧ σ.1 0 7 = nI (N 0 7) ∧ σ.1 0 9 = nI (N 0 9) ∧ σ.1 0 13 = moM mo) ∧ (∀ l, l < N 0 7 → σ.1 1 l = nI (N 1 l) ∧ σ.1 2 l = nI (N 2 l) ∧ σ.1 3 l = nI (N 3 l) ∧ σ.1 4 l = nI (w l) ∧ σ.1 6 l = nI (N 6 l)) ∧ ∀ i, i < 108 → σ.1 7 i = nI (x i)
theorem RepM.sm {N : Nt} {σ : ds_S} (h : RepM N σ) : SM N (N 4) 99 (N 7) σ := by
  obtain ⟨m0, m7, ml, mld, m9, mS, mm, msk⟩ := h
  refine ⟨⟨m0, m7, m9, mm⟩, fun l hl => ?_, mld⟩
  obtain ⟨a, b, c, d, e, f⟩ := ml l hl
  exact ⟨a, b, c, d, f⟩
theorem SM.gm {N : Nt} {w x : Nat → Nat} {mo : Nat} {σ : ds_S} (hN : Nok N) (h : SM N w mo x σ) : GM (N 0 0) (N 0 7) (N 1) (N 2) w (thN N mo) σ := by
  obtain ⟨⟨a, b, c, d⟩, e, f⟩ := h
  refine ⟨a, b, fun l hl => ?_⟩
  obtain ⟨p, q, r, s, t⟩ := e l hl
  refine ⟨p, q, s, ?_⟩
  rw [t, d]
  have := hN.2.1
  exact q_th_bits (by omega) (hN.2.2.1 l hl).2.2.2.2.2.2.2.2
/-- what the reference's ways and flows change: nothing else -/
def kM (σ σ' : ds_S) : Prop := (∀ c k, c ≠ 9 → ¬ (c = 0 ∧ k = 21) → σ'.1 c k = σ.1 c k) ∧ ∀ c k, (c < 10 ∨ 13 < c) → ¬ (c = 0 ∧ (k = 16 ∨ k = 19 ∨ k = 20)) → σ'.2 c k = σ.2 c k
theorem kM.refl (σ : ds_S) : kM σ σ := ⟨fun _ _ _ _ => rfl, fun _ _ _ _ => rfl⟩
theorem kM.trans {a b c : ds_S} (h : kM a b) (h2 : kM b c) : kM a c := ⟨fun x k h3 h4 => (h2.1 x k h3 h4).trans (h.1 x k h3 h4), fun x k h3 h4 => (h2.2 x k h3 h4).trans (h.2 x k h3 h4)⟩
theorem kM.si9 {σ s : ds_S} {r : Nat → Int32} (h : kM σ s) : kM σ (ds_si s 9 r) := ⟨fun c k h1 h2 => by rw [ds_si_1, if_neg h1]; exact h.1 c k h1 h2, h.2⟩
theorem SM.k {N : Nt} {w x : Nat → Nat} {mo : Nat} {σ s : ds_S} (h : SM N w mo x σ) (hk : kM σ s) : SM N w mo x s := by
  obtain ⟨⟨a, b, c, d⟩, e, f⟩ := h
  refine ⟨⟨?_, ?_, ?_, ?_⟩, fun l hl => ?_, fun i hi => ?_⟩
  · rw [hk.1 0 0 (by omega) (by omega)]; exact a
  · rw [hk.1 0 7 (by omega) (by omega)]; exact b
  · rw [hk.1 0 9 (by omega) (by omega)]; exact c
  · rw [hk.1 0 13 (by omega) (by omega)]; exact d
  · rw [hk.1 1 l (by omega) (by omega), hk.1 2 l (by omega) (by omega), hk.1 3 l (by omega) (by omega), hk.1 4 l (by omega) (by omega), hk.1 6 l (by omega) (by omega)]; exact e l hl
  · rw [hk.1 7 i (by omega) (by omega)]; exact f i hi
theorem RepM.k {N : Nt} {σ s : ds_S} (h : RepM N σ) (hk : kM σ s) : RepM N s := by
  obtain ⟨m0, m7, ml, mld, m9, mS, mm, msk⟩ := h
  refine ⟨?_, ?_, fun l hl => ?_, fun i hi => ?_, ?_, ?_, ?_, fun hs => ?_⟩
  · rw [hk.1 0 0 (by omega) (by omega)]; exact m0
  · rw [hk.1 0 7 (by omega) (by omega)]; exact m7
  · rw [hk.1 1 l (by omega) (by omega), hk.1 2 l (by omega) (by omega), hk.1 3 l (by omega) (by omega), hk.1 4 l (by omega) (by omega), hk.1 5 l (by omega) (by omega), hk.1 6 l (by omega) (by omega)]; exact ml l hl
  · rw [hk.1 7 i (by omega) (by omega)]; exact mld i hi
  · rw [hk.1 0 9 (by omega) (by omega)]; exact m9
  · rw [hk.1 0 10 (by omega) (by omega)]; exact mS
  · rw [hk.1 0 13 (by omega) (by omega)]; exact mm
  · obtain ⟨a, b, c⟩ := msk hs
    refine ⟨fun l hl => ?_, ?_, ?_⟩
    · rw [hk.1 8 l (by omega) (by omega)]; exact a l hl
    · rw [hk.2 0 28 (by omega) (by omega)]; exact b
    · rw [hk.2 0 29 (by omega) (by omega)]; exact c
/-- what the class's ways and flows change: nothing else -/
def kC (σ σ' : ds_S) : Prop := (∀ c, (c < 11 ∨ c = 12 ∨ (14 ≤ c ∧ c < 19) ∨ 56 ≤ c) → σ'.1 c = σ.1 c) ∧ ∀ c, c ≠ 9 → c ≠ 10 → c ≠ 11 → c ≠ 13 → c ≠ 19 → σ'.2 c = σ.2 c
theorem kC.refl (σ : ds_S) : kC σ σ := ⟨fun _ _ => rfl, fun _ _ _ _ _ _ => rfl⟩
theorem kC.trans {a b c : ds_S} (h : kC a b) (h2 : kC b c) : kC a c := ⟨fun x h3 => (h2.1 x h3).trans (h.1 x h3), fun x h3 h4 h5 h6 h7 => (h2.2 x h3 h4 h5 h6 h7).trans (h.2 x h3 h4 h5 h6 h7)⟩
theorem RepC.k {N : Nt} {σ s : ds_S} (h : RepC N σ) (hk : kC σ s) : RepC N s := by
  obtain ⟨c0, c1, cl, c6, c7, cld, c12, c14, csk⟩ := h
  refine ⟨?_, ?_, fun l hl => ?_, ?_, ?_, fun t i ht hi => ?_, ?_, ?_, fun hs => ?_⟩
  · rw [hk.1 1 (by omega)]; exact c0
  · rw [hk.1 1 (by omega)]; exact c1
  · rw [hk.1 61 (by omega), hk.1 62 (by omega), hk.1 63 (by omega), hk.1 64 (by omega)]; exact cl l hl
  · rw [hk.1 1 (by omega)]; exact c6
  · rw [hk.1 1 (by omega)]; exact c7
  · rw [hk.1 (3 + t) (by omega)]; exact cld t i ht hi
  · rw [hk.1 12 (by omega)]; exact c12
  · rw [hk.1 14 (by omega)]; exact c14
  · obtain ⟨a, b, o, r, c, d, e⟩ := csk hs
    refine ⟨fun l hl => ?_, ?_, o, r, ?_, ?_, e⟩
    · rw [hk.1 15 (by omega)]; exact a l hl
    · rw [hk.1 14 (by omega)]; exact b
    · rw [hk.2 16 (by omega) (by omega) (by omega) (by omega) (by omega)]; exact c
    · rw [hk.1 16 (by omega)]; exact d
/-- what the class's ways and flows read of the net -/
def RC (N : Nt) (σ : ds_S) : Prop := σ.1 1 0 = nI (N 0 0) ∧ σ.1 1 1 = nI (N 0 7) ∧ (∀ l, l < N 0 7 → σ.1 61 l = nI (N 1 l) ∧ σ.1 62 l = nI (N 2 l) ∧ σ.1 63 l = nI (N 3 l) ∧ σ.1 64 l = nI (N 4 l)) ∧ σ.1 1 6 = nI (bitsOf (N 5) (N 0 7)) ∧ σ.1 1 7 = nI (bitsOf (N 6) (N 0 7)) ∧ (∀ t i, t < 3 → i < 36 → σ.1 (3 + t) i = nI (N 7 (36 * t + i))) ∧ σ.1 12 2 = nI (N 0 9)
theorem RepC.rc {N : Nt} {σ : ds_S} (h : RepC N σ) : RC N σ := by
  obtain ⟨c0, c1, cl, c6, c7, cld, c12, c14, csk⟩ := h
  exact ⟨c0, c1, cl, c6, c7, cld, c12⟩
theorem RC.of {N : Nt} {σ s : ds_S} (h : RC N σ) (hk : ∀ c, c = 1 ∨ (3 ≤ c ∧ c ≤ 5) ∨ c = 12 ∨ (61 ≤ c ∧ c ≤ 64) → s.1 c = σ.1 c) : RC N s := by
  obtain ⟨c0, c1, cl, c6, c7, cld, c12⟩ := h
  refine ⟨?_, ?_, fun l hl => ?_, ?_, ?_, fun t i ht hi => ?_, ?_⟩
  · rw [hk 1 (by omega)]; exact c0
  · rw [hk 1 (by omega)]; exact c1
  · rw [hk 61 (by omega), hk 62 (by omega), hk 63 (by omega), hk 64 (by omega)]; exact cl l hl
  · rw [hk 1 (by omega)]; exact c6
  · rw [hk 1 (by omega)]; exact c7
  · rw [hk (3 + t) (by omega)]; exact cld t i ht hi
  · rw [hk 12 (by omega)]; exact c12
theorem RC.k {N : Nt} {σ s : ds_S} (h : RC N σ) (hk : kC σ s) : RC N s := h.of fun c hc => hk.1 c (by omega)
theorem RC.gc {N : Nt} {σ : ds_S} {w : Nat → Nat} {tw : Nat} (h : RC N σ) (hw : ∀ l, l < N 0 7 → σ.1 tw l = nI (w l)) : GC (N 0 0) (N 0 7) (N 1) (N 2) w tw σ := ⟨h.1, h.2.1, fun l hl => ⟨(h.2.2.1 l hl).1, (h.2.2.1 l hl).2.1, hw l hl⟩⟩
theorem TW64 : TW 64 := ⟨⟨by decide, rfl⟩, rfl, Or.inr (by decide)⟩
theorem TW18 : TW 18 := ⟨⟨by decide, rfl⟩, rfl, Or.inl (by decide)⟩
theorem TW57 : TW 57 := ⟨⟨by decide, rfl⟩, rfl, Or.inr (by decide)⟩
/-- all but the ways is as it was -/
def kpW (σ σ' : ds_S) : Prop := σ'.2 = σ.2 ∧ ∀ c, ¬ (20 ≤ c ∧ c < 56) → σ'.1 c = σ.1 c
theorem kpT.w {t : Nat} {σ s : ds_S} (h : kpT t σ s) : kpW σ s := ⟨h.1, fun c hc => h.2 c (by omega)⟩
theorem kpW.refl (σ : ds_S) : kpW σ σ := ⟨rfl, fun _ _ => rfl⟩
theorem kpW.trans {a b c : ds_S} (h : kpW a b) (h2 : kpW b c) : kpW a c := ⟨h2.1.trans h.1, fun x hx => (h2.2 x hx).trans (h.2 x hx)⟩
theorem kpW.k {σ s : ds_S} (h : kpW σ s) : kC σ s := ⟨fun c hc => h.2 c (by omega), fun c _ _ _ _ _ => by rw [h.1]⟩
/-- the ways to a target as the class holds them -/
def WN (N : Nt) (w : Nat → Nat) (mo t : Nat) (s : ds_S) : Prop := WOK (N 0 0) (N 0 7) (N 1) (N 2) w (thN N mo) (dN N w mo t) t s
theorem WOK.cong {n m t : Nat} {fa fb w : Nat → Nat} {th : Nat → Bool} {d : Nat → Nat} {s s' : ds_S} (h : WOK n m fa fb w th d t s) (e : ∀ c, 20 ≤ c → c < 56 → (c - 20) % 6 = t → s'.1 c = s.1 c) (ht : t < 6) : WOK n m fa fb w th d t s' := by
  obtain ⟨h1, ⟨h2, h3⟩, r, o, h4, h5, h6, h7, h8⟩ := h
  have q0 := e (20 + t) (by omega) (by omega) (by omega)
  have q1 := e (26 + t) (by omega) (by omega) (by omega)
  have q2 := e (32 + t) (by omega) (by omega) (by omega)
  have q3 := e (38 + t) (by omega) (by omega) (by omega)
  have q4 := e (44 + t) (by omega) (by omega) (by omega)
  have q5 := e (50 + t) (by omega) (by omega) (by omega)
  refine ⟨?_, ⟨?_, ?_⟩, r, o, ?_, h5, h6, ?_, h8⟩
  · rw [q1]; exact h1
  · rw [q4, q5]; exact h2
  · rw [q3]; exact h3
  · rw [q0]; exact h4
  · rw [q2]; exact h7
theorem ev_findSome {N : Nt} (hN : Nok N) {σ : ds_S} (hC : RC N σ) {w : Nat → Nat} {tw mo : Nat} (hw : Wok N w) (htw : TW tw) (hwt : ∀ l, l < N 0 7 → σ.1 tw l = nI (w l)) {v : Int32} {tg : Nat → Bool} (hv : ∀ t, t < N 0 0 → q_bit v (nI t) = if tg t = true then 1 else 0) {K : ds_S → Prop} (hK : ∀ s, kpW σ s → (∀ t, t < N 0 0 → tg t = true → WN N w mo t s) → K s) : ds_EV mt_X4_findSome Yc [.ref 6, .ref 1, .ref tw, .int (moC mo), .int v] σ K := by
  have hn := hN.1.2
  refine e_X4_findSome tw (moC mo) v σ _ ?_
  generalize hQ : (fun r σ' => r = none ∧ K σ') = Q
  have hq : ∀ s, K s → Q none s := fun s h => by rw [← hQ]; exact ⟨rfl, h⟩
  clear hQ
  unfold w_X4_findSome
  have e1 : σ.1 1 1 = nI (N 0 7) := hC.2.1
  have e7 : σ.1 1 7 = nI (bitsOf (N 6) (N 0 7)) := hC.2.2.2.2.1
  rw [e1, e7]
  have hb := there_bits hN (mo := mo)
  generalize q_lt (moC mo) (nI (N 0 7)) (nI (bitsOf (N 6) (N 0 7))) = bb at hb ⊢
  refine pk_loop (fun fu i s => w_X4_findSome_10 fu tw v bb (nI i) s Q) (fun i s => kpW σ s ∧ ∀ t, t < i → tg t = true → WN N w mo t s) (N 0 0) 0 σ (by omega) ⟨kpW.refl σ, fun t h => by omega⟩ ?_ ?_
  · rintro fu s ⟨hs, hW⟩
    rw [w_X4_findSome_10]
    have e0 : s.1 1 0 = nI (N 0 0) := (hC.k hs.k).1
    exact pk_le (N 0 0) (N 0 0) (fun _ => hq _ (hK s hs hW)) (fun h => by omega) e0 rfl
  · rintro fu i s hi ⟨hs, hW⟩ hnext
    rw [w_X4_findSome_10]
    have hCs := hC.k hs.k
    have e0 : s.1 1 0 = nI (N 0 0) := hCs.1
    have vi : vp_in (nI i) 6 := vp_in_nI (by omega) (by decide)
    obtain ⟨-, -, y7⟩ := ways_at i (by omega)
    have k0 := (ways_k i (by omega)).1
    rw [nI_clamp (n := i) (by omega), y7, hv i hi, nI_1]
    refine pk_le (N 0 0) i (fun h => by omega) (fun _ => ?_) e0 rfl
    cases ht : tg i with
    | false =>
      refine ⟨fun _ => hnext s ⟨hs, fun t h1 h2 => ?_⟩, fun h => absurd h (by decide)⟩
      by_cases e : t = i
      · rw [e, ht] at h2; exact absurd h2 Bool.false_ne_true
      · exact hW t (by omega) h2
    | true =>
      refine ⟨fun h => absurd rfl h, fun _ => ⟨vi, k0, ev_find (hN.gok hw) hN.2.1 hi htw (dN_is hN hw mo hi) (hCs.gc fun l hl => ?_) hb fun s' hs' hWs => hnext s' ⟨hs.trans hs'.w, fun t h1 h2 => ?_⟩⟩⟩
      · have := htw.2.2
        rw [hs.2 tw (by omega)]; exact hwt l hl
      · by_cases e : t = i
        · rw [e]; exact hWs
        · exact (hW t (by omega) h2).cong (fun c h3 h4 h5 => hs'.2 c (by omega)) (by omega)
theorem ev_findAllC {N : Nt} (hN : Nok N) {σ : ds_S} (hC : RC N σ) (mo : Nat) {K : ds_S → Prop} (hK : ∀ s, kpW σ s → (∀ t, t < N 0 0 → WN N (N 4) mo t s) → K s) : ds_EV mt_X4_findAll Yc [.ref 6, .ref 1, .int (moC mo)] σ K := by
  have hn := hN.1.2
  refine e_X4_findAll (moC mo) σ _ ?_
  unfold w_X4_findAll
  have e0 : σ.1 1 0 = nI (N 0 0) := hC.1
  rw [e0]
  exact ev_findSome hN hC hN.w4 TW64 (fun l hl => (hC.2.2.1 l hl).2.2.2) (tg := fun _ => true) (fun t ht => q_bit_all _ (by omega) t ht) fun s hs hW => ⟨rfl, hK s hs fun t ht => hW t ht rfl⟩
theorem ev_findOne {N : Nt} (hN : Nok N) {σ : ds_S} (hC : RC N σ) {t : Nat} (ht : t < N 0 0) {K : Nat → ds_S → Prop} (hK : ∀ s, kpW σ s → WN N (N 4) 99 t s → K (20 + t) s) : ds_ER mt_X4_findOne Yc [.ref 6, .ref 1, .int (nI t)] σ K := by
  have hn := hN.1.2
  refine e_X4_findOne (nI t) σ _ ?_
  unfold w_X4_findOne
  have e1 : σ.1 1 1 = nI (N 0 7) := hC.2.1
  have e7 : σ.1 1 7 = nI (bitsOf (N 6) (N 0 7)) := hC.2.2.2.2.1
  obtain ⟨-, -, y7⟩ := ways_at t (by omega)
  have k0 := (ways_k t (by omega)).1
  have vt : vp_in (nI t) 6 := vp_in_nI (by omega) (by decide)
  rw [e1, e7, nI_clamp (n := t) (by omega), y7]
  exact ⟨vt, k0, ev_find (hN.gok hN.w4) hN.2.1 ht TW64 (dN_is hN hN.w4 99 ht) (hC.gc fun l hl => (hC.2.2.1 l hl).2.2.2) (there_bits hN (mo := 99)) fun s hs hW => ⟨vt, 20 + t, rfl, hK s hs.w hW⟩⟩
