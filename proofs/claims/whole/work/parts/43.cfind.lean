/-! the class's ways -/
theorem ways_at : ∀ t, t < 6 → (Yc.2.2.2 (20 + t) 0 = 26 + t ∧ Yc.2.2.2 (20 + t) 1 = 32 + t ∧ Yc.2.2.2 (20 + t) 3 = 38 + t ∧ Yc.2.2.2 (20 + t) 4 = 44 + t ∧ Yc.2.2.2 (20 + t) 5 = 50 + t) ∧ (Yc.2.2.1 (26 + t) = 6 ∧ Yc.2.2.1 (32 + t) = 6 ∧ Yc.2.2.1 (38 + t) = 6 ∧ Yc.2.2.1 (44 + t) = 10 ∧ Yc.2.2.1 (50 + t) = 10) ∧ Yc.2.2.2 7 t = 20 + t := by decide +kernel
theorem ways_k : ∀ t, t < 6 → ds_k Yc (20 + t) 7 ∧ ds_k Yc (26 + t) 10 ∧ ds_k Yc (32 + t) 10 ∧ ds_k Yc (38 + t) 10 ∧ ds_k Yc (44 + t) 10 ∧ ds_k Yc (50 + t) 10 := by unfold ds_k; decide +kernel
/-- what the class's ways read -/
def GC (n m : Nat) (fa fb w : Nat → Nat) (tw : Nat) (σ : ds_S) : Prop := σ.1 1 0 = nI n ∧ σ.1 1 1 = nI m ∧ ∀ l, l < m → σ.1 61 l = nI (fa l) ∧ σ.1 62 l = nI (fb l) ∧ σ.1 tw l = nI (w l)
/-- a row of weights: it lies outside the ways -/
def TW (tw : Nat) : Prop := ds_k Yc tw 10 ∧ Yc.2.2.1 tw = 10 ∧ (tw < 20 ∨ 56 ≤ tw)
/-- all but the ways to one target is as it was -/
def kpT (t : Nat) (σ σ' : ds_S) : Prop := σ'.2 = σ.2 ∧ ∀ c, ¬ (20 ≤ c ∧ c < 56 ∧ (c - 20) % 6 = t) → σ'.1 c = σ.1 c
theorem kpT.refl (t : Nat) (σ : ds_S) : kpT t σ σ := ⟨rfl, fun _ _ => rfl⟩
theorem kpT.trans {t : Nat} {a b c : ds_S} (h : kpT t a b) (h2 : kpT t b c) : kpT t a c := ⟨h2.1.trans h.1, fun x hx => (h2.2 x hx).trans (h.2 x hx)⟩
theorem kpT.si {t c : Nat} {σ s : ds_S} {r : Nat → Int32} (h : kpT t σ s) (hc : 20 ≤ c ∧ c < 56 ∧ (c - 20) % 6 = t) : kpT t σ (ds_si s c r) := ⟨h.1, fun x hx => by rw [ds_si_1, if_neg (fun e => by subst e; exact hx hc)]; exact h.2 x hx⟩
theorem kpT.wi {t c k : Nat} {σ s : ds_S} {x : Int32} (h : kpT t σ s) (hc : 20 ≤ c ∧ c < 56 ∧ (c - 20) % 6 = t) : kpT t σ (ds_wi s c k x) := h.si hc
theorem GC.kp {n m : Nat} {fa fb w : Nat → Nat} {tw t : Nat} {σ s : ds_S} (hw : TW tw) (hC : GC n m fa fb w tw σ) (h : kpT t σ s) : GC n m fa fb w tw s := by
  obtain ⟨h0, h1, h2⟩ := hC
  refine ⟨?_, ?_, fun l hl => ?_⟩
  · rw [h.2 1 (by omega)]; exact h0
  · rw [h.2 1 (by omega)]; exact h1
  · have h3 := hw.2.2
    rw [h.2 61 (by omega), h.2 62 (by omega), h.2 tw (by omega)]
    exact h2 l hl
theorem bv_and3 (a b c : BitVec 32) : a &&& b &&& c = (a &&& c) &&& (b &&& c) := by
  ext j hj
  simp only [BitVec.getElem_and]
  cases a[j] <;> cases b[j] <;> cases c[j] <;> rfl
theorem q_bit_and (x y i : Int32) : q_bit (x &&& y) i = q_bit x i &&& q_bit y i := by
  unfold q_bit
  apply Int32.toBitVec_inj.mp
  simp only [Int32.toBitVec_and, Int32.toBitVec_shiftRight, BitVec.sshiftRight']
  rw [BitVec.sshiftRight_and_distrib]
  exact bv_and3 _ _ _
theorem q_bit_not : ∀ b, b < 10 → ∀ l, l < 10 → q_bit (((1 : Int32) <<< (nI b &&& 31)) ^^^ (-1 : Int32)) (nI l) = if l = b then 0 else 1 := by decide +kernel
theorem q_bit_all : ∀ n, n ≤ 10 → ∀ l, l < n → q_bit (((1 : Int32) <<< (nI n &&& 31)) - (1 : Int32)) (nI l) = 1 := by decide +kernel
theorem q_bit_cpl : ∀ b, b < 1024 → ∀ l, l < 10 → q_bit (nI b ^^^ (-1 : Int32)) (nI l) = nI (1 - b / 2 ^ l % 2) := by decide +kernel
/-- one box or line less in a set of bits -/
theorem q_bit_less {v : Int32} {dn : Nat → Bool} {n b : Nat} (hn : n ≤ 10) (hb : b < n) (h : ∀ x, x < n → q_bit v (nI x) = if dn x = true then 0 else 1) : ∀ x, x < n → q_bit (v &&& (((1 : Int32) <<< (nI b &&& 31)) ^^^ (-1 : Int32))) (nI x) = if (if x = b then true else dn x) = true then 0 else 1 := by
  intro x hx
  rw [q_bit_and, h x hx, q_bit_not b (by omega) x (by omega)]
  by_cases e : x = b
  · simp [e]
  · simp [e]
    cases dn x <;> rfl
