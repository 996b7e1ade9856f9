theorem q_in01 (a b c : Int64) : q_in a b c = 0 ∨ q_in a b c = 1 := by unfold q_in; split <;> simp
theorem q_in_bx (x n : Int32) : q_in x.toInt64 0 (n - 1).toInt64 = q_bx x n := by
  unfold q_in q_bx
  simp only [show (0 : Int64) = (0 : Int32).toInt64 from rfl, fa_wide_le]
theorem sp_X9_isBox (a : Int32) (σ : ds_S) : ds_EI mt_X9_isBox Ym [.ref 0, .int a] σ (fun x σ' => x = q_bx a (σ.1 0 0) ∧ σ' = σ) :=
  e_X9_isBox a σ _ ⟨q_in01 _ _ _, _, rfl, q_in_bx _ _, rfl⟩
theorem sp_X9_isLine (a : Int32) (σ : ds_S) : ds_EI mt_X9_isLine Ym [.ref 0, .int a] σ (fun x σ' => x = q_bx a (σ.1 0 7) ∧ σ' = σ) :=
  e_X9_isLine a σ _ ⟨q_in01 _ _ _, _, rfl, q_in_bx _ _, rfl⟩
theorem sp_X9_isTable (a : Int32) (σ : ds_S) : ds_EI mt_X9_isTable Ym [.int a] σ (fun x σ' => x = q_bx a 3 ∧ σ' = σ) :=
  e_X9_isTable a σ _ ⟨q_in01 _ _ _, _, rfl, q_in_bx a 3, rfl⟩
theorem q_gcd_pos {u l : Int64} (hu : 0 ≤ u) (hl : 0 < l) : ∃ g : Nat, 0 < g ∧ g < 2 ^ 63 ∧ q_gcd u l = lN g ∧ g = Nat.gcd u.toInt.toNat l.toInt.toNat := by
  have hl' : 0 ≤ l := by rw [fa_lt64] at hl; rw [fa_le64]; omega
  obtain ⟨a, h1, h2, h3⟩ := lN_of_nn hu
  obtain ⟨b, g1, g2, g3⟩ := lN_of_nn hl'
  have b0 : 0 < b := by rw [g2, show (0 : Int64) = lN 0 from rfl, pk_lLT (by decide) g1] at hl; exact hl
  refine ⟨Nat.gcd a b, Nat.gcd_pos_of_pos_right _ b0, Nat.lt_of_le_of_lt (Nat.gcd_le_right _ b0) g1, ?_, by rw [h3, g3]⟩
  unfold q_gcd
  rw [h3, g3]
theorem sp_X9_lowest (u l : Int64) (p : Int32) (σ : ds_S) (hu : 0 ≤ u) (hl : 0 < l) : ds_EL mt_X9_lowest Ym [.long u, .long l, .int p] σ (fun x σ' => x = q_low u l p ∧ σ' = σ) := by
  have hl' : 0 ≤ l := by rw [fa_lt64] at hl; rw [fa_le64]; omega
  obtain ⟨g, g0, g1, g2, -⟩ := q_gcd_pos hu hl
  have hg : ¬ q_gcd u l = 0 := by rw [g2]; exact fun e => absurd ((pk_lNe0 g1).mp e) (by omega)
  refine e_X9_lowest u l p σ _ ⟨hu, hl', fun h => ⟨hg, _, rfl, ?_, rfl⟩, fun h => ⟨hg, _, rfl, ?_, rfl⟩⟩
  · unfold q_low; rw [if_neg h]
  · unfold q_low; rw [if_pos h]
theorem sp_X1_arePair (a b : Int32) (σ : ds_S) : ds_EI mt_X1_arePair Yc [.ref 1, .int a, .int b] σ (fun x σ' => x = q_pair a b (σ.1 1 0) ∧ σ' = σ) := by
  refine e_X1_arePair a b σ _ ⟨fun h => ⟨_, rfl, ?_, rfl⟩, fun h => ⟨fun h2 => ⟨_, rfl, ?_, rfl⟩, fun h2 => ⟨fun h3 => ⟨_, rfl, ?_, rfl⟩, fun h3 => ⟨_, rfl, ?_, rfl⟩⟩⟩⟩
  · unfold q_pair; rw [if_neg (fun q => q_rng_0.mp h ⟨q.1, q.2.1⟩)]
  · unfold q_pair; rw [if_neg (fun q => q_rng_0.mp h2 ⟨q.2.2.1, q.2.2.2.1⟩)]
  · unfold q_pair; rw [if_neg (fun q => q.2.2.2.2 h3)]
  · have g1 := Classical.not_not.mp (fun q => h (q_rng_0.mpr q))
    have g2 := Classical.not_not.mp (fun q => h2 (q_rng_0.mpr q))
    unfold q_pair; rw [if_pos ⟨g1.1, g1.2, g2.1, g2.2, h3⟩]
theorem sp_X8_fraction (u l : Int64) (p : Int32) (σ : ds_S) (hu : 0 ≤ u) (hl : 0 ≤ l) (hb : l < 562949953421312) : ds_EL mt_X8_fraction Yc [.long u, .long l, .int p] σ (fun x σ' => x = q_low0 u l p ∧ σ' = σ) := by
  have d1 : ∀ x : Int64, x / 1 = x := fun x => by
    apply Int64.toInt_inj.mp
    simp
  have key : ∀ (t : Int64), t = (if p = 0 then u else l) → w_X8_fraction_17 (q_gcd u l) t σ (fun r σ' => ∃ x, r = some (.long x) ∧ x = q_low0 u l p ∧ σ' = σ) := by
    intro t ht
    refine ⟨fun h => ⟨_, rfl, ?_, rfl⟩, fun h => ⟨?_, _, rfl, ?_, rfl⟩⟩
    · unfold q_low0
      rw [← ht, if_neg (nlt64.mpr ((lg_cmp_le _ _).mp h))]
    · intro e
      exact h ((lg_cmp_le _ _).mpr (by rw [e]; decide))
    · unfold q_low0
      rw [← ht, if_pos (nle64.mp (fun q => h ((lg_cmp_le _ _).mpr q)))]
  refine e_X8_fraction u l p σ _ ⟨hu, hl, hb, fun h => key l (by rw [if_neg h]), fun h => key u (by rw [if_pos h])⟩
theorem sp_X3_compareWith (a b : Nat) (σ : ds_S) (ha : ds_k Yc a 3) (hb : ds_k Yc b 3) : ds_EI mt_X3_compareWith Yc [.ref a, .ref b] σ (fun x σ' => x = q_cmp (σ.2 a 0 * (σ.1 b 1).toInt64) (σ.2 b 0 * (σ.1 a 1).toInt64) ∧ σ' = σ) :=
  e_X3_compareWith a b σ _ ⟨ha, hb, hb, ha, _, rfl, rfl, rfl⟩
