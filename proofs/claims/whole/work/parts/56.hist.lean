/-! HISTORY: the class's copies; remember; undo, keep, again -/
theorem upA_o {σ : Sg} {k a : Nat} {f : Nat → Int32} (h : a ≠ k) : upA σ k f a = σ a := upA_ne a h
theorem nlt0 {n : Nat} (h : n < 2 ^ 31) : (¬ nI n < nI 0) = True := eq_true (nI_pos h)
theorem lele {a b : Nat} (h : a ≤ b) : (a ≤ b) = True := eq_true h
theorem c_copy {σ : Sg} {k0 k1 : Nat} {R : Nat → Nat} {K : Sg → Prop} (hd : k1 + 8 ≤ k0 ∨ k0 + 8 ≤ k1) (hs : sea σ k1 R) (h30 : R 0 ≤ 30) (h4 : ∀ t, t < R 0 → rT R t 4 ≤ 4) (hK : ∀ τ : Sg, (∀ k, k < k0 ∨ k0 + 8 ≤ k → τ k = σ k) → sea τ k0 R → K τ) : wp_X6_copyFrom k0 k1 σ K := by
  obtain ⟨e0, e1, e2⟩ := hs
  unfold wp_X6_copyFrom
  simp (disch := omega) only [L0, L4, forall_eq, up_s, up_j, up_o, upA_k, upA_o, e0, cl_I, nlt0, pk_mul, true_and, Nat.zero_add, lele]
  refine hK _ (fun k hk => ?_) ⟨?_, ?_, fun t ht => ⟨?_, ?_, ?_, ?_, ?_, fun g hg => ⟨?_, ?_⟩⟩⟩
  · simp (disch := omega) only [upA_o, up_o]
  · simp (disch := omega) only [upA_o, up_o, up_s, up_j]
  · intro j hj
    simp (disch := omega) only [upA_o, up_o, up_s, up_j]
    exact e1 j hj
  · simp (disch := omega) only [upA_o, upA_k, up_o, sb_cpy0]; exact (e2 t ht).1
  · simp (disch := omega) only [upA_o, upA_k, up_o, sb_cpy0]; exact (e2 t ht).2.1
  · simp (disch := omega) only [upA_o, upA_k, up_o, sb_cpy0]; exact (e2 t ht).2.2.1
  · simp (disch := omega) only [upA_o, upA_k, up_o, sb_cpy0]; exact (e2 t ht).2.2.2.1
  · simp (disch := omega) only [upA_o, upA_k, up_o, sb_cpy0]; exact (e2 t ht).2.2.2.2.1
  · have := h4 t ht
    simp (disch := omega) only [upA_o, upA_k, up_o, sb_cpy0]; exact ((e2 t ht).2.2.2.2.2 g hg).1
  · have := h4 t ht
    simp (disch := omega) only [upA_o, upA_k, up_o, sb_cpy0]; exact ((e2 t ht).2.2.2.2.2 g hg).2
theorem row4 {T R : Nat → Nat} (hr : rowOk T R) : ∀ t, t < R 0 → rT R t 4 ≤ 4 := fun t ht => (hr.2.2.1 t ht).2.2.2.2.2.1
/-- the history with one row more -/
def hU (m : Nat) (U : Nat → Nat → Nat) (R : Nat → Nat) (i : Nat) : Nat → Nat := if i + 1 = min (m + 1) 12 then R else if m = 12 then U (i + 1) else U i
def hN (nx : Nat) : Nat := (nx + 1) % 12
/-- the class's ring -/
def ringR (σ : Sg) (m nx : Nat) (U : Nat → Nat → Nat) : Prop := nx < 12 ∧ m ≤ 12 ∧ σ 63 1 = nI nx ∧ σ 63 2 = nI m ∧ ∀ i, i < m → sea σ (65 + 8 * ((nx + 12 - m + i) % 12)) (U i)
/-- the reference's rows -/
def undoR (σ : Sg) (m : Nat) (U : Nat → Nat → Nat) : Prop := σ 233 5 = nI m ∧ ∀ i, i < m → rowR (fun k => σ 237 (415 * i + k)) (U i)
theorem hist_of {σ : Sg} {T : Nat → Nat} {m nx : Nat} {U : Nat → Nat → Nat} (h1 : ringR σ m nx U) (h2 : undoR σ m U) (h3 : ∀ i, i < m → rowOk T (U i)) : histR σ T m nx U := ⟨h1.1, h1.2.1, h1.2.2.1, h1.2.2.2.1, h2.1, fun i hi => ⟨h2.2 i hi, h3 i hi, h1.2.2.2.2 i hi⟩⟩
theorem hist_to {σ : Sg} {T : Nat → Nat} {m nx : Nat} {U : Nat → Nat → Nat} (h : histR σ T m nx U) : ringR σ m nx U ∧ undoR σ m U ∧ ∀ i, i < m → rowOk T (U i) := ⟨⟨h.1, h.2.1, h.2.2.1, h.2.2.2.1, fun i hi => (h.2.2.2.2.2 i hi).2.2⟩, ⟨h.2.2.2.2.1, fun i hi => (h.2.2.2.2.2 i hi).1⟩, fun i hi => (h.2.2.2.2.2 i hi).2.1⟩
theorem hU_ok {T R : Nat → Nat} {m : Nat} {U : Nat → Nat → Nat} (hm : m ≤ 12) (h : ∀ i, i < m → rowOk T (U i)) (hr : rowOk T R) : ∀ i, i < min (m + 1) 12 → rowOk T (hU m U R i) := by
  intro i hi
  unfold hU
  split
  · exact hr
  · split
    · exact h _ (by omega)
    · exact h _ (by omega)
/-- what the class's remembering leaves: all but the ring, history's own fields, fresh -/
theorem c_rem {σ : Sg} {R : Nat → Nat} {m nx : Nat} {U : Nat → Nat → Nat} {K : Sg → Prop} (hg : ringR σ m nx U) (hs : sea σ 55 R) (h30 : R 0 ≤ 30) (h4 : ∀ t, t < R 0 → rT R t 4 ≤ 4) (hK : ∀ τ : Sg, (∀ k, k < 63 ∨ (161 ≤ k ∧ k ≠ 180) → τ k = σ k) → (∀ j, j ≠ 6 → τ 180 j = σ 180 j) → τ 180 6 = 0 → ringR τ (min (m + 1) 12) (hN nx) (hU m U R) → K τ) : wp_X9_remember σ K := by
  obtain ⟨g1, g2, g3, g4, g5⟩ := hg
  unfold wp_X9_remember wp_X2_put
  rw [g3, vin_T g1 (by decide), true_and, cl_I (by omega), show 64 + 1 + 8 * nx = 65 + 8 * nx from rfl]
  refine c_copy (R := R) (by omega) hs h30 h4 (fun τ f s => ?_)
  intro τ1 e1 τ2 e2 τ3 e3
  have n1 : τ 63 1 = nI nx := by rw [f 63 (by omega)]; exact g3
  have n2 : τ 63 2 = nI m := by rw [f 63 (by omega)]; exact g4
  have q1 : τ1 = up τ 63 1 (nI (hN nx)) := by
    rw [e1, n1, L1, nI_add, L12, pk_rem (by omega) (by decide) (by decide)]
    rfl
  have q2 : τ2 = up τ1 63 2 (nI (min (m + 1) 12)) := by
    rw [e2, q1, up_j (by decide), n2, L1, nI_add, L12]
    by_cases z : 12 < m + 1
    · rw [if_pos (nI_lt z (by omega)), Nat.min_eq_right (by omega)]
    · rw [if_neg (nI_nlt (by omega) (by decide)), Nat.min_eq_left (by omega)]
  have o : ∀ k, k ≠ 63 → k ≠ 180 → τ3 k = τ k := fun k a b => by rw [e3, up_o b, q2, up_o a, q1, up_o a]
  refine hK τ3 (fun k hk => ?_) (fun j hj => ?_) ?_ ⟨Nat.mod_lt _ (by decide), by omega, ?_, ?_, fun i hi => ?_⟩
  · by_cases a : k = 63
    · omega
    · rw [o k a (by omega), f k (by omega)]
  · rw [e3, up_j hj, q2, up_o (by decide), q1, up_o (by decide), f 180 (by omega)]
  · rw [e3, up_s]
  · rw [e3, up_o (by decide), q2, up_j (by decide), q1, up_s]
  · rw [e3, up_o (by decide), q2, up_s]
  · have hs3 : ∀ s, (s + 8 ≤ 63 ∨ 64 ≤ s) → s + 8 ≤ 180 → sea τ s (hU m U R i) → sea τ3 s (hU m U R i) := fun s a b z => sea_congr z (fun k k1 k2 => o k (by omega) (by omega))
    have hmod : ∀ x, x % 12 < 12 := fun x => Nat.mod_lt _ (by decide)
    have hb := hmod (hN nx + 12 - min (m + 1) 12 + i)
    refine hs3 _ (by omega) (by omega) ?_
    unfold hU
    by_cases z : i + 1 = min (m + 1) 12
    · rw [if_pos z]
      have : (hN nx + 12 - min (m + 1) 12 + i) % 12 = nx := by unfold hN; omega
      rw [this]
      exact s
    · rw [if_neg z]
      have old : ∀ i', i' < m → (nx + 12 - m + i') % 12 ≠ nx → sea τ (65 + 8 * ((nx + 12 - m + i') % 12)) (U i') := fun i' hi' hne => by
        have hb' := hmod (nx + 12 - m + i')
        exact sea_congr (g5 i' hi') (fun k k1 k2 => f k (by omega))
      by_cases y : m = 12
      · rw [if_pos y]
        have : (hN nx + 12 - min (m + 1) 12 + i) % 12 = (nx + 12 - m + (i + 1)) % 12 := by unfold hN; omega
        rw [this]
        exact old (i + 1) (by omega) (by omega)
      · rw [if_neg y]
        have : (hN nx + 12 - min (m + 1) 12 + i) % 12 = (nx + 12 - m + i) % 12 := by unfold hN; omega
        rw [this]
        exact old i (by omega) (by omega)
theorem m_rem {σ : Sg} {R : Nat → Nat} {m : Nat} {U : Nat → Nat → Nat} {K : Sg → Prop} (hm : m ≤ 12) (hu : undoR σ m U) (hR : rowR (σ 236) R) (hK : ∀ τ : Sg, Fr [233, 237] σ τ → (∀ j, j ≠ 5 → τ 233 j = σ 233 j) → undoR τ (min (m + 1) 12) (hU m U R) → K τ) : wp_X10_remember σ K := by
  obtain ⟨u1, u2⟩ := hu
  -- the second loop, from a store whose rows below mm are those of hU
  have tail : ∀ (τ : Sg) (mm : Nat), mm ≤ 11 → mm + 1 = min (m + 1) 12 → Fr [233, 237] σ τ → (∀ j, j ≠ 5 → τ 233 j = σ 233 j) → τ 233 5 = nI mm → (∀ i, i < mm → rowR (fun k => τ 237 (415 * i + k)) (hU m U R i)) → ∃ nf, b_X10_remember_57 K nf 0 τ := by
    intro τ mm h1 h2 f1 f2 f3 f4
    refine ⟨416, m_r57 f3 h1 (fun υ g1 g2 g3 => ?_) 415 0 τ (by omega) Fr.rf (fun j hj => by omega) (fun j hj => rfl)⟩
    intro ω e
    have e5 : υ 233 5 + 1 = nI (mm + 1) := by rw [g1 233 (by decide), f3, nI_1]
    rw [e5] at e
    refine hK ω (fun k hk => ?_) (fun j hj => ?_) ⟨?_, fun i hi k hk => ?_⟩
    · rw [e, up_o (fun z => hk (by simp [z])), g1 k (fun z => hk (by simp at z; simp [z]))]
      exact f1 k hk
    · rw [e, up_j hj, g1 233 (by decide)]
      exact f2 j hj
    · rw [e, up_s, h2]
    · show ω 237 (415 * i + k) = _
      rw [e, up_o (by decide)]
      by_cases z : i = mm
      · subst z
        rw [g2 k hk, f1 236 (by decide), hR k hk]
        unfold hU
        rw [if_pos h2]
      · rw [g3 (415 * i + k) (fun i' hi' => by omega)]
        exact f4 i (by omega) k hk
  unfold wp_X10_remember
  rw [u1, L12, br_iff (nI_eq (by omega) (by decide))]
  refine ⟨fun q => ?_, fun q => ?_⟩
  · subst q
    intro τ e
    rw [L1, sub1 (by decide)] at e
    refine ⟨4566, m_r21 (by rw [e, up_s]) (fun υ g1 g2 g3 => ?_) 4565 0 τ (by omega) Fr.rf (fun j hj => by omega) (fun j hj => rfl)⟩
    refine tail υ 11 (Nat.le_refl _) (by decide) (fun k hk => ?_) (fun j hj => ?_) ?_ (fun i hi k hk => ?_)
    · rw [g1 k (fun z => hk (by simp at z; simp [z])), e, up_o (fun z => hk (by simp [z]))]
    · rw [g1 233 (by decide), e, up_j hj]
    · rw [g1 233 (by decide), e, up_s]
    · show υ 237 (415 * i + k) = _
      rw [g2 (415 * i + k) (by omega), e, up_o (by decide)]
      unfold hU
      rw [if_neg (by omega), if_pos rfl, show 415 * i + k + 415 = 415 * (i + 1) + k by omega]
      exact u2 (i + 1) (by omega) k hk
  · refine tail σ m (by omega) (by omega) Fr.rf (fun _ _ => rfl) u1 (fun i hi k hk => ?_)
    unfold hU
    rw [if_neg (by omega), if_neg q]
    exact u2 i hi k hk
