/-! HISTORY: the reference's copies -/
theorem m_r57 {σ : Sg} {K : Sg → Prop} {m : Nat} (hm : σ 233 5 = nI m) (hm11 : m ≤ 11) (hK : ∀ τ : Sg, Fr [237] σ τ → (∀ j, j < 415 → τ 237 (415 * m + j) = σ 236 (j)) → (∀ j, (∀ i, i < 415 → j ≠ 415 * m + i) → τ 237 j = σ 237 j) → (∀ υ : Sg, υ = up τ 233 5 ((τ 233 5) + 1) → K υ)) : ∀ d y τ, y + d = 415 → Fr [237] σ τ → (∀ j, j < y → τ 237 (415 * m + j) = σ 236 (j)) → (∀ j, (∀ i, i < y → j ≠ 415 * m + i) → τ 237 j = σ 237 j) → b_X10_remember_57 K (d + 1) (nI y) τ := by
  intro d
  induction d with
  | zero =>
    intro y τ hy f h1 h2
    have : y = 415 := by omega
    subst this
    refine br_t ?_ (hK τ f h1 h2)
    · exact nI_le (Nat.le_refl _) (by decide)
  | succ d ih =>
    intro y τ hy f h1 h2
    have hm2 : τ 233 5 = nI m := by rw [f 233 (by decide)]; exact hm
    refine br_f ?_ ?_
    · exact nI_ge (b := 415) (by omega) (by decide)
    · simp (disch := omega) only [L0, L1, L2, L3, L4, L5, L6, L7, L8, L9, L10, L11, L12, L13, L17, L24, L30, L31, L32, L38, L67, L100, L120, L335, L391, L415, L500, L600, L830, L4096, L4564, L4980, L8192, L9999, L99999, L100000, hm2, pk_mul, nI_add, vin_T, cl_I, true_and, forall_eq]
      refine ih (y + 1) _ (by omega) (f.up (by decide)) (fun j hj => ?_) (fun j hj => ?_)
      · by_cases e : j = y
        · subst e
          rw [up_s, f 236 (by decide)]
        · rw [up_j (by omega)]
          exact h1 j (by omega)
      · rw [up_j (hj y (by omega))]
        exact h2 j (fun i hi => hj i (by omega))
theorem m_r21 {σ : Sg} {K : Sg → Prop}  (hm : σ 233 5 = nI 11) (hK : ∀ τ : Sg, Fr [237] σ τ → (∀ j, j < 4565 → τ 237 (j) = σ 237 (j + 415)) → (∀ j, (∀ i, i < 4565 → j ≠ i) → τ 237 j = σ 237 j) → (∃ nf, b_X10_remember_57 K nf 0 τ)) : ∀ d y τ, y + d = 4565 → Fr [237] σ τ → (∀ j, j < y → τ 237 (j) = σ 237 (j + 415)) → (∀ j, (∀ i, i < y → j ≠ i) → τ 237 j = σ 237 j) → b_X10_remember_21 K (d + 1) (nI y) τ := by
  intro d
  induction d with
  | zero =>
    intro y τ hy f h1 h2
    have : y = 4565 := by omega
    subst this
    refine br_t ?_ (hK τ f h1 h2)
    · rw [f 233 (by decide), hm, L415, pk_mul]
      exact nI_le (by decide) (by decide)
  | succ d ih =>
    intro y τ hy f h1 h2
    have hm2 : τ 233 5 = nI 11 := by rw [f 233 (by decide)]; exact hm
    refine br_f ?_ ?_
    · rw [hm2, L415, pk_mul]
      exact nI_ge (by omega) (by decide)
    · simp (disch := omega) only [L0, L1, L2, L3, L4, L5, L6, L7, L8, L9, L10, L11, L12, L13, L17, L24, L30, L31, L32, L38, L67, L100, L120, L335, L391, L415, L500, L600, L830, L4096, L4564, L4980, L8192, L9999, L99999, L100000, pk_mul, nI_add, vin_T, cl_I, true_and, forall_eq]
      refine ih (y + 1) _ (by omega) (f.up (by decide)) (fun j hj => ?_) (fun j hj => ?_)
      · by_cases e : j = y
        · subst e
          rw [up_s, h2 (j + 415) (fun i hi => by omega)]
        · rw [up_j (by omega)]
          exact h1 j (by omega)
      · rw [up_j (hj y (by omega))]
        exact h2 j (fun i hi => hj i (by omega))
theorem m_u36 {σ : Sg} {K : Int32 → Sg → Prop} {m : Nat} (hm : σ 233 5 = nI m) (hm11 : m ≤ 11) (hK : ∀ τ : Sg, Fr [236] σ τ → (∀ j, j < 415 → τ 236 (j) = σ 237 (415 * m + j)) → (∀ j, (∀ i, i < 415 → j ≠ i) → τ 236 j = σ 236 j) → K (τ 233 5) τ) : ∀ d y τ, y + d = 415 → Fr [236] σ τ → (∀ j, j < y → τ 236 (j) = σ 237 (415 * m + j)) → (∀ j, (∀ i, i < y → j ≠ i) → τ 236 j = σ 236 j) → b_X10_undo_36 K (d + 1) (nI y) τ := by
  intro d
  induction d with
  | zero =>
    intro y τ hy f h1 h2
    have : y = 415 := by omega
    subst this
    refine br_t ?_ (hK τ f h1 h2)
    · exact nI_le (Nat.le_refl _) (by decide)
  | succ d ih =>
    intro y τ hy f h1 h2
    have hm2 : τ 233 5 = nI m := by rw [f 233 (by decide)]; exact hm
    refine br_f ?_ ?_
    · exact nI_ge (b := 415) (by omega) (by decide)
    · simp (disch := omega) only [L0, L1, L2, L3, L4, L5, L6, L7, L8, L9, L10, L11, L12, L13, L17, L24, L30, L31, L32, L38, L67, L100, L120, L335, L391, L415, L500, L600, L830, L4096, L4564, L4980, L8192, L9999, L99999, L100000, hm2, pk_mul, nI_add, vin_T, cl_I, true_and, forall_eq]
      refine ih (y + 1) _ (by omega) (f.up (by decide)) (fun j hj => ?_) (fun j hj => ?_)
      · by_cases e : j = y
        · subst e
          rw [up_s, f 237 (by decide)]
        · rw [up_j (by omega)]
          exact h1 j (by omega)
      · rw [up_j (hj y (by omega))]
        exact h2 j (fun i hi => hj i (by omega))
theorem m_k26 {σ : Sg} {K : Int32 → Sg → Prop} {k : Nat} (hk : k ≤ 1) (hK : ∀ τ : Sg, Fr [238] σ τ → (∀ j, j < 415 → τ 238 (415 * k + j) = σ 236 (j)) → (∀ j, (∀ i, i < 415 → j ≠ 415 * k + i) → τ 238 j = σ 238 j) → (vp_in (nI k) 2 ∧ (∀ υ : Sg, υ = up τ 239 (nI k).toNatClampNeg 1 → K 1 υ))) : ∀ d y τ, y + d = 415 → Fr [238] σ τ → (∀ j, j < y → τ 238 (415 * k + j) = σ 236 (j)) → (∀ j, (∀ i, i < y → j ≠ 415 * k + i) → τ 238 j = σ 238 j) → b_X10_keep_26 (nI k) K (d + 1) (nI y) τ := by
  intro d
  induction d with
  | zero =>
    intro y τ hy f h1 h2
    have : y = 415 := by omega
    subst this
    refine br_t ?_ (hK τ f h1 h2)
    · exact nI_le (Nat.le_refl _) (by decide)
  | succ d ih =>
    intro y τ hy f h1 h2

    refine br_f ?_ ?_
    · exact nI_ge (b := 415) (by omega) (by decide)
    · simp (disch := omega) only [L0, L1, L2, L3, L4, L5, L6, L7, L8, L9, L10, L11, L12, L13, L17, L24, L30, L31, L32, L38, L67, L100, L120, L335, L391, L415, L500, L600, L830, L4096, L4564, L4980, L8192, L9999, L99999, L100000, pk_mul, nI_add, vin_T, cl_I, true_and, forall_eq]
      refine ih (y + 1) _ (by omega) (f.up (by decide)) (fun j hj => ?_) (fun j hj => ?_)
      · by_cases e : j = y
        · subst e
          rw [up_s, f 236 (by decide)]
        · rw [up_j (by omega)]
          exact h1 j (by omega)
      · rw [up_j (hj y (by omega))]
        exact h2 j (fun i hi => hj i (by omega))
theorem m_a32 {σ : Sg} {K : Int32 → Sg → Prop} {k : Nat} (hk : k ≤ 1) (hK : ∀ τ : Sg, Fr [236] σ τ → (∀ j, j < 415 → τ 236 (j) = σ 238 (415 * k + j)) → (∀ j, (∀ i, i < 415 → j ≠ i) → τ 236 j = σ 236 j) → K 1 τ) : ∀ d y τ, y + d = 415 → Fr [236] σ τ → (∀ j, j < y → τ 236 (j) = σ 238 (415 * k + j)) → (∀ j, (∀ i, i < y → j ≠ i) → τ 236 j = σ 236 j) → b_X10_again_32 (nI k) K (d + 1) (nI y) τ := by
  intro d
  induction d with
  | zero =>
    intro y τ hy f h1 h2
    have : y = 415 := by omega
    subst this
    refine br_t ?_ (hK τ f h1 h2)
    · exact nI_le (Nat.le_refl _) (by decide)
  | succ d ih =>
    intro y τ hy f h1 h2

    refine br_f ?_ ?_
    · exact nI_ge (b := 415) (by omega) (by decide)
    · simp (disch := omega) only [L0, L1, L2, L3, L4, L5, L6, L7, L8, L9, L10, L11, L12, L13, L17, L24, L30, L31, L32, L38, L67, L100, L120, L335, L391, L415, L500, L600, L830, L4096, L4564, L4980, L8192, L9999, L99999, L100000, pk_mul, nI_add, vin_T, cl_I, true_and, forall_eq]
      refine ih (y + 1) _ (by omega) (f.up (by decide)) (fun j hj => ?_) (fun j hj => ?_)
      · by_cases e : j = y
        · subst e
          rw [up_s, f 238 (by decide)]
        · rw [up_j (by omega)]
          exact h1 j (by omega)
      · rw [up_j (hj y (by omega))]
        exact h2 j (fun i hi => hj i (by omega))
theorem m_p20 {σ : Sg} {K : Sg → Prop}  (he : σ 233 17 = nI 1) (hK : ∀ τ : Sg, Fr [242] σ τ → (∀ j, j < 415 → τ 242 (j) = σ 237 (j)) → (∀ j, (∀ i, i < 415 → j ≠ i) → τ 242 j = σ 242 j) → b_X10_prepare_52 K τ) : ∀ d y τ, y + d = 415 → Fr [242] σ τ → (∀ j, j < y → τ 242 (j) = σ 237 (j)) → (∀ j, (∀ i, i < y → j ≠ i) → τ 242 j = σ 242 j) → b_X10_prepare_20 K (d + 1) (nI y) τ := by
  intro d
  induction d with
  | zero =>
    intro y τ hy f h1 h2
    have : y = 415 := by omega
    subst this
    refine br_t ?_ (hK τ f h1 h2)
    · exact nI_le (Nat.le_refl _) (by decide)
  | succ d ih =>
    intro y τ hy f h1 h2
    have he2 : ¬ τ 233 17 = 0 := by rw [f 233 (by decide), he]; decide
    refine br_f ?_ ?_
    · exact nI_ge (b := 415) (by omega) (by decide)
    · rw [br_F he2]
      simp (disch := omega) only [L0, L1, L2, L3, L4, L5, L6, L7, L8, L9, L10, L11, L12, L13, L17, L24, L30, L31, L32, L38, L67, L100, L120, L335, L391, L415, L500, L600, L830, L4096, L4564, L4980, L8192, L9999, L99999, L100000, pk_mul, nI_add, vin_T, cl_I, true_and, forall_eq]
      refine ih (y + 1) _ (by omega) (f.up (by decide)) (fun j hj => ?_) (fun j hj => ?_)
      · by_cases e : j = y
        · subst e
          rw [up_s, f 237 (by decide)]
        · rw [up_j (by omega)]
          exact h1 j (by omega)
      · rw [up_j (hj y (by omega))]
        exact h2 j (fun i hi => hj i (by omega))
theorem m_f54 {σ : Sg} {K : Sg → Prop} {x : Int32}  (hK : ∀ τ : Sg, Fr [237] σ τ → (∀ j, j < 415 → τ 237 (j) = σ 242 (j)) → (∀ j, (∀ i, i < 415 → j ≠ i) → τ 237 j = σ 237 j) → (∀ υ : Sg, υ = up τ 233 5 12 → K υ)) : ∀ d y τ, y + d = 415 → Fr [237] σ τ → (∀ j, j < y → τ 237 (j) = σ 242 (j)) → (∀ j, (∀ i, i < y → j ≠ i) → τ 237 j = σ 237 j) → b_X10_forgetIf_54 x K (d + 1) (nI y) τ := by
  intro d
  induction d with
  | zero =>
    intro y τ hy f h1 h2
    have : y = 415 := by omega
    subst this
    refine br_t ?_ (hK τ f h1 h2)
    · exact nI_le (Nat.le_refl _) (by decide)
  | succ d ih =>
    intro y τ hy f h1 h2

    refine br_f ?_ ?_
    · exact nI_ge (b := 415) (by omega) (by decide)
    · simp (disch := omega) only [L0, L1, L2, L3, L4, L5, L6, L7, L8, L9, L10, L11, L12, L13, L17, L24, L30, L31, L32, L38, L67, L100, L120, L335, L391, L415, L500, L600, L830, L4096, L4564, L4980, L8192, L9999, L99999, L100000, pk_mul, nI_add, vin_T, cl_I, true_and, forall_eq]
      refine ih (y + 1) _ (by omega) (f.up (by decide)) (fun j hj => ?_) (fun j hj => ?_)
      · by_cases e : j = y
        · subst e
          rw [up_s, f 242 (by decide)]
        · rw [up_j (by omega)]
          exact h1 j (by omega)
      · rw [up_j (hj y (by omega))]
        exact h2 j (fun i hi => hj i (by omega))
/-- the shift back: places k + 415, from the top down -/
theorem m_f26 {σ : Sg} {K : Sg → Prop} {x : Int32} (hK : ∀ τ : Sg, Fr [237] σ τ → (∀ j, j < 4565 → τ 237 (j + 415) = σ 237 j) → ∃ nf, b_X10_forgetIf_54 x K nf 0 τ) : ∀ y τ, y ≤ 4565 → Fr [237] σ τ → (∀ j, y ≤ j → j < 4565 → τ 237 (j + 415) = σ 237 j) → (∀ j, j < y + 415 → τ 237 j = σ 237 j) → b_X10_forgetIf_26 x K (y + 1) (nI y - 1) τ := by
  intro y
  induction y with
  | zero =>
    intro τ hy f h1 h2
    refine br_t (by decide) (hK τ f (fun j hj => h1 j (by omega) hj))
  | succ y ih =>
    intro τ hy f h1 h2
    rw [nI_pred]
    refine br_f (nI_pos (by omega)) ?_
    simp (disch := omega) only [L0, L1, L2, L3, L4, L5, L6, L7, L8, L9, L10, L11, L12, L13, L17, L24, L30, L31, L32, L38, L67, L100, L120, L335, L391, L415, L500, L600, L830, L4096, L4564, L4980, L8192, L9999, L99999, L100000, nI_add, vin_T, cl_I, true_and, forall_eq]
    have e : nI y + -nI 1 = nI y - 1 := by
      rw [← L1]
      apply Int32.toBitVec_inj.mp
      simp [BitVec.sub_eq_add_neg]
    rw [e]
    refine ih _ (by omega) (f.up (by decide)) (fun j q1 q2 => ?_) (fun j hj => ?_)
    · by_cases z : j = y
      · subst z
        rw [up_s]
        exact h2 j (by omega)
      · rw [up_j (by omega)]
        exact h1 j (by omega) q2
    · rw [up_j (by omega)]
      exact h2 j (by omega)
