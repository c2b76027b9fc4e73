/-! PAYS: both sides -/
section
variable {σ : Sg} {e : Nat → Int32} {N : Nat}
theorem c_find {B18 : Int32 → Sg → Prop} {K : Sg → Prop} {y3 : Int32} (hN : N ≤ 13) (he : ∀ j, j < N → σ 228 j = e j) (hB : br (0 ≤ e (lo e N)) (∀ v : Int32, v = y3 + 1 → B18 v σ) (wp_X7_pay (nI (lo e N)) (nI (hi e N)) σ <| fun τ => ∀ v : Int32, v = y3 + 1 → B18 v τ)) : ∀ d w, w + d = N → 1 ≤ w → b_X7_listPayments_32 225 13 (nI N) B18 K (d + 1) y3 (nI (lo e w)) (nI (hi e w)) (nI w) σ := by
  intro d
  induction d with
  | zero =>
    intro w hw h1
    have : w = N := by omega
    subst this
    have hl := lo_lt e w h1
    refine br_t (nI_le (Nat.le_refl _) (by omega)) ?_
    rw [vin_T (show lo e w < 13 by omega) (by decide), cl_I (by omega), true_and, he _ hl]
    exact hB
  | succ d ih =>
    intro w hw h1
    have hl := lo_lt e w h1
    have hh := hi_lt e w h1
    have nx := ih (w + 1) (by omega) (by omega)
    refine br_f (nI_ge (by omega) (by omega)) ?_
    rw [vin_T (show w < 13 by omega) (by decide), vin_T (show lo e w < 13 by omega) (by decide), cl_I (by omega), cl_I (by omega), true_and, true_and, he _ (by omega), he w (by omega)]
    have k2 : ∀ z0, b_X7_listPayments_32 225 13 (nI N) B18 K (d + 1) y3 z0 (nI (hi e (w + 1))) (nI (w + 1)) σ → b_X7_listPayments_62 225 13 (nI N) B18 (fun y3' y4' y5' y6' τ => b_X7_listPayments_32 225 13 (nI N) B18 K (d + 1) y3' y4' y5' y6' τ) K y3 (nI (hi e w)) (nI w) z0 σ := by
      intro z0 hz
      unfold b_X7_listPayments_62
      rw [vin_T (show w < 13 by omega) (by decide), vin_T (show hi e w < 13 by omega) (by decide), cl_I (by omega), cl_I (by omega), true_and, true_and, he w (by omega), he _ (by omega)]
      simp only [hi] at hz
      refine ⟨fun q v ev => ?_, fun q v ev => ?_⟩
      · rw [if_neg (Int32.not_lt.mpr q)] at hz
        rw [ev, nI_1]; exact hz
      · rw [if_pos (Int32.not_le.mp q)] at hz
        rw [ev, nI_1]; exact hz
    refine ⟨fun q => k2 _ ?_, fun q => k2 _ ?_⟩
    · simp only [lo] at nx
      rw [if_neg (Int32.not_lt.mpr q)] at nx
      exact nx
    · simp only [lo] at nx
      rw [if_pos (Int32.not_le.mp q)] at nx
      exact nx
/-- i payments are listed -/
def lpS (σ τ : Sg) (e : Nat → Int32) (N i : Nat) : Prop := (∀ k, ¬ (k = 227 ∨ k = 228 ∨ k = 230 ∨ k = 231 ∨ k = 232) → τ k = σ k) ∧ (∀ j, j < N → τ 228 j = stp e N i j) ∧ τ 227 3 = nI i ∧ ∀ j, j < i → τ 230 j = nI (lo (stp e N j) N) ∧ τ 231 j = nI (hi (stp e N j) N) ∧ τ 232 j = am (stp e N j) N
theorem c_pay1 {τ : Sg} {K : Sg → Prop} {i : Nat} (h0 : 0 < N) (hN : N ≤ 13) (hi13 : i < 13) (h : lpS σ τ e N i) (hK : ∀ υ : Sg, lpS σ υ e N (i + 1) → K υ) : wp_X7_pay (nI (lo (stp e N i) N)) (nI (hi (stp e N i) N)) τ K := by
  obtain ⟨h1, h2, h3, h4⟩ := h
  have hl := lo_lt (stp e N i) N h0
  have hh := hi_lt (stp e N i) N h0
  have e1 := h2 _ hl
  have e2 := h2 _ hh
  unfold wp_X7_pay
  rw [vin_T (show lo (stp e N i) N < 13 by omega) (by decide), vin_T (show hi (stp e N i) N < 13 by omega) (by decide), cl_I (by omega), cl_I (by omega), e1, e2]
  simp only [true_and]
  intro v ev τ1 f1 τ2 f2
  have ev : v = am (stp e N i) N := ev
  have g1 : τ2 227 3 = nI i := by rw [f2, up_o (by decide), f1, up_o (by decide)]; exact h3
  rw [g1, vin_T hi13 (by decide), cl_I (by omega), true_and]
  intro τ3 f3
  have g2 : τ3 227 3 = nI i := by rw [f3, up_o (by decide)]; exact g1
  rw [g2, vin_T hi13 (by decide), cl_I (by omega), true_and]
  intro τ4 f4
  have g3 : τ4 227 3 = nI i := by rw [f4, up_o (by decide)]; exact g2
  rw [g3, vin_T hi13 (by decide), cl_I (by omega), true_and]
  intro τ5 f5 τ6 f6
  have g4 : τ5 227 3 = nI i := by rw [f5, up_o (by decide)]; exact g3
  rw [g4, nI_1] at f6
  refine hK τ6 ⟨fun k hk => ?_, fun j hj => ?_, by rw [f6, up_s], fun j hj => ?_⟩
  · rw [f6, up_o (by omega), f5, up_o (by omega), f4, up_o (by omega), f3, up_o (by omega), f2, up_o (by omega), f1, up_o (by omega)]
    exact h1 k hk
  · rw [f6, up_o (by decide), f5, up_o (by decide), f4, up_o (by decide), f3, up_o (by decide), f2, up_r, f1, up_r, up_r]
    show _ = pay (stp e N i) N j
    unfold pay
    by_cases q : j = hi (stp e N i) N
    · rw [if_pos q, if_pos q, e2, ev]
    · rw [if_neg q, if_neg q]
      by_cases q2 : j = lo (stp e N i) N
      · rw [if_pos q2, if_pos q2, ev]
      · rw [if_neg q2, if_neg q2]; exact h2 j hj
  · have r1 : τ6 230 = τ3 230 := by rw [f6, up_o (by decide), f5, up_o (by decide), f4, up_o (by decide)]
    have r2 : τ6 231 = τ4 231 := by rw [f6, up_o (by decide), f5, up_o (by decide)]
    have r3 : τ6 232 = τ5 232 := by rw [f6, up_o (by decide)]
    have s1 : τ2 230 = τ 230 := by rw [f2, up_o (by decide), f1, up_o (by decide)]
    have s2 : τ3 231 = τ 231 := by rw [f3, up_o (by decide), f2, up_o (by decide), f1, up_o (by decide)]
    have s3 : τ4 232 = τ 232 := by rw [f4, up_o (by decide), f3, up_o (by decide), f2, up_o (by decide), f1, up_o (by decide)]
    rw [r1, r2, r3, f3, f4, f5, up_r, up_r, up_r, s1, s2, s3]
    by_cases q : j = i
    · rw [if_pos q, if_pos q, if_pos q, q]
      exact ⟨rfl, rfl, ev⟩
    · rw [if_neg q, if_neg q, if_neg q]
      exact h4 j (by omega)
theorem c_list {K : Sg → Prop} {M : Nat} (h0 : 0 < N) (hN : N ≤ 13) (he : ∀ j, j < N → σ 225 j = e j) (hM : M ≤ N) (hg : ∀ k, k < M → gos (stp e N k) N) (hx : ¬ gos (stp e N M) N) (hK : ∀ τ : Sg, lpS σ τ e N M → K τ) : wp_X7_listPayments 225 13 (nI N) σ K := by
  have main : ∀ d y τ, y + d = N → lpS σ τ e N (min y M) → b_X7_listPayments_18 225 13 (nI N) K (d + 1) (nI y) τ := by
    intro d
    induction d with
    | zero =>
      intro y τ hy h
      have : y = N := by omega
      subst this
      rw [show min y M = M by omega] at h
      exact br_t (nI_le (Nat.le_refl _) (by omega)) (hK τ h)
    | succ d ih =>
      intro y τ hy h
      refine br_f (nI_ge (by omega) (by omega)) ?_
      have fnd := c_find (σ := τ) (e := stp e N (min y M)) (N := N) (B18 := fun y3' τ => b_X7_listPayments_18 225 13 (nI N) K (d + 1) y3' τ) (K := K) (y3 := nI y) hN h.2.1 ⟨fun q v ev => ?_, fun q => ?_⟩ (N - 1) 1 (by omega) (by omega)
      · rw [lo_1, hi_1] at fnd
        exact ⟨_, fnd⟩
      · rw [ev, nI_1]
        refine ih (y + 1) τ (by omega) ?_
        by_cases z : y < M
        · have := hg y z
          rw [show min y M = y by omega] at q
          exact absurd this (Int32.not_lt.mpr q)
        · rw [show min (y + 1) M = min y M by omega]; exact h
      · have z : y < M := by
          apply Classical.byContradiction
          intro z
          rw [show min y M = M by omega] at q
          exact hx (Int32.not_le.mp q)
        rw [show min y M = y by omega] at h ⊢
        refine c_pay1 h0 hN (by omega) h (fun υ hu v ev => ?_)
        rw [ev, nI_1]
        refine ih (y + 1) υ (by omega) ?_
        rw [show min (y + 1) M = y + 1 by omega]
        exact hu
  unfold wp_X7_listPayments
  rw [show (0 : Int32).toNatClampNeg = 0 from rfl, cl_I (by omega)]
  refine ⟨nI_pos (by omega), by omega, by omega, fun τ1 e1 τ2 e2 => ⟨_, main N 0 τ2 (by omega) ?_⟩⟩
  rw [Nat.zero_min]
  refine ⟨fun k hk => ?_, fun j hj => ?_, by rw [e2, up_s]; rfl, fun j hj => by omega⟩
  · rw [e2, up_o (by omega), e1, upA_o (by omega)]
  · rw [e2, up_o (by decide), e1, upA_k, pk_cpy_in (by omega) (by omega)]
    simp only [Nat.sub_zero, Nat.zero_add]
    exact he j hj
/-! the reference's -/
theorem m_find {B44 : Int32 → Int32 → Int32 → Sg → Prop} {K : Int32 → Sg → Prop} {x1 x2 y3 y4 : Int32} (h0 : 0 < N) (hN : N ≤ 13) (h5 : σ 234 0 = nI (N - 1)) (he : ∀ j, j < N → σ 255 j = e j) (hB : br (0 ≤ e (lo e N)) (b_X10_pays_140 x1 x2 B44 K y3 y4 (nI (lo e N)) (nI (hi e N)) 0 σ) (b_X10_pays_140 x1 x2 B44 K y3 y4 (nI (lo e N)) (nI (hi e N)) 1 σ)) : ∀ d w, w + d = N → 1 ≤ w → b_X10_pays_58 x1 x2 B44 K (d + 1) y3 y4 (nI (lo e w)) (nI (hi e w)) (nI w) σ := by
  intro d
  induction d with
  | zero =>
    intro w hw h1
    have : w = N := by omega
    subst this
    have hl := lo_lt e w h1
    show br _ _ _
    rw [h5]
    refine br_t (nI_lt (by omega) (by omega)) ?_
    rw [vin_T (show lo e w < 13 by omega) (by decide), cl_I (by omega), true_and, he _ hl]
    exact hB
  | succ d ih =>
    intro w hw h1
    have hl := lo_lt e w h1
    have hh := hi_lt e w h1
    have nx := ih (w + 1) (by omega) (by omega)
    show br _ _ _
    rw [h5]
    refine br_f (nI_nlt (by omega) (by omega)) ?_
    rw [vin_T (show w < 13 by omega) (by decide), vin_T (show lo e w < 13 by omega) (by decide), cl_I (by omega), cl_I (by omega), true_and, true_and, he _ (by omega), he w (by omega)]
    have k2 : ∀ z0, b_X10_pays_58 x1 x2 B44 K (d + 1) y3 y4 z0 (nI (hi e (w + 1))) (nI (w + 1)) σ → b_X10_pays_91 x1 x2 B44 (fun y3' y4' y6' y7' y8' τ => b_X10_pays_58 x1 x2 B44 K (d + 1) y3' y4' y6' y7' y8' τ) K y3 y4 (nI (hi e w)) (nI w) z0 σ := by
      intro z0 hz
      unfold b_X10_pays_91
      rw [vin_T (show w < 13 by omega) (by decide), vin_T (show hi e w < 13 by omega) (by decide), cl_I (by omega), cl_I (by omega), true_and, true_and, he w (by omega), he _ (by omega)]
      simp only [hi] at hz
      refine ⟨fun q v ev => ?_, fun q v ev => ?_⟩
      · rw [if_neg (Int32.not_lt.mpr q)] at hz
        rw [ev, nI_1]; exact hz
      · rw [if_pos (Int32.not_le.mp q)] at hz
        rw [ev, nI_1]; exact hz
    refine ⟨fun q => k2 _ ?_, fun q => k2 _ ?_⟩
    · simp only [lo] at nx
      rw [if_neg (Int32.not_lt.mpr q)] at nx
      exact nx
    · simp only [lo] at nx
      rw [if_pos (Int32.not_le.mp q)] at nx
      exact nx
theorem min_sw {a b : Int32} : (if a < b then a else b) = if b < a then b else a := by
  by_cases q : a < b
  · rw [if_pos q, if_neg (fun z => by rw [Int32.lt_iff_toInt_lt] at q z; omega)]
  · rw [if_neg q]
    by_cases z : b < a
    · rw [if_pos z]
    · rw [if_neg z]
      rw [Int32.lt_iff_toInt_lt] at q z
      exact Int32.toInt_inj.mp (by omega)
/-- what the reference has of the payment that is asked for -/
def itv (x1 x2 : Int32) (e : Nat → Int32) (N : Nat) : Nat → Int32
  | 0 => -2
  | i + 1 => if nI i = x1 then (if x2 = 0 then nI (lo (stp e N i) N) else if x2 = 1 then nI (hi (stp e N i) N) else am (stp e N i) N) else itv x1 x2 e N i
theorem m_less' {a b : Int32} {K : Int32 → Sg → Prop} (hK : K (if a < b then a else b) σ) : wp_X10_less a b σ K := by
  unfold wp_X10_less
  refine ⟨fun q => ?_, fun q => ?_⟩
  · rw [if_neg (Int32.not_lt.mpr q)] at hK; exact hK
  · rw [if_pos (Int32.not_le.mp q)] at hK; exact hK
theorem m_pays {K : Int32 → Sg → Prop} {x1 x2 : Int32} {M : Nat} (h0 : 0 < N) (hN : N ≤ 13) (hM : M ≤ N) (hg : ∀ k, k < M → gos (stp e N k) N) (hx : ¬ gos (stp e N M) N) (h5 : σ 234 0 = nI (N - 1)) (hK : ∀ τ : Sg, (∀ k, k ≠ 255 → τ k = σ k) → br (x1 = -1) (K (nI M) τ) (K (itv x1 x2 e N M) τ)) : ∀ d i τ, i + d = M → (∀ k, k ≠ 255 → τ k = σ k) → (∀ j, j < N → τ 255 j = stp e N i j) → b_X10_pays_44 x1 x2 K (d + 2) (nI i) (itv x1 x2 e N i) 1 τ := by
  intro d
  induction d with
  | zero =>
    intro i τ hi' f he
    have : i = M := by omega
    subst this
    refine br_f (by decide) ?_
    have fnd := m_find (σ := τ) (e := stp e N i) (N := N) (B44 := fun y3' y4' y5' τ => b_X10_pays_44 x1 x2 K 1 y3' y4' y5' τ) (K := K) (x1 := x1) (x2 := x2) (y3 := nI i) (y4 := itv x1 x2 e N i) h0 hN (by rw [f 234 (by decide)]; exact h5) he ⟨fun q => ?_, fun q => absurd (Int32.not_le.mp q) hx⟩ (N - 1) 1 (by omega) (by omega)
    · rw [lo_1, hi_1] at fnd
      exact ⟨_, fnd⟩
    · exact br_t rfl (br_t rfl (hK τ f))
  | succ d ih =>
    intro i τ hi' f he
    have hgi := hg i (by omega)
    have hl := lo_lt (stp e N i) N h0
    have hh := hi_lt (stp e N i) N h0
    have e1 := he _ hl
    have e2 := he _ hh
    refine br_f (by decide) ?_
    have fnd := m_find (σ := τ) (e := stp e N i) (N := N) (B44 := fun y3' y4' y5' τ => b_X10_pays_44 x1 x2 K (d + 2) y3' y4' y5' τ) (K := K) (x1 := x1) (x2 := x2) (y3 := nI i) (y4 := itv x1 x2 e N i) h0 hN (by rw [f 234 (by decide)]; exact h5) he ⟨fun q => absurd hgi (Int32.not_lt.mpr q), fun q => ?_⟩ (N - 1) 1 (by omega) (by omega)
    · rw [lo_1, hi_1] at fnd
      exact ⟨_, fnd⟩
    · refine br_f (by decide) ?_
      rw [vin_T (show lo (stp e N i) N < 13 by omega) (by decide), vin_T (show hi (stp e N i) N < 13 by omega) (by decide), cl_I (by omega), cl_I (by omega), true_and, true_and, e1, e2]
      refine m_less' ?_
      rw [min_sw, show (if stp e N i (hi (stp e N i) N) < 0 - stp e N i (lo (stp e N i) N) then stp e N i (hi (stp e N i) N) else 0 - stp e N i (lo (stp e N i) N)) = am (stp e N i) N from rfl]
      have nx : ∀ z0, z0 = itv x1 x2 e N (i + 1) → b_X10_pays_198 x1 x2 (fun y3' y4' y5' τ => b_X10_pays_44 x1 x2 K (d + 2) y3' y4' y5' τ) K (nI i) 1 (nI (lo (stp e N i) N)) (nI (hi (stp e N i) N)) (am (stp e N i) N) z0 τ := by
        intro z0 ez
        unfold b_X10_pays_198
        rw [vin_T (show lo (stp e N i) N < 13 by omega) (by decide), vin_T (show hi (stp e N i) N < 13 by omega) (by decide), cl_I (by omega), cl_I (by omega), e1, ez]
        simp only [true_and]
        intro τ1 f1 τ2 f2 v ev
        rw [ev, nI_1]
        refine ih (i + 1) τ2 (by omega) (fun k hk => by rw [f2, up_o hk, f1, up_o hk]; exact f k hk) (fun j hj => ?_)
        rw [f2, up_r, f1, up_r, up_r]
        show _ = pay (stp e N i) N j
        unfold pay
        by_cases y : j = hi (stp e N i) N
        · rw [if_pos y, if_pos y, e2]
        · rw [if_neg y, if_neg y]
          by_cases y2 : j = lo (stp e N i) N
          · rw [if_pos y2, if_pos y2]
          · rw [if_neg y2, if_neg y2]; exact he j hj
      refine ⟨fun q1 => ⟨fun q2 => nx _ ?_, fun q2 => ⟨fun q3 => nx _ ?_, fun q3 => nx _ ?_⟩⟩, fun q1 => nx _ ?_⟩
      · simp only [itv]; rw [if_pos q1, if_pos q2]
      · simp only [itv]; rw [if_pos q1, if_neg q2, if_pos q3]
      · simp only [itv]; rw [if_pos q1, if_neg q2, if_neg q3]
      · simp only [itv]; rw [if_neg q1]
theorem itv_no {x1 x2 : Int32} : ∀ M, (∀ i, i < M → ¬ nI i = x1) → itv x1 x2 e N M = -2
  | 0, _ => rfl
  | M + 1, h => by simp only [itv]; rw [if_neg (h M (by omega))]; exact itv_no M (fun i hi => h i (by omega))
theorem itv_at {x2 : Int32} {j : Nat} : ∀ M, M ≤ 13 → j < M → itv (nI j) x2 e N M = if x2 = 0 then nI (lo (stp e N j) N) else if x2 = 1 then nI (hi (stp e N j) N) else am (stp e N j) N
  | 0, _, h => by omega
  | M + 1, h13, h => by
    simp only [itv]
    by_cases q : j = M
    · subst q; rw [if_pos rfl]
    · rw [if_neg (fun z => q (nI_m z (by omega) (by omega)).symm)]
      exact itv_at M (by omega) (by omega)
end
theorem op_pays : Op_pays Inv := by
  intro σ x1 x2 h
  obtain ⟨n, B, T, R, m, nx, U, kb, V, h⟩ := h
  have h : In σ n B T R m nx U kb V := h
  obtain ⟨hT, hr, hR, hs, hB, e3, e31, e5, e51, e7, t12, t4, r30⟩ := h.e
  have no : ¬ (0 < T 0 ∧ vp_in x2 3 ∧ -1 ≤ x1) → wp_X10_pays x1 x2 σ (fun r' υ => -1 = r' ∧ Inv υ) := by
    intro q υ e
    have h2 := h.qn (τ := υ) (by rw [e]; exact Qn.z)
    rw [m_has h2.e.2.2.2.2.2.2.2.1 (by omega)]
    refine ⟨fun q1 => br_f (by decide) ?_, fun q1 => br_t rfl ⟨rfl, h2.inv⟩⟩
    rw [wi (n := 3) (by decide)]
    refine ⟨fun q2 => br_f (by decide) ?_, fun q2 => br_t rfl ⟨rfl, h2.inv⟩⟩
    exact br_f (fun q3 => q ⟨q1, q2, q3⟩) ⟨rfl, h2.inv⟩
  unfold wp_X9_pays
  rw [c_has e3 (by omega), L2, br2l (by decide)]
  refine ⟨fun q => br_f (by decide) ⟨fun q2 => ⟨fun q3 => ?_, fun q3 => no (fun y => q3 y.2.2)⟩, fun q2 => no (fun y => q2 y.2.1)⟩, fun q => br_t rfl (no (fun y => q y.1))⟩
  have q20 := q2
  obtain ⟨w, hw, hw2, rfl⟩ := vin_of (by decide) q2
  obtain ⟨M, hM, hg, hx⟩ := stp_end (e := bal T R) (N := T 0 + 1) (by omega) (bal_iv hT hr)
  refine c_rk h (fun τ f hτ hl => ?_)
  rw [hτ.e.2.2.2.2.2.1, nI_1]
  refine c_list (e := bal T R) (by omega) (by omega) (fun j hj => led_bal hT hr hl (by omega)) hM hg hx (fun τ1 lp => ?_)
  obtain ⟨l1, l2, l3, l4⟩ := lp
  have h1 := hτ.qq (τ := τ1) ⟨fun k hk => l1 k (by omega), fun k a b c => l1 k (by omega), by rw [l1 233 (by omega)], by rw [l1 233 (by omega)], by rw [l1 233 (by omega)], by rw [l1 233 (by omega)], by rw [l1 229 (by omega)], by rw [l1 229 (by omega)]⟩ (fun k a b => l1 k (by omega))
  have go : ∀ v : Int32, (x1 = -1 → v = nI M) → (x1 ≠ -1 → v = itv x1 (nI w) (bal T R) (T 0 + 1) M) → wp_X10_pays x1 (nI w) τ1 (fun r' υ => v = r' ∧ Inv υ) := by
    intro v v1 v2 υ e
    have h2 := h1.qn (τ := υ) (by rw [e]; exact Qn.z)
    rw [m_has h2.e.2.2.2.2.2.2.2.1 (by omega), br_T q, br_F (by decide), wi (n := 3) (by decide), br_T q20, br_F (by decide), br_T q3]
    refine m_bal h2.2.2.1.m (fun ω f1 f2 lb => ?_)
    have h3 := h2.qn (bal_q f1 f2)
    refine ⟨_, m_pays (e := bal T R) (N := T 0 + 1) (by omega) (by omega) hM hg hx h3.e.2.2.2.2.2.2.2.1 (fun ω2 fo => ?_) M 0 ω (by omega) (fun _ _ => rfl) (fun j hj => lb j (by omega))⟩
    have h4 := h3.qn (τ := ω2) ⟨⟨fun k hk => fo k (by omega), fun k a b c => fo k (by omega), by rw [fo 233 (by omega)], by rw [fo 233 (by omega)], by rw [fo 233 (by omega)], by rw [fo 233 (by omega)], by rw [fo 229 (by omega)], by rw [fo 229 (by omega)]⟩, fun k a b => fo k (by omega)⟩
    exact ⟨fun y => ⟨v1 y, h4.inv⟩, fun y => ⟨v2 y, h4.inv⟩⟩
  refine ⟨fun y => go _ (fun _ => l3) (fun z => absurd y z), fun y => ?_⟩
  rw [l3]
  have hx0 : ¬ x1 < 0 := fun z => by
    rw [Int32.lt_iff_toInt_lt, t_0] at z
    rw [Int32.le_iff_toInt_le] at q3
    have e1 : (-1 : Int32).toInt = -1 := rfl
    rw [e1] at q3
    exact y (Int32.toInt_inj.mp (by rw [e1]; omega))
  obtain ⟨j, hj, rfl⟩ := nI_of hx0
  rw [br_iff (nI_ltI hj (by omega))]
  refine ⟨fun q4 => ?_, fun q4 => go _ (fun z => absurd z y) (fun _ => (itv_no M (fun i hi z => q4 (by have := nI_m z (by omega) hj; omega))).symm)⟩
  obtain ⟨p1, p2, p3⟩ := l4 j q4
  rw [vin_T (show j < 13 by omega) (by decide), cl_I (by omega)]
  have ia := itv_at (e := bal T R) (N := T 0 + 1) (x2 := nI w) (j := j) M (by omega) q4
  rcases (show w = 0 ∨ w = 1 ∨ w = 2 by omega) with rfl | rfl | rfl
  · exact br_t rfl ⟨trivial, go _ (fun z => absurd z y) (fun _ => by rw [ia, if_pos (show nI 0 = 0 from rfl)]; exact p1)⟩
  · exact br_f (by decide) (br_t rfl ⟨trivial, go _ (fun z => absurd z y) (fun _ => by rw [ia, if_neg (by decide), if_pos (show nI 1 = 1 from rfl)]; exact p2)⟩)
  · exact br_f (by decide) (br_f (by decide) ⟨trivial, go _ (fun z => absurd z y) (fun _ => by rw [ia, if_neg (by decide), if_neg (by decide)]; exact p3)⟩)
