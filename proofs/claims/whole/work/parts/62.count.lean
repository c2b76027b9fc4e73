/-! COUNT; bitCount -/
theorem ofN (x : Int32) : x = nI x.toBitVec.toNat := by
  apply Int32.toBitVec_inj.mp
  apply BitVec.eq_of_toNat_eq
  rw [pk_tn x.toBitVec.isLt]
theorem and_I {a b : Nat} (ha : a < 2 ^ 32) (hb : b < 2 ^ 32) : nI a &&& nI b = nI (a &&& b) := by
  apply Int32.toBitVec_inj.mp
  apply BitVec.eq_of_toNat_eq
  rw [Int32.toBitVec_and, BitVec.toNat_and, pk_tn ha, pk_tn hb, pk_tn (Nat.lt_of_le_of_lt Nat.and_le_left ha)]
/-- a byte's part of a mask -/
theorem and_b {A Q m M : Nat} (hA : A < 256) (hm : m < 256) : (256 * Q + A) &&& (256 * M + m) = 256 * (Q &&& M) + (A &&& m) := by
  apply Nat.eq_of_testBit_eq
  intro j
  have hAm : A &&& m < 2 ^ 8 := Nat.lt_of_le_of_lt Nat.and_le_left hA
  rw [Nat.testBit_and, show 256 = 2 ^ 8 from rfl, Nat.testBit_two_pow_mul_add _ hA, Nat.testBit_two_pow_mul_add _ hm, Nat.testBit_two_pow_mul_add _ hAm]
  split
  · rw [Nat.testBit_and]
  · rw [Nat.testBit_and]
def p8 (y : Nat) : Nat := (y.testBit 0).toNat + (y.testBit 1).toNat + (y.testBit 2).toNat + (y.testBit 3).toNat + (y.testBit 4).toNat + (y.testBit 5).toNat + (y.testBit 6).toNat + (y.testBit 7).toNat
def g8 (y : Nat) : Nat := y - (y / 2 &&& 85)
def h8 (y : Nat) : Nat := (g8 y &&& 51) + (g8 y / 4 &&& 51)
theorem tab8 : ∀ y, y < 256 → (y / 2 &&& 85) ≤ y ∧ h8 y < 256 ∧ h8 y % 16 ≤ 4 ∧ h8 y / 16 ≤ 4 ∧ h8 y % 16 + h8 y / 16 = p8 y ∧ p8 y ≤ 8 ∧ (∀ z, z < 2 → ((y / 2 + 128 * z) &&& 85) = (y / 2 &&& 85)) ∧ (∀ z, z < 4 → ((g8 y / 4 + 64 * z) &&& 51) = (g8 y / 4 &&& 51)) := by decide +kernel
theorem lo4 : ∀ y, y < 256 → (y &&& 15) = y % 16 := by decide +kernel
theorem bc {a b c : Nat} (ha : a < 256) (hb : b < 256) (hc : c < 256) {σ : Sg} {K : Int32 → Sg → Prop} (hK : K (nI (p8 a + p8 b + p8 c)) σ) : wp_J6_bitCount_0f7a4 (nI (256 * (256 * c + b) + a)) σ K := by
  obtain ⟨a1, a2, a3, a4, a5, a6, a7, a8⟩ := tab8 a ha
  obtain ⟨b1, b2, b3, b4, b5, b6, b7, b8⟩ := tab8 b hb
  obtain ⟨c1, c2, c3, c4, c5, c6, c7, c8⟩ := tab8 c hc
  have fa : a / 2 &&& 85 < 256 := Nat.lt_of_le_of_lt a1 ha
  have fb : b / 2 &&& 85 < 256 := Nat.lt_of_le_of_lt b1 hb
  have fc : c / 2 &&& 85 < 256 := Nat.lt_of_le_of_lt c1 hc
  have ga' : g8 a < 256 := by unfold g8; omega
  have gb' : g8 b < 256 := by unfold g8; omega
  have gc' : g8 c < 256 := by unfold g8; omega
  have b32 : ∀ {x y z : Nat}, x < 256 → y < 256 → z < 256 → 256 * (256 * z + y) + x < 2 ^ 24 := fun hx hy hz => by omega
  unfold wp_J6_bitCount_0f7a4
  intro v1 e1 v2 e2 v3 e3 v4 e4 v5 e5
  have s1 : v1 = nI (256 * (256 * g8 c + g8 b) + g8 a) := by
    rw [e1, pk_ushrN (by omega) 1 1 (by decide), show (1431655765 : Int32) = nI (256 * (256 * (256 * 85 + 85) + 85) + 85) from rfl, and_I (by omega) (by decide)]
    have m : (256 * (256 * c + b) + a) / 2 ^ 1 &&& (256 * (256 * (256 * 85 + 85) + 85) + 85) = 256 * (256 * (c / 2 &&& 85) + (b / 2 &&& 85)) + (a / 2 &&& 85) := by
      rw [show (256 * (256 * c + b) + a) / 2 ^ 1 = 256 * (256 * (256 * 0 + c / 2) + (b / 2 + 128 * (c % 2))) + (a / 2 + 128 * (b % 2)) by omega, and_b (by omega) (by decide), and_b (by omega) (by decide), and_b (by omega) (by decide), a7 (b % 2) (by omega), b7 (c % 2) (by omega), Nat.zero_and]
      omega
    rw [m, pk_sub (by omega)]
    congr 1
    unfold g8
    omega
  have s2 : v2 = nI (256 * (256 * h8 c + h8 b) + h8 a) := by
    have d1 : 256 * (256 * g8 c + g8 b) + g8 a &&& (256 * (256 * (256 * 51 + 51) + 51) + 51) = 256 * (256 * (g8 c &&& 51) + (g8 b &&& 51)) + (g8 a &&& 51) := by
      rw [show 256 * (256 * g8 c + g8 b) + g8 a = 256 * (256 * (256 * 0 + g8 c) + g8 b) + g8 a by omega, and_b ga' (by decide), and_b gb' (by decide), and_b gc' (by decide), Nat.zero_and]
      omega
    have d2 : (256 * (256 * g8 c + g8 b) + g8 a) / 2 ^ 2 &&& (256 * (256 * (256 * 51 + 51) + 51) + 51) = 256 * (256 * (g8 c / 4 &&& 51) + (g8 b / 4 &&& 51)) + (g8 a / 4 &&& 51) := by
      rw [show (256 * (256 * g8 c + g8 b) + g8 a) / 2 ^ 2 = 256 * (256 * (256 * 0 + g8 c / 4) + (g8 b / 4 + 64 * (g8 c % 4))) + (g8 a / 4 + 64 * (g8 b % 4)) by omega, and_b (by omega) (by decide), and_b (by omega) (by decide), and_b (by omega) (by decide), a8 (g8 b % 4) (by omega), b8 (g8 c % 4) (by omega), Nat.zero_and]
      omega
    rw [e2, s1, pk_ushrN (by omega) 2 2 (by decide), show (858993459 : Int32) = nI (256 * (256 * (256 * 51 + 51) + 51) + 51) from rfl, and_I (by omega) (by decide), and_I (by omega) (by decide), d1, d2, nI_add]
    congr 1
    unfold h8
    omega
  have s3 : v3 = nI (256 * (256 * p8 c + p8 b) + p8 a) := by
    have d : (256 * (256 * h8 c + h8 b) + h8 a) + (256 * (256 * h8 c + h8 b) + h8 a) / 2 ^ 4 = 256 * (256 * (256 * 0 + (h8 c + h8 c / 16)) + (h8 b + h8 b / 16 + 16 * (h8 c % 16))) + (h8 a + h8 a / 16 + 16 * (h8 b % 16)) := by omega
    rw [e3, s2, pk_ushrN (by omega) 4 4 (by decide), nI_add, show (252645135 : Int32) = nI (256 * (256 * (256 * 15 + 15) + 15) + 15) from rfl, and_I (by omega) (by decide), d, and_b (by omega) (by decide), and_b (by omega) (by decide), and_b (by omega) (by decide), Nat.zero_and, lo4 _ (by omega), lo4 _ (by omega), lo4 _ (by omega)]
    congr 1
    omega
  have s4 : v4 = nI (256 * (256 * (p8 c) + (p8 b + p8 c)) + (p8 a + p8 b)) := by
    rw [e4, s3, pk_ushrN (by omega) 8 8 (by decide), nI_add]
    congr 1
    omega
  have s5 : v5 = nI (256 * (256 * (p8 c) + (p8 b + p8 c)) + (p8 a + p8 b) + p8 c) := by
    rw [e5, s4, pk_ushrN (by omega) 16 16 (by decide), nI_add]
    congr 1
    omega
  rw [s5, pk_andN (by omega) 6 (by decide)]
  rw [show (256 * (256 * (p8 c) + (p8 b + p8 c)) + (p8 a + p8 b) + p8 c) % 2 ^ 6 = p8 a + p8 b + p8 c by omega]
  exact hK
section
variable {σ : Sg} {T R : Nat → Nat} {K : Int32 → Sg → Prop}
theorem c_bits {x : Int32} (hb : ∀ j, j < 32 → bt x j = (decide (j < 24) && decide (R (391 + j) = 1))) (h1 : ∀ k, k < 24 → R (391 + k) ≤ 1) (hK : K (nI (su (fun k => R (391 + k)) 24)) σ) : wp_J6_bitCount_0f7a4 x σ K := by
  have hX : x.toBitVec.toNat < 2 ^ 24 := by
    apply Nat.lt_pow_two_of_testBit
    intro i hi
    by_cases q : i < 32
    · have := hb i q
      unfold bt at this
      have z : decide (i < 24) = false := decide_eq_false (by omega)
      rw [z, Bool.false_and] at this
      exact this
    · exact Nat.testBit_lt_two_pow (Nat.lt_of_lt_of_le x.toBitVec.isLt (Nat.pow_le_pow_right (by decide) (by omega)))
  have tb : ∀ j, j < 24 → (x.toBitVec.toNat.testBit j).toNat = R (391 + j) := by
    intro j hj
    have := hb j (by omega)
    unfold bt at this
    have e : x.toBitVec.toNat.testBit j = decide (R (391 + j) = 1) := by
      rw [show x.toBitVec.getLsbD j = x.toBitVec.toNat.testBit j from rfl] at this
      rw [this]
      simp [hj]
    rw [e]
    have := h1 j hj
    by_cases q : R (391 + j) = 1
    · rw [q]; rfl
    · rw [show R (391 + j) = 0 by omega]; rfl
  have ex : x = nI (256 * (256 * (x.toBitVec.toNat / 65536) + x.toBitVec.toNat / 256 % 256) + x.toBitVec.toNat % 256) := by
    rw [show 256 * (256 * (x.toBitVec.toNat / 65536) + x.toBitVec.toNat / 256 % 256) + x.toBitVec.toNat % 256 = x.toBitVec.toNat by omega]
    exact ofN x
  have t0 : ∀ j, j < 8 → (x.toBitVec.toNat % 256).testBit j = x.toBitVec.toNat.testBit j := fun j hj => by
    rw [show 256 = 2 ^ 8 from rfl, Nat.testBit_mod_two_pow]; simp [hj]
  have t1 : ∀ j, j < 8 → (x.toBitVec.toNat / 256 % 256).testBit j = x.toBitVec.toNat.testBit (8 + j) := fun j hj => by
    rw [show x.toBitVec.toNat / 256 % 256 = (x.toBitVec.toNat / 2 ^ 8) % 2 ^ 8 from rfl, Nat.testBit_mod_two_pow, Nat.testBit_div_two_pow]; simp [hj, Nat.add_comm]
  have t2 : ∀ j, j < 8 → (x.toBitVec.toNat / 65536).testBit j = x.toBitVec.toNat.testBit (16 + j) := fun j hj => by
    rw [show x.toBitVec.toNat / 65536 = x.toBitVec.toNat / 2 ^ 16 from rfl, Nat.testBit_div_two_pow, Nat.add_comm]
  rw [ex]
  refine bc (by omega) (by omega) (by omega) ?_
  have e : p8 (x.toBitVec.toNat % 256) + p8 (x.toBitVec.toNat / 256 % 256) + p8 (x.toBitVec.toNat / 65536) = su (fun k => R (391 + k)) 24 := by
    unfold p8
    simp (disch := omega) only [t0, t1, t2, Nat.reduceAdd, tb, su]
    omega
  rw [e]
  exact hK
theorem c_games_l (hs : sea σ 55 R) (h30 : R 0 ≤ 30) (hK : K (nI (su (fun t => rT R t 4) (R 0))) σ) : ∀ d t, t + d = R 0 → b_X6_allGames_4 55 K (d + 1) (nI (su (fun t => rT R t 4) t)) (nI t) σ := by
  intro d
  induction d with
  | zero =>
    intro t ht
    have : t = R 0 := by omega
    subst this
    refine br_t ?_ hK
    rw [hs.1]
    exact nI_le (Nat.le_refl _) (by omega)
  | succ d ih =>
    intro t ht
    obtain ⟨-, -, -, -, e5, -⟩ := hs.2.2 t (by omega)
    refine br_f ?_ ?_
    · rw [hs.1]
      exact nI_ge (by omega) (by omega)
    · simp (disch := omega) only [vin_T, cl_I, true_and, e5, forall_eq, nI_1, nI_add]
      exact ih (t + 1) (by omega)
theorem m_games_l {x : Int32} (hR : rowR (σ 236) R) (h30 : R 0 ≤ 30) (hK : K (nI (su (fun t => rT R t 4) (R 0))) σ) : ∀ d t, t + d = R 0 → b_X10_count_77 x K (d + 1) (nI (su (fun t => rT R t 4) t)) (nI t) σ := by
  have e0 := hR 0 (by omega)
  intro d
  induction d with
  | zero =>
    intro t ht
    have : t = R 0 := by omega
    subst this
    refine br_t ?_ hK
    rw [e0]
    exact nI_le (Nat.le_refl _) (by omega)
  | succ d ih =>
    intro t ht
    refine br_f ?_ ?_
    · rw [e0]
      exact nI_ge (by omega) (by omega)
    · rw [m_games hR (by omega)]
      intro v ev w ew
      rw [ev, ew, nI_1, nI_add]
      exact ih (t + 1) (by omega)
/-- how many are decided -/
def nDe (R : Nat → Nat) (n : Nat) : Nat := su (fun t => if 0 < rT R t 4 ∧ wo R t (rT R t 4 - 1) ≠ 2 then 1 else 0) n
theorem c_dec_l (hs : sea σ 55 R) (hr : rowOk T R) (hK : K (nI (nDe R (R 0))) σ) : ∀ d t, t + d = R 0 → b_X6_decidedTies_4 55 K (d + 1) (nI (nDe R t)) (nI t) σ := by
  have h30 := hr.1
  intro d
  induction d with
  | zero =>
    intro t ht
    have : t = R 0 := by omega
    subst this
    refine br_t ?_ hK
    rw [hs.1]
    exact nI_le (Nat.le_refl _) (by omega)
  | succ d ih =>
    intro t ht
    refine br_f ?_ ?_
    · rw [hs.1]
      exact nI_ge (by omega) (by omega)
    · have ih' := ih (t + 1) (by omega)
      unfold nDe at ih'
      simp only [su] at ih'
      rw [c_dec hs hr (by omega)]
      by_cases q : de R t
      · rw [br_T q, br_F (by decide)]
        rw [if_pos (show 0 < rT R t 4 ∧ wo R t (rT R t 4 - 1) ≠ 2 from q)] at ih'
        intro v ev w ew
        rw [ev, ew, nI_1, nI_1]
        exact ih'
      · rw [br_F q, br_T rfl]
        rw [if_neg (show ¬ (0 < rT R t 4 ∧ wo R t (rT R t 4 - 1) ≠ 2) from q)] at ih'
        intro w ew
        rw [ew, nI_1]
        exact ih'
theorem m_dec_l {x : Int32} (hR : rowR (σ 236) R) (hr : rowOk T R) (hK : K (nI (nDe R (R 0))) σ) : ∀ d t, t + d = R 0 → b_X10_count_105 x K (d + 1) (nI (nDe R t)) (nI t) σ := by
  have h30 := hr.1
  have e0 := hR 0 (by omega)
  intro d
  induction d with
  | zero =>
    intro t ht
    have : t = R 0 := by omega
    subst this
    refine br_t ?_ hK
    rw [e0]
    exact nI_le (Nat.le_refl _) (by omega)
  | succ d ih =>
    intro t ht
    refine br_f ?_ ?_
    · rw [e0]
      exact nI_ge (by omega) (by omega)
    · have ih' := ih (t + 1) (by omega)
      unfold nDe at ih'
      simp only [su] at ih'
      rw [m_dec hR hr (by omega)]
      by_cases q : de R t
      · rw [br_T q, br_F (by decide)]
        rw [if_pos (show 0 < rT R t 4 ∧ wo R t (rT R t 4 - 1) ≠ 2 from q)] at ih'
        intro v ev w ew
        rw [ev, ew, nI_1, nI_1]
        exact ih'
      · rw [br_F q, br_T rfl]
        rw [if_neg (show ¬ (0 < rT R t 4 ∧ wo R t (rT R t 4 - 1) ≠ 2) from q)] at ih'
        intro v ev w ew
        rw [ev, ew, nI_1, L0, nI_add]
        exact ih'
theorem m_cl_l {x : Int32} (hR : rowR (σ 236) R) (hK : K (nI (su (fun k => R (391 + k)) 24)) σ) : ∀ d k, k + d = 24 → b_X10_count_141 x K (d + 1) (nI (su (fun k => R (391 + k)) k)) (nI k) σ := by
  intro d
  induction d with
  | zero =>
    intro k hk
    have : k = 24 := by omega
    subst this
    exact br_t (by decide) hK
  | succ d ih =>
    intro k hk
    refine br_f (nI_ge (b := 24) (by omega) (by decide)) ?_
    rw [L391, nI_add, vin_T (by omega) (by decide), true_and, cl_I (by omega), hR (391 + k) (by omega)]
    intro v ev w ew
    rw [ev, ew, nI_1, nI_add]
    exact ih (k + 1) (by omega)
end
theorem op_count : Op_count Inv := by
  intro σ x h
  obtain ⟨n, B, T, R, m, nx, U, kb, V, h⟩ := h
  have h : In σ n B T R m nx U kb V := h
  obtain ⟨hT, hr, hR, hs, hB, e3, e31, e5, e51, e7, t12, t4, r30⟩ := h.e
  have es : σ 55 0 = nI (R 0) := hs.1
  have h2 : In (up σ 233 0 0) n B T R m nx U kb V := h.qn Qn.z
  obtain ⟨-, -, hR2, -, -, -, -, f5, f51, f7, -⟩ := h2.e
  have g4 := h.2.2.2.1.2.2.2.1
  have g5 := h2.2.2.2.1.2.2.2.2.1
  have n1 := h.1.2.1
  have n2 := h2.1.2.2.1
  unfold wp_X9_count
  refine ⟨fun q => ?_, fun q0 => ⟨fun q => ?_, fun q1 => ⟨fun q => ?_, fun q2 => ⟨fun q => ?_, fun q3 => ⟨fun q => ?_, fun q4 => ⟨fun q => ?_, fun q5 => ⟨fun q => ?_, fun q6 => ⟨fun q => ?_, fun q7 => ?_⟩⟩⟩⟩⟩⟩⟩⟩
  · intro τ e; subst e
    rw [br_T q]
    show _ = _ ∧ _
    exact ⟨by rw [e3, f5], h2.inv⟩
  · intro τ e; subst e
    rw [br_F q0, br_T q]
    exact ⟨by rw [e31, f51], h2.inv⟩
  · intro τ e; subst e
    rw [br_F q0, br_F q1, br_T q]
    exact ⟨by rw [es, f7], h2.inv⟩
  · refine ⟨_, c_games_l hs r30 (fun τ e => ?_) (R 0) 0 (by omega)⟩
    subst e
    rw [br_F q0, br_F q1, br_F q2, br_T q]
    exact ⟨_, m_games_l hR2 r30 ⟨rfl, h2.inv⟩ (R 0) 0 (by omega)⟩
  · refine ⟨_, c_dec_l hs hr (fun τ e => ?_) (R 0) 0 (by omega)⟩
    subst e
    rw [br_F q0, br_F q1, br_F q2, br_F q3, br_T q]
    exact ⟨_, m_dec_l hR2 hr ⟨rfl, h2.inv⟩ (R 0) 0 (by omega)⟩
  · refine c_bits hs.2.1 hr.2.2.2 (fun τ e => ?_)
    subst e
    rw [br_F q0, br_F q1, br_F q2, br_F q3, br_F q4, br_T q]
    exact ⟨_, m_cl_l hR2 ⟨rfl, h2.inv⟩ 24 0 (by omega)⟩
  · intro τ e; subst e
    rw [br_F q0, br_F q1, br_F q2, br_F q3, br_F q4, br_F q5, br_T q]
    exact ⟨by rw [g4, g5], h2.inv⟩
  · intro τ e; subst e
    rw [br_F q0, br_F q1, br_F q2, br_F q3, br_F q4, br_F q5, br_F q6, br_T q]
    exact ⟨by rw [n1, n2], h2.inv⟩
  · intro τ e; subst e
    rw [br_F q0, br_F q1, br_F q2, br_F q3, br_F q4, br_F q5, br_F q6, br_F q7]
    exact ⟨rfl, h2.inv⟩
