/-! UNDO, KEEP, AGAIN -/
theorem In.act {σ υ : Sg} {n : Nat} {B T R R' : Nat → Nat} {m nx m' nx' : Nat} {U U' : Nat → Nat → Nat} {kb kb' : Nat → Nat} {V V' : Nat → Nat → Nat} (h : In σ n B T R m nx U kb V) (o : ∀ k, (k < 27 ∨ k = 229 ∨ k = 229 ∨ k = 234 ∨ k = 240) → υ k = σ k) (o4 : ∀ j, j = 9 ∨ j = 11 ∨ j = 12 → υ 233 j = σ 233 j) (hrow : rowOk T R') (hR : rowR (υ 236) R') (hs : sea υ 55 R') (hh : histR υ T m' nx' U') (hk : keptR υ T kb' V') (ht : T 0 ≠ 0) (hz : isZ (υ 180 6)) (hl : υ 180 6 = 1 → led υ T R') : In υ n B T R' m' nx' U' kb' V' := by
  obtain ⟨a1, a2, a3, a4, a5, a6, a7, a8⟩ := h
  refine ⟨tapeR_congr a1 (by rw [o 1 (by omega)]) (o 2 (by omega)) (o4 9 (by omega)) (o 240 (by omega)), ⟨by rw [o 1 (by omega), o4 11 (by omega)]; exact a2.1, by rw [o 1 (by omega), o4 12 (by omega)]; exact a2.2⟩, ⟨a3.1, hrow, bookR_congr a3.1 a3.2.2.1 (o 234 (by omega)) (o 3 (by omega)) (fun k _ _ => o k (by omega)), hR, hs⟩, hh, hk, ⟨fun z => absurd z ht, hz, hl⟩, by rw [o 229 (by omega)]; exact a7, by rw [o 229 (by omega)]; exact a8⟩
theorem op_undo : Op_undo Inv := by
  intro σ h
  obtain ⟨n, B, T, R, m, nx, U, kb, V, h⟩ := h
  have h : In σ n B T R m nx U kb V := h
  obtain ⟨hT, hr, hR, hs, hB, e3, e31, e5, e51, e7, t12, t4, r30⟩ := h.e
  have hh := h.2.2.2.1
  obtain ⟨⟨g1, g2, g3, g4, g5⟩, ⟨u1, u2⟩, u3⟩ := hist_to hh
  unfold wp_X9_undo
  rw [c_has e3 (by omega)]
  by_cases q : 0 < T 0
  · rw [br_T q, br_F (by decide), g4, L0, br_iff (nI_eq (by omega) (by decide))]
    by_cases q2 : m = 0
    · rw [br_T q2]
      intro τ e
      have h2 := h.qn (τ := τ) (by rw [e]; exact Qn.z)
      have u1' : τ 233 5 = nI m := h2.2.2.2.1.2.2.2.2.1
      rw [m_has h2.e.2.2.2.2.2.2.2.1 (by omega), br_T q, br_F (by decide), u1', L0, br_T (by rw [q2])]
      exact ⟨rfl, h2.inv⟩
    · rw [br_F q2]
      unfold wp_X2_takeBack
      have hx : (nx + 11) % 12 < 12 := Nat.mod_lt _ (by decide)
      intro τ e
      have e' : τ = up σ 63 1 (nI ((nx + 11) % 12)) := by
        rw [e, g3, L12, nI_add, L1, pk_sub (by omega), pk_rem (by omega) (by decide) (by decide)]
        rfl
      have eidx : (nx + 12 - m + (m - 1)) % 12 = (nx + 11) % 12 := by omega
      have hsU : sea τ (65 + 8 * ((nx + 11) % 12)) (U (m - 1)) := by
        rw [← eidx]
        exact sea_congr (g5 (m - 1) (by omega)) (fun k k1 k2 => by rw [e', up_o (by omega)])
      have hro := u3 (m - 1) (by omega)
      rw [show τ 63 1 = nI ((nx + 11) % 12) by rw [e', up_s], vin_T hx (by decide), true_and, cl_I (by omega), show 64 + 1 + 8 * ((nx + 11) % 12) = 65 + 8 * ((nx + 11) % 12) from rfl]
      refine c_copy (R := U (m - 1)) (by omega) hsU hro.1 (row4 hro) (fun τ1 f s => ?_)
      intro τ2 e2 τ3 e3'
      have z2 : τ2 63 2 = nI (m - 1) := by
        rw [e2, up_s, f 63 (by omega), e', up_j (by decide), g4, L1, sub1 (by omega)]
      have o : ∀ k, (k < 55 ∨ 63 ≤ k) → k ≠ 63 → k ≠ 180 → τ3 k = σ k := fun k a b c => by
        rw [e3', up_o c, e2, up_o b, f k (by omega), e', up_o b]
      have z3 : τ3 63 2 = nI (m - 1) := by rw [e3', up_o (by decide), z2]
      have z1 : τ3 63 1 = nI ((nx + 11) % 12) := by rw [e3', up_o (by decide), e2, up_j (by decide), f 63 (by omega), e', up_s]
      have s3 : sea τ3 55 (U (m - 1)) := sea_congr s (fun k k1 k2 => by rw [e3', up_o (by omega), e2, up_o (by omega)])
      have z6 : τ3 180 6 = 0 := by rw [e3', up_s]; rfl
      rw [z3]
      intro τ4 e4
      have m4 : τ4 234 0 = nI (T 0) := by rw [e4, up_o (by decide), o 234 (by omega) (by omega) (by omega)]; exact e5
      have m5 : τ4 233 5 = nI m := by rw [e4, up_j (by decide), o 233 (by omega) (by omega) (by omega)]; exact u1
      rw [m_has m4 (by omega), br_T q, br_F (by decide), m5, show (0 : Int32) = nI 0 from rfl, br_iff (nI_eq (by omega) (by decide)), br_F q2]
      intro τ5 e5'
      rw [L1, sub1 (by omega)] at e5'
      refine ⟨416, m_u36 (m := m - 1) (by rw [e5', up_s]) (by omega) (fun υ v1 v2 v3 => ?_) 415 0 τ5 (by omega) Fr.rf (fun j hj => by omega) (fun j hj => rfl)⟩
      have x5 : υ 233 5 = nI (m - 1) := by rw [v1 233 (by decide), e5', up_s]
      refine ⟨x5.symm, ?_⟩
      have oo : ∀ k, k ≠ 236 → k ≠ 233 → υ k = τ3 k := fun k a b => by rw [v1 k (by simp [a]), e5', up_o b, e4, up_o b]
      have o8 : υ 237 = σ 237 := by rw [oo 237 (by omega) (by omega), o 237 (by omega) (by omega) (by omega)]
      refine (h.act (R' := U (m - 1)) (m' := m - 1) (nx' := (nx + 11) % 12) (U' := U) (kb' := kb) (V' := V) (fun k hk => ?_) (fun j hj => ?_) hro (fun k hk => ?_) (sea_congr s3 (fun k k1 k2 => oo k (by omega) (by omega))) (hist_of ⟨hx, by omega, ?_, ?_, fun i hi => ?_⟩ ⟨x5, fun i hi => ?_⟩ (fun i hi => u3 i (by omega))) (keptR_congr h.2.2.2.2.1 ?_ ?_ ?_ (fun k _ _ => ?_)) (by omega) ?_ (fun z => ?_)).inv
      · rw [oo k (by omega) (by omega), o k (by omega) (by omega) (by omega)]
      · rw [v1 233 (by decide), e5', up_j (by omega), e4, up_j (by omega), o 233 (by omega) (by omega) (by omega)]
      · rw [v2 k hk, e5', up_o (by decide), e4, up_o (by decide), o 237 (by omega) (by omega) (by omega)]
        exact u2 (m - 1) (by omega) k hk
      · rw [oo 63 (by omega) (by omega)]; exact z1
      · rw [oo 63 (by omega) (by omega)]; exact z3
      · have hb : (nx + 12 - m + i) % 12 < 12 := Nat.mod_lt _ (by decide)
        rw [show ((nx + 11) % 12 + 12 - (m - 1) + i) % 12 = (nx + 12 - m + i) % 12 by omega]
        exact sea_congr (g5 i (by omega)) (fun k k1 k2 => by rw [oo k (by omega) (by omega), o k (by omega) (by omega) (by omega)])
      · rw [o8]; exact u2 i (by omega)
      · rw [oo 178 (by omega) (by omega), o 178 (by omega) (by omega) (by omega)]
      · rw [oo 239 (by omega) (by omega), o 239 (by omega) (by omega) (by omega)]
      · rw [oo 238 (by omega) (by omega), o 238 (by omega) (by omega) (by omega)]
      · rw [oo k (by omega) (by omega), o k (by omega) (by omega) (by omega)]
      · rw [oo 180 (by omega) (by omega), z6]; exact isZ_0
      · rw [oo 180 (by omega) (by omega), z6] at z
        exact absurd z (by decide)
  · rw [br_F q, br_T rfl]
    intro τ e
    have h2 := h.qn (τ := τ) (by rw [e]; exact Qn.z)
    rw [m_has h2.e.2.2.2.2.2.2.2.1 (by omega), br_F q, br_T rfl]
    exact ⟨rfl, h2.inv⟩
theorem op_keep : Op_keep Inv := by
  intro σ x h
  obtain ⟨n, B, T, R, m, nx, U, kb, V, h⟩ := h
  have h : In σ n B T R m nx U kb V := h
  obtain ⟨hT, hr, hR, hs, hB, e3, e31, e5, e51, e7, t12, t4, r30⟩ := h.e
  have hh := h.2.2.2.1
  have hkp := h.2.2.2.2.1
  unfold wp_X9_keep
  rw [c_has e3 (by omega), show (2 : Int32) = nI 2 from rfl, br2' (by decide)]
  have m0 : ∀ τ, τ = up σ 233 0 0 → In τ n B T R m nx U kb V := fun τ e => h.qn (by rw [e]; exact Qn.z)
  by_cases q : 0 < T 0
  · rw [br_T q, br_F (by decide)]
    by_cases q2 : vp_in x 2
    · rw [br_T q2]
      obtain ⟨k, hk, hk2, rfl⟩ := vin_of (by decide) q2
      rw [eq_true q2, true_and, cl_I hk2, show 161 + 1 + 8 * k = 162 + 8 * k from rfl]
      refine c_copy (R := R) (by omega) hs r30 (row4 hr) (fun τ f s => ?_)
      rw [true_and]
      intro τ1 e1 τ2 e2
      have h235 : τ2 234 0 = nI (T 0) := by rw [e2, up_o (by decide), e1, up_o (by decide), f 234 (by omega)]; exact e5
      rw [wi (n := 2) (by decide), br_T q2, br_F (by decide), m_has h235 (by omega), br_T q, br_F (by decide)]
      refine ⟨416, m_k26 (by omega) (fun υ v1 v2 v3 => ?_) 415 0 τ2 (by omega) Fr.rf (fun j hj => by omega) (fun j hj => rfl)⟩
      rw [eq_true q2, true_and, cl_I hk2]
      intro ω e4
      refine ⟨rfl, ?_⟩
      have o : ∀ i, (i < 162 + 8 * k ∨ 170 + 8 * k ≤ i) → i ≠ 178 → i ≠ 233 → i ≠ 238 → i ≠ 239 → ω i = σ i := fun i a b c d e => by
        rw [e4, up_o e, v1 i (by simp [d]), e2, up_o c, e1, up_o b, f i (by omega)]
      have o4 : ∀ j, j ≠ 0 → ω 233 j = σ 233 j := fun j hj => by
        rw [e4, up_o (by decide), v1 233 (by decide), e2, up_j hj, e1, up_o (by decide), f 233 (by omega)]
      have o178 : ∀ j, ω 178 j = if j = k then 1 else σ 178 j := fun j => by
        rw [e4, up_o (by decide), v1 178 (by decide), e2, up_o (by decide), e1]
        by_cases z : j = k
        · rw [if_pos z, z, up_s]
        · rw [if_neg z, up_j z, f 178 (by omega)]
      have o240 : ∀ j, ω 239 j = if j = k then 1 else σ 239 j := fun j => by
        rw [e4]
        by_cases z : j = k
        · rw [if_pos z, z, up_s]
        · rw [if_neg z, up_j z, v1 239 (by decide), e2, up_o (by decide), e1, up_o (by decide), f 239 (by omega)]
      have o239 : ω 238 = υ 238 := by rw [e4, up_o (by decide)]
      have s9 : τ2 238 = σ 238 := by rw [e2, up_o (by decide), e1, up_o (by decide), f 238 (by omega)]
      have s7 : τ2 236 = σ 236 := by rw [e2, up_o (by decide), e1, up_o (by decide), f 236 (by omega)]
      have e180 : ω 180 = σ 180 := o 180 (by omega) (by omega) (by omega) (by omega) (by omega)
      refine (h.act (R' := R) (m' := m) (nx' := nx) (U' := U) (kb' := fun i => if i = k then 1 else kb i) (V' := fun i => if i = k then R else V i) (fun i hi => o i (by omega) (by omega) (by omega) (by omega) (by omega)) (fun j hj => o4 j (by omega)) hr (by rw [o 236 (by omega) (by omega) (by omega) (by omega) (by omega)]; exact hR) (sea_congr hs (fun i i1 i2 => o i (by omega) (by omega) (by omega) (by omega) (by omega))) (histR_congr hh (o 63 (by omega) (by omega) (by omega) (by omega) (by omega)) (o4 5 (by omega)) (o 237 (by omega) (by omega) (by omega) (by omega) (by omega)) (fun i i1 i2 => o i (by omega) (by omega) (by omega) (by omega) (by omega))) ?_ (by omega) (by rw [e180]; exact h.2.2.2.2.2.1.2.1) (fun z => by rw [e180] at z; exact led_congr hT (h.2.2.2.2.2.1.2.2 z) (fun i i1 i2 => o i (by omega) (by omega) (by omega) (by omega) (by omega)))).inv
      intro i hi
      rw [o178, o240]
      by_cases z : i = k
      · subst z
        simp only [if_true]
        refine ⟨Nat.le_refl _, rfl, rfl, fun _ => ⟨fun j hj => ?_, hr, sea_congr s (fun i1 i2 i3 => ?_)⟩⟩
        · show ω 238 (415 * i + j) = _
          rw [o239, v2 j hj, s7]
          exact hR j hj
        · rw [e4, up_o (by omega), v1 i1 (by simp; omega), e2, up_o (by omega), e1, up_o (by omega)]
      · simp only [if_neg z]
        obtain ⟨b1, b2, b3, b4⟩ := hkp i hi
        refine ⟨b1, b2, b3, fun y => ?_⟩
        obtain ⟨c1, c2, c3⟩ := b4 y
        refine ⟨fun j hj => ?_, c2, sea_congr c3 (fun i1 i2 i3 => o i1 (by omega) (by omega) (by omega) (by omega) (by omega))⟩
        show ω 238 (415 * i + j) = _
        rw [o239, v3 (415 * i + j) (fun i' hi' => by omega), s9]
        exact c1 j hj
    · rw [br_F q2]
      intro τ e
      have h2 := m0 τ e
      rw [wi (n := 2) (by decide), br_F q2, br_T rfl]
      exact ⟨rfl, h2.inv⟩
  · rw [br_F q, br_T rfl]
    intro τ e
    have h2 := m0 τ e
    rw [wi (n := 2) (by decide), m_has h2.e.2.2.2.2.2.2.2.1 (by omega), br_F q, br_T rfl]
    by_cases q2 : vp_in x 2
    · rw [br_T q2, br_F (by decide)]; exact ⟨rfl, h2.inv⟩
    · rw [br_F q2, br_T rfl]; exact ⟨rfl, h2.inv⟩
theorem op_again : Op_again Inv := by
  intro σ x h
  obtain ⟨n, B, T, R, m, nx, U, kb, V, h⟩ := h
  have h : In σ n B T R m nx U kb V := h
  obtain ⟨hT, hr, hR, hs, hB, e3, e31, e5, e51, e7, t12, t4, r30⟩ := h.e
  have hh := h.2.2.2.1
  have hkp := h.2.2.2.2.1
  obtain ⟨hg, hu, hro⟩ := hist_to hh
  unfold wp_X9_again
  rw [show (2 : Int32) = nI 2 from rfl, br2 (by decide)]
  by_cases q : vp_in x 2
  · rw [br_T q]
    obtain ⟨k, hk, hk2, rfl⟩ := vin_of (by decide) q
    obtain ⟨b1, b2, b3, b4⟩ := hkp k hk
    rw [eq_true q, true_and, cl_I hk2, b2, L0, br_iff (nI_eq (by omega) (by decide))]
    by_cases z : kb k = 0
    · rw [br_T z]
      intro τ e
      have h2 := h.qn (τ := τ) (by rw [e]; exact Qn.z)
      have b3' := (h2.2.2.2.2.1 k hk).2.2.1
      rw [wi (n := 2) (by decide), br_T q, br_F (by decide), eq_true q, true_and, cl_I hk2, b3', L0, br_T (by rw [z])]
      exact ⟨rfl, h2.inv⟩
    · rw [br_F z]
      have hk1 : kb k = 1 := by omega
      obtain ⟨c1, c2, c3⟩ := b4 hk1
      have hT0 : T 0 ≠ 0 := fun y => by
        obtain ⟨-, y1, y2, -⟩ := h.2.2.2.2.2.1.1 y
        have : k = 0 ∨ k = 1 := by omega
        rcases this with rfl | rfl <;> omega
      refine c_rem hg hs r30 (row4 hr) (fun τ f1 f2 f3 f4 => ?_)
      rw [true_and, show 161 + 1 + 8 * k = 162 + 8 * k from rfl]
      have c3' : sea τ (162 + 8 * k) (V k) := sea_congr c3 (fun i i1 i2 => f1 i (by omega))
      refine c_copy (R := V k) (by omega) c3' c2.1 (row4 c2) (fun τ1 f s => ?_)
      intro τ2 e2
      have o2 : ∀ i, (i < 55 ∨ 161 ≤ i) → i ≠ 180 → i ≠ 233 → τ2 i = σ i := fun i a b c => by
        rw [e2, up_o c, f i (by omega), f1 i (by omega)]
      have o24 : ∀ j, j ≠ 0 → τ2 233 j = σ 233 j := fun j hj => by rw [e2, up_j hj, f 233 (by omega), f1 233 (by omega)]
      have b3' : τ2 239 k = nI (kb k) := by rw [o2 239 (by omega) (by omega) (by omega)]; exact b3
      rw [wi (n := 2) (by decide), br_T q, br_F (by decide), eq_true q, true_and, cl_I hk2, b3', show (0 : Int32) = nI 0 from rfl, br_iff (nI_eq (by omega) (by decide)), br_F z]
      refine m_rem (R := R) hg.2.1 (U := U) ⟨by rw [o24 5 (by omega)]; exact hu.1, fun i hi => by rw [o2 237 (by omega) (by omega) (by omega)]; exact hu.2 i hi⟩ (by rw [o2 236 (by omega) (by omega) (by omega)]; exact hR) (fun τ3 g1 g2 g3 => ?_)
      refine ⟨416, m_a32 (by omega) (fun υ v1 v2 v3 => ⟨rfl, ?_⟩) 415 0 τ3 (by omega) Fr.rf (fun j hj => by omega) (fun j hj => rfl)⟩
      have o : ∀ i, (i < 55 ∨ 161 ≤ i) → i ≠ 180 → i ≠ 233 → i ≠ 236 → i ≠ 237 → υ i = σ i := fun i a b c d e => by
        rw [v1 i (by simp [d]), g1 i (by simp [c, e]), o2 i a b c]
      have oc : ∀ i, i ≠ 233 → i ≠ 236 → i ≠ 237 → υ i = τ1 i := fun i c d e => by
        rw [v1 i (by simp [d]), g1 i (by simp [c, e]), e2, up_o c]
      have z6 : υ 180 6 = 0 := by rw [oc 180 (by omega) (by omega) (by omega), f 180 (by omega)]; exact f3
      refine (h.act (R' := V k) (m' := min (m + 1) 12) (nx' := hN nx) (U' := hU m U R) (kb' := kb) (V' := V) (fun i hi => o i (by omega) (by omega) (by omega) (by omega) (by omega)) (fun j hj => ?_) c2 (fun j hj => ?_) (sea_congr s (fun i i1 i2 => oc i (by omega) (by omega) (by omega))) (hist_of ?_ ⟨?_, fun i hi => ?_⟩ (hU_ok hg.2.1 hro hr)) (keptR_congr hkp (o 178 (by omega) (by omega) (by omega) (by omega) (by omega)) (o 239 (by omega) (by omega) (by omega) (by omega) (by omega)) (o 238 (by omega) (by omega) (by omega) (by omega) (by omega)) (fun i i1 i2 => o i (by omega) (by omega) (by omega) (by omega) (by omega))) hT0 (by rw [z6]; exact isZ_0) (fun y => by rw [z6] at y; exact absurd y (by decide))).inv
      · rw [v1 233 (by decide), g2 j (by omega), o24 j (by omega)]
      · rw [v2 j hj, g1 238 (by decide), o2 238 (by omega) (by omega) (by omega)]
        exact c1 j hj
      · obtain ⟨r1, r2, r3, r4, r5⟩ := f4
        refine ⟨r1, r2, ?_, ?_, fun i hi => ?_⟩
        · rw [oc 63 (by omega) (by omega) (by omega), f 63 (by omega)]; exact r3
        · rw [oc 63 (by omega) (by omega) (by omega), f 63 (by omega)]; exact r4
        · have hb : (hN nx + 12 - min (m + 1) 12 + i) % 12 < 12 := Nat.mod_lt _ (by decide)
          exact sea_congr (r5 i hi) (fun i1 i2 i3 => by rw [oc i1 (by omega) (by omega) (by omega), f i1 (by omega)])
      · rw [v1 233 (by decide)]; exact g3.1
      · rw [v1 237 (by decide)]; exact g3.2 i hi
  · rw [br_F q]
    intro τ e
    have h2 := h.qn (τ := τ) (by rw [e]; exact Qn.z)
    rw [wi (n := 2) (by decide), br_F q, br_T rfl]
    exact ⟨rfl, h2.inv⟩
