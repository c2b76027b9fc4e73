/-! DEEDS, done by both -/
section
variable {σ : Sg} {T R : Nat → Nat} {K : Int32 → Sg → Prop} {x1 x2 x3 x4 : Int32}
theorem c_tieCodeC (h : ccore σ T R) (hK : br (tIn T x1 x2 x3 x4) (br (tOk R (cln x1) (cln x2) (cln x3) (cln x4)) (K 0 σ) (K (-2) σ)) (K (-1) σ)) : wp_X9_tieCode x1 x2 x3 x4 σ K := by
  obtain ⟨hT, hr, hb, hs⟩ := h
  have h12 := hT.1
  have h4 := hT.2.1
  have h30 := hr.1
  have e3 := hb.2.1
  have e31 := hb.2.2.1
  have e0 : σ 55 0 = nI (R 0) := hs.1
  unfold wp_X9_tieCode b_X9_tieCode_146 b_X9_tieCode_147
  rw [c_isPool e31 (by omega)]
  by_cases q1 : vp_in x1 (T 1) ∧ vp_in x2 6
  · rw [br_T q1, br_F (by decide), c_isClub e3 (by omega)]
    by_cases q2 : vp_in x3 (T 0)
    · rw [br_T q2, br_F (by decide), c_isClub e3 (by omega)]
      by_cases q3 : vp_in x4 (T 0)
      · rw [br_T q3, br_F (by decide)]
        have hK := hK.1 ⟨q1.1, q1.2, q2, q3⟩
        obtain ⟨c, hc, hc2, rfl⟩ := vin_of (by omega) q1.1
        obtain ⟨r, hr6, hr2, rfl⟩ := vin_of (by decide) q1.2
        obtain ⟨a, ha, ha2, rfl⟩ := vin_of (by omega) q2
        obtain ⟨b, hb', hb2, rfl⟩ := vin_of (by omega) q3
        rw [cln_I hc2, cln_I hr2, cln_I ha2, cln_I hb2] at hK
        rw [br_iff (nI_eq ha2 hb2), e0, L30, br_iff (nI_leI (by omega) (by omega))]
        refine ⟨fun z => hK.2 (fun y => y.1 z), fun z1 => ⟨fun z => hK.2 (fun y => by have := y.2.1; omega), fun z2 => ?_⟩⟩
        rw [c_closed hs (by omega) hr6]
        by_cases z3 : cd R c r = 1
        · rw [br_T z3, br_F (by decide)]
          exact hK.2 (fun y => y.2.2.1 z3)
        · rw [br_F z3, br_T rfl]
          refine c_isIn hs hr hc2 hr2 ha2 ⟨fun z => ?_, fun z4 => ?_⟩
          · refine br_f (by decide) (hK.2 (fun y => y.2.2.2.1 z))
          · refine br_t rfl (c_isIn hs hr hc2 hr2 hb2 ⟨fun z => ?_, fun z5 => ?_⟩)
            · refine br_f (by decide) (hK.2 (fun y => y.2.2.2.2.1 z))
            · refine br_t rfl ?_
              rw [show (0 : Int32) = nI 0 from rfl, br_iff (nI_eq hr2 (by decide))]
              refine ⟨fun z => hK.1 ⟨z1, by omega, z3, z4, z5, Or.inl z⟩, fun z6 => ?_⟩
              have no : ¬ (cd R c (r - 1) = 1 ∧ wnN R c (r - 1) a (R 0) ∧ wnN R c (r - 1) b (R 0)) → K (-2) σ := fun y => hK.2 (fun x => by
                rcases x.2.2.2.2.2 with w | w
                · exact z6 w
                · exact y w)
              rw [L1, sub1 (by omega), c_closed hs (by omega) (by omega)]
              by_cases z7 : cd R c (r - 1) = 1
              · rw [br_T z7, br_F (by decide)]
                refine c_hasWon hs hr h12 hc2 (by omega) ha2 ⟨fun w1 => br_f (by decide) ?_, fun w1 => br_t rfl (br_t rfl (no (fun y => w1 y.2.1)))⟩
                refine c_hasWon hs hr h12 hc2 (by omega) hb2 ⟨fun w2 => br_f (by decide) (br_f (by decide) ?_), fun w2 => br_t rfl (br_t rfl (no (fun y => w2 y.2.2)))⟩
                exact hK.1 ⟨z1, by omega, z3, z4, z5, Or.inr ⟨z7, w1, w2⟩⟩
              · rw [br_F z7]
                exact br_t rfl (br_t rfl (no (fun y => z7 y.1)))
      · rw [br_F q3, br_T rfl]
        exact hK.2 (fun z => q3 z.2.2.2)
    · rw [br_F q2, br_T rfl]
      exact hK.2 (fun z => q2 z.2.2.1)
  · rw [br_F q1, br_T rfl]
    exact hK.2 (fun z => q1 ⟨z.1, z.2.1⟩)
theorem c_playCodeC (h : ccore σ T R) (hK : br (pIn R x1 x2 x3) (br (pOk T R (cln x1) (cln x3)) (K 0 σ) (K (-2) σ)) (K (-1) σ)) : wp_X9_playCode x1 x2 x3 σ K := by
  obtain ⟨hT, hr, hb, hs⟩ := h
  have h12 := hT.1
  have h4 := hT.2.1
  have h30 := hr.1
  have e0 : σ 55 0 = nI (R 0) := hs.1
  unfold wp_X9_playCode
  rw [c_isTie e0 (by omega), c_isGate, show br (x3 < 0) (K (-1) σ) (br (x3 ≤ 2) (wp_X6_isDecided 55 x1 σ fun r31_ τ31 => br (r31_ = 0) (vp_in x1 30 ∧ br ((τ31 60 x1.toNatClampNeg) < 4) (vp_in x1 30 ∧ (vp_in (τ31 56 x1.toNatClampNeg) 4 ∧ (∀ v72 : Int32, v72 = τ31 (17 + 1 + (τ31 56 x1.toNatClampNeg).toNatClampNeg) 5 → (br (x3 = 2) (vp_in x1 30 ∧ (br ((τ31 60 x1.toNatClampNeg) < v72) (K 0 τ31) (K (-2) τ31))) (K 0 τ31))))) (K (-2) τ31)) (K (-2) τ31)) (K (-1) σ)) = br (vp_in x3 (2 + 1)) _ (K (-1) σ) from br2L (n := 2) (by decide)]
  by_cases q1 : vp_in x1 (R 0)
  · rw [br_T q1, br_F (by decide)]
    by_cases q2 : vp_in x2 100000
    · rw [br_T q2, br_F (by decide)]
      by_cases q3 : vp_in x3 3
      · rw [br_T q3]
        have hK := hK.1 ⟨q1, q2, q3⟩
        obtain ⟨t, ht, ht2, rfl⟩ := vin_of (by omega) q1
        obtain ⟨w, hw, hw2, rfl⟩ := vin_of (by decide) q3
        rw [cln_I ht2, cln_I hw2] at hK
        have e60 : σ 60 t = nI (rT R t 4) := (hs.2.2 t ht).2.2.2.2.1
        have e56 : σ 56 t = nI (rT R t 0) := (hs.2.2 t ht).1
        have k0 := (hr.2.2.1 t ht).1
        have ec : σ (18 + rT R t 0) 5 = nI (tC T (rT R t 0) 5) := (hb.2.2.2.2 _ k0).1 5 (by omega)
        have c5 := (hT.2.2.2.2 _ k0).2.2.2.2.1
        rw [c_dec hs hr ht]
        by_cases z : de R t
        · rw [br_T z, br_F (by decide)]
          exact hK.2 (fun y => y.1 z)
        · obtain ⟨n3, nr⟩ := pOk_3 hT hr ht z
          rw [br_F z, br_T rfl]
          simp (disch := omega) only [vin_T, cl_I, true_and, e60, e56, L4, nI_ltI, forall_eq, Nat.reduceAdd, ec, L2, nI_eq]
          refine ⟨fun _ => ⟨fun z2 => ⟨fun z3 => hK.1 ⟨z, fun y => by omega⟩, fun z3 => hK.2 (fun y => y.2 ⟨z2, by omega⟩)⟩, fun z2 => hK.1 ⟨z, fun y => z2 y.1⟩⟩, fun y => by omega⟩
      · rw [br_F q3]
        exact hK.2 (fun z => q3 z.2.2)
    · rw [br_F q2, br_T rfl]
      exact hK.2 (fun z => q2 z.2.1)
  · rw [br_F q1, br_T rfl]
    exact hK.2 (fun z => q1 z.1)
theorem c_closeCodeC (h : ccore σ T R) (hK : br (vp_in x1 (T 1) ∧ vp_in x2 6) (br (kOk R (cln x1) (cln x2)) (K 0 σ) (K (-2) σ)) (K (-1) σ)) : wp_X9_closeCode x1 x2 σ K := by
  have h4 := h.1.2.1
  unfold wp_X9_closeCode
  rw [c_isPool h.2.2.1.2.2.1 (by omega)]
  refine ⟨fun q => br_f (by decide) ?_, fun q => br_t rfl (hK.2 q)⟩
  have hK' := hK.1 q
  obtain ⟨c, hc, hc2, rfl⟩ := vin_of (by omega) q.1
  obtain ⟨r, hr6, hr2, rfl⟩ := vin_of (by decide) q.2
  rw [cln_I hc2, cln_I hr2] at hK'
  exact c_canClose h.2.2.2 h.2.1 (by omega) hr6 ⟨fun z => br_f (by decide) (hK'.1 z), fun z => br_t rfl (hK'.2 z)⟩
end
/-- a deed can be done -/
def dGo (T R E : Nat → Nat) (d : Nat) : Prop := (E (5 * d) = 0 → tIn T (nI (E (5 * d + 1))) (nI (E (5 * d + 2))) (nI (E (5 * d + 3))) (nI (E (5 * d + 4))) ∧ tOk R (cln (nI (E (5 * d + 1)))) (cln (nI (E (5 * d + 2)))) (cln (nI (E (5 * d + 3)))) (cln (nI (E (5 * d + 4))))) ∧ (E (5 * d) = 1 → pIn R (nI (E (5 * d + 1))) (nI (E (5 * d + 2))) (nI (E (5 * d + 3))) ∧ pOk T R (cln (nI (E (5 * d + 1)))) (cln (nI (E (5 * d + 3))))) ∧ (E (5 * d) = 2 → (vp_in (nI (E (5 * d + 1))) (T 1) ∧ vp_in (nI (E (5 * d + 2))) 6) ∧ kOk R (cln (nI (E (5 * d + 1)))) (cln (nI (E (5 * d + 2)))))
def dNx (R E : Nat → Nat) (d : Nat) : Nat → Nat := if E (5 * d) = 0 then addT R (cln (nI (E (5 * d + 1)))) (cln (nI (E (5 * d + 2)))) (cln (nI (E (5 * d + 3)))) (cln (nI (E (5 * d + 4)))) else if E (5 * d) = 1 then addG R (cln (nI (E (5 * d + 1)))) (cln (nI (E (5 * d + 2)))) (cln (nI (E (5 * d + 3)))) else addC R (cln (nI (E (5 * d + 1)))) (cln (nI (E (5 * d + 2))))
section
variable {σ : Sg} {T R E : Nat → Nat} {m d : Nat}
theorem cln_v {x : Int32} {N : Nat} (h : vp_in x N) (hN : N ≤ 2 ^ 30) : cln x < N ∧ x = nI (cln x) := by
  obtain ⟨c, hc, hc2, rfl⟩ := vin_of hN h
  rw [cln_I hc2]
  exact ⟨hc, rfl⟩
theorem dNx_ok (hT : toldOk T) (hr : rowOk T R) (h2 : E (5 * d) ≤ 2) (h : dGo T R E d) : rowOk T (dNx R E d) := by
  have h12 := hT.1
  have h4 := hT.2.1
  have h30 := hr.1
  unfold dNx
  by_cases q0 : E (5 * d) = 0
  · rw [if_pos q0]
    obtain ⟨i, o⟩ := h.1 q0
    exact addT_ok hT hr (cln_v i.1 (by omega)).1 (cln_v i.2.1 (by decide)).1 (cln_v i.2.2.1 (by omega)).1 (cln_v i.2.2.2 (by omega)).1 o
  · rw [if_neg q0]
    by_cases q1 : E (5 * d) = 1
    · rw [if_pos q1]
      obtain ⟨i, o⟩ := h.2.1 q1
      exact addG_ok hT hr (cln_v i.1 (by omega)).1 (cln_v i.2.1 (by decide)).1 (by have := (cln_v i.2.2 (by decide)).1; omega) o
    · rw [if_neg q1]
      obtain ⟨i, o⟩ := h.2.2 (by omega)
      have a := (cln_v i.1 (by omega)).1
      exact addC_ok hr (by omega) (cln_v i.2 (by decide)).1 o
theorem c_dCode {K : Int32 → Sg → Prop} (h : ccore σ T R) (he : er (σ 54) E m) (hd : d < m) (hm : m ≤ 67) (hy : dGo T R E d → K 0 σ) (hn : ¬ dGo T R E d → ∀ c : Int32, c < 0 → K c σ) : wp_X9_deedCode (nI d) σ K := by
  obtain ⟨e0, e2, ej⟩ := he d hd
  intro v ev
  have ev : v = nI (5 * d) := by rw [ev, L5, pk_mul, Nat.mul_comm]
  rw [ev, L1, L2, L3, L4, nI_add, nI_add, nI_add, nI_add, vin_T (show 5 * d < 335 by omega) (by decide), vin_T (show 5 * d + 1 < 335 by omega) (by decide), vin_T (show 5 * d + 2 < 335 by omega) (by decide), vin_T (show 5 * d + 3 < 335 by omega) (by decide), vin_T (show 5 * d + 4 < 335 by omega) (by decide), cl_I (by omega), cl_I (by omega), cl_I (by omega), cl_I (by omega), cl_I (by omega), e0]
  simp only [true_and]
  rw [L0, br_iff (nI_eq (by omega) (by decide)), br_iff (nI_eq (by omega) (by decide))]
  have m2 : (-2 : Int32) < 0 := by decide
  have m1 : (-1 : Int32) < 0 := by decide
  refine ⟨fun q0 => ?_, fun q0 => ⟨fun q1 => ?_, fun q1 => ?_⟩⟩
  · rw [q0] at ej
    rw [ej 1 (by decide) (by decide), ej 2 (by decide) (by decide), ej 3 (by decide) (by decide), ej 4 (by decide) (by decide)]
    exact c_tieCodeC h ⟨fun i => ⟨fun o => hy ⟨fun _ => ⟨i, o⟩, fun z => by omega, fun z => by omega⟩, fun o => hn (fun z => o (z.1 q0).2) _ m2⟩, fun i => hn (fun z => i (z.1 q0).1) _ m1⟩
  · rw [q1] at ej
    rw [ej 1 (by decide) (by decide), ej 2 (by decide) (by decide), ej 3 (by decide) (by decide)]
    exact c_playCodeC h ⟨fun i => ⟨fun o => hy ⟨fun z => by omega, fun _ => ⟨i, o⟩, fun z => by omega⟩, fun o => hn (fun z => o (z.2.1 q1).2) _ m2⟩, fun i => hn (fun z => i (z.2.1 q1).1) _ m1⟩
  · have q2 : E (5 * d) = 2 := by omega
    rw [q2] at ej
    rw [ej 1 (by decide) (by decide), ej 2 (by decide) (by decide)]
    exact c_closeCodeC h ⟨fun i => ⟨fun o => hy ⟨fun z => by omega, fun z => by omega, fun _ => ⟨i, o⟩⟩, fun o => hn (fun z => o (z.2.2 q2).2) _ m2⟩, fun i => hn (fun z => i (z.2.2 q2).1) _ m1⟩
theorem c_carry {K : Sg → Prop} (h : ccore σ T R) (he : er (σ 54) E m) (hd : d < m) (hm : m ≤ 67) (hg : dGo T R E d) (hK : ∀ τ : Sg, (∀ k, k < 55 ∨ 62 < k → τ k = σ k) → sea τ 55 (dNx R E d) → K τ) : wp_X9_carryOut (nI d) σ K := by
  have h12 := h.1.1
  have h4 := h.1.2.1
  have h30 := h.2.1.1
  obtain ⟨e0, e2, ej⟩ := he d hd
  intro v ev
  have ev : v = nI (5 * d) := by rw [ev, L5, pk_mul, Nat.mul_comm]
  rw [ev, L1, L2, L3, L4, nI_add, nI_add, nI_add, nI_add, vin_T (show 5 * d < 335 by omega) (by decide), vin_T (show 5 * d + 1 < 335 by omega) (by decide), vin_T (show 5 * d + 2 < 335 by omega) (by decide), vin_T (show 5 * d + 3 < 335 by omega) (by decide), vin_T (show 5 * d + 4 < 335 by omega) (by decide), cl_I (by omega), cl_I (by omega), cl_I (by omega), cl_I (by omega), cl_I (by omega), e0]
  simp only [true_and]
  rw [L0, br_iff (nI_eq (by omega) (by decide)), br_iff (nI_eq (by omega) (by decide))]
  unfold dNx at hK
  refine ⟨fun q0 => ?_, fun q0 => ⟨fun q1 => ?_, fun q1 => ?_⟩⟩
  · rw [if_pos q0] at hK
    obtain ⟨i, o⟩ := hg.1 q0
    rw [q0] at ej
    rw [ej 1 (by decide) (by decide), ej 2 (by decide) (by decide), ej 3 (by decide) (by decide), ej 4 (by decide) (by decide), (cln_v i.1 (by omega)).2, (cln_v i.2.1 (by decide)).2, (cln_v i.2.2.1 (by omega)).2, (cln_v i.2.2.2 (by omega)).2]
    exact c_addT h.2.2.2 h.2.1 o.2.1 (fun τ f s _ => hK τ (fun k hk => f k (by omega)) s)
  · rw [if_neg q0, if_pos q1] at hK
    obtain ⟨i, o⟩ := hg.2.1 q1
    rw [q1] at ej
    have ht := (cln_v i.1 (by omega)).1
    rw [ej 1 (by decide) (by decide), ej 2 (by decide) (by decide), ej 3 (by decide) (by decide), (cln_v i.1 (by omega)).2, (cln_v i.2.1 (by decide)).2, (cln_v i.2.2 (by decide)).2]
    exact c_addG h.2.2.2 h.2.1 ht (pOk_3 h.1 h.2.1 ht o.1).1 (fun τ f s _ => hK τ (fun k hk => f k (by omega)) s)
  · have q2 : E (5 * d) = 2 := by omega
    rw [if_neg q0, if_neg q1] at hK
    obtain ⟨i, o⟩ := hg.2.2 q2
    rw [q2] at ej
    have hc := (cln_v i.1 (by omega)).1
    rw [ej 1 (by decide) (by decide), ej 2 (by decide) (by decide), (cln_v i.1 (by omega)).2, (cln_v i.2 (by decide)).2]
    intro τ e
    refine hK τ (fun k hk => by rw [e, up_o (by omega)]) ?_
    rw [e]
    exact addC_sea h.2.2.2 h30 (row4 h.2.1) (by omega) (cln_v i.2 (by decide)).1 rfl
theorem m_dDeed {K : Int32 → Sg → Prop} (h : mcore σ T R) (he : er (σ 241) E m) (hd : d < m) (hm : m ≤ 67) (hy : dGo T R E d → ∀ (τ : Sg) (r : Int32), CF σ τ → rowR (τ 236) (dNx R E d) → ¬ r < 0 → K r τ) (hn : ¬ dGo T R E d → ∀ c : Int32, c < 0 → K c σ) : wp_X10_doDeed (nI (5 * d)) σ K := by
  have h12 := h.1.1
  have h4 := h.1.2.1
  have h30 := h.2.1.1
  obtain ⟨e0, e2, ej⟩ := he d hd
  have m2 : (-2 : Int32) < 0 := by decide
  have m1 : (-1 : Int32) < 0 := by decide
  have fc : ∀ {τ : Sg}, Fr [236] σ τ → CF σ τ := fun {τ} f => ⟨fun k hk => f k (by simp; omega), fun j _ _ => by rw [f 233 (by decide)]⟩
  unfold wp_X10_doDeed
  rw [L1, L2, L3, L4, nI_add, nI_add, nI_add, nI_add, vin_T (show 5 * d < 500 by omega) (by decide), vin_T (show 5 * d + 1 < 500 by omega) (by decide), vin_T (show 5 * d + 2 < 500 by omega) (by decide), vin_T (show 5 * d + 3 < 500 by omega) (by decide), vin_T (show 5 * d + 4 < 500 by omega) (by decide), cl_I (by omega), cl_I (by omega), cl_I (by omega), cl_I (by omega), cl_I (by omega), e0]
  refine ⟨trivial, fun v ev => ?_⟩
  rw [ev]
  simp only [true_and]
  rw [L0, br_iff (nI_eq (by omega) (by decide)), br_iff (nI_eq (by omega) (by decide))]
  unfold dNx at hy
  refine ⟨fun q0 => ?_, fun q0 => ⟨fun q1 => ?_, fun q1 => ?_⟩⟩
  · rw [if_pos q0] at hy
    rw [q0] at ej
    rw [ej 1 (by decide) (by decide), ej 2 (by decide) (by decide), ej 3 (by decide) (by decide), ej 4 (by decide) (by decide)]
    exact m_doTie h ⟨fun i => ⟨fun o τ f r => hy ⟨fun _ => ⟨i, o⟩, fun z => by omega, fun z => by omega⟩ τ _ (fc f) r (nI_pos (by omega)), fun o => hn (fun z => o (z.1 q0).2) _ m2⟩, fun i => hn (fun z => i (z.1 q0).1) _ m1⟩
  · rw [if_neg q0, if_pos q1] at hy
    rw [q1] at ej
    rw [ej 1 (by decide) (by decide), ej 2 (by decide) (by decide), ej 3 (by decide) (by decide)]
    refine m_doPlay h ⟨fun i => ⟨fun o τ f r => hy ⟨fun z => by omega, fun _ => ⟨i, o⟩, fun z => by omega⟩ τ _ (fc f) r (nI_pos ?_), fun o => hn (fun z => o (z.2.1 q1).2) _ m2⟩, fun i => hn (fun z => i (z.2.1 q1).1) _ m1⟩
    have := row4 h.2.1 _ (cln_v i.1 (by omega)).1
    omega
  · have q2 : E (5 * d) = 2 := by omega
    rw [if_neg q0, if_neg q1] at hy
    rw [q2] at ej
    rw [ej 1 (by decide) (by decide), ej 2 (by decide) (by decide)]
    refine m_doClose h ⟨fun i => ⟨fun o τ f r => hy ⟨fun z => by omega, fun z => by omega, fun _ => ⟨i, o⟩⟩ τ _ f r (nI_pos ?_), fun o => hn (fun z => o (z.2.2 q2).2) _ m2⟩, fun i => hn (fun z => i (z.2.2 q2).1) _ m1⟩
    have hc := (cln_v i.1 (by omega)).1
    have hr6 := (cln_v i.2 (by decide)).1
    have b1 := b_Tot h.1 (addC_ok (T := T) h.2.1 (show cln (nI (E (5 * d + 1))) < 4 by omega) hr6 o) (cln (nI (E (5 * d + 1)))) hr6
    unfold pE
    split
    · unfold pEach
      split
      · omega
      · exact Nat.lt_of_le_of_lt (Nat.div_le_self _ _) (by omega)
    · omega
/-- the rows behind d deeds -/
def Rn (R E : Nat → Nat) : Nat → Nat → Nat
  | 0 => R
  | d + 1 => dNx (Rn R E d) E d
theorem run_end (m : Nat) : ∃ e, e ≤ m ∧ (∀ d, d < e → dGo T (Rn R E d) E d) ∧ (e = m ∨ ¬ dGo T (Rn R E e) E e) := by
  obtain ⟨e, ⟨a1, a2⟩, a3⟩ := pk_least (fun k => k ≤ m ∧ (k = m ∨ ¬ dGo T (Rn R E k) E k)) ⟨m, Nat.le_refl _, Or.inl rfl⟩
  refine ⟨e, a1, fun d hd => Classical.byContradiction (fun z => a3 d hd ⟨by omega, Or.inr z⟩), a2⟩
theorem Rn_ok {e : Nat} {f : Nat → Int32} (hT : toldOk T) (hr : rowOk T R) (he : er f E m) (hem : e ≤ m) (hg : ∀ d, d < e → dGo T (Rn R E d) E d) : ∀ d, d ≤ e → rowOk T (Rn R E d)
  | 0, _ => hr
  | d + 1, h => dNx_ok hT (Rn_ok hT hr he hem hg d (by omega)) (he d (by omega)).2.1 (hg d (by omega))
theorem c_run {K : Int32 → Sg → Prop} {e : Nat} {τ1 : Sg} (hc : ccore σ T R) (he : er (σ 54) E m) (h53 : σ 53 2 = nI m) (hm : m ≤ 67) (hem : e ≤ m) (hg : ∀ d, d < e → dGo T (Rn R E d) E d) (hx : e = m ∨ ¬ dGo T (Rn R E e) E e) (f1 : ∀ k, k < 55 ∨ k = 234 → τ1 k = σ k) (hK : ∀ τ : Sg, (∀ k, k < 55 ∨ 62 < k → τ k = τ1 k) → sea τ 55 (Rn R E e) → K (nI e) τ) : ∀ f d τ, d + f = e → 0 < d → (∀ k, k < 55 ∨ 62 < k → τ k = τ1 k) → sea τ 55 (Rn R E d) → b_X9_deeds_31 K (f + 1) (nI d) τ := by
  have ok := Rn_ok hc.1 hc.2.1 he hem hg
  have cc : ∀ d τ, d ≤ e → (∀ k, k < 55 ∨ 62 < k → τ k = τ1 k) → sea τ 55 (Rn R E d) → ccore τ T (Rn R E d) ∧ er (τ 54) E m ∧ τ 53 2 = nI m := fun d τ hd f s => ⟨⟨hc.1, ok d hd, bookR_congr hc.1 hc.2.2.1 (by rw [f 234 (by omega), f1 234 (Or.inr rfl)]) (by rw [f 3 (by omega), f1 3 (by omega)]) (fun k _ _ => by rw [f k (by omega), f1 k (by omega)]), s⟩, er_f he (by rw [f 54 (by omega), f1 54 (by omega)]), by rw [f 53 (by omega), f1 53 (by omega)]; exact h53⟩
  intro f
  induction f with
  | zero =>
    intro d τ hd d0 ff s
    have : d = e := by omega
    subst this
    obtain ⟨c1, c2, c3⟩ := cc d τ (Nat.le_refl _) ff s
    refine ⟨fun _ => hK τ ff s, fun z => ?_⟩
    rw [c3] at z
    have hdm : d < m := by
      apply Classical.byContradiction
      intro y
      exact z (nI_le (by omega) (by omega))
    refine c_dCode c1 c2 hdm hm (fun g => ?_) (fun g c hc' => br_t hc' (hK τ ff s))
    rcases hx with y | y
    · omega
    · exact absurd g y
  | succ f ih =>
    intro d τ hd d0 ff s
    obtain ⟨c1, c2, c3⟩ := cc d τ (by omega) ff s
    refine br_f (by rw [c3]; exact nI_ge (by omega) (by omega)) (c_dCode c1 c2 (by omega) hm (fun g => br_f (by decide) (br_f (nI_ne0 d0 (by omega)) ?_)) (fun g => absurd (hg d (by omega)) g))
    refine c_carry c1 c2 (by omega) hm (hg d (by omega)) (fun τ2 f2 s2 v ev => ?_)
    rw [ev, nI_1]
    exact ih (d + 1) τ2 (by omega) (by omega) (fun k hk => by rw [f2 k hk, ff k hk]) s2
theorem CF.rf (σ : Sg) : CF σ σ := ⟨fun _ _ => rfl, fun _ _ _ => rfl⟩
theorem CF.tr {τ υ : Sg} (h : CF σ τ) (g : CF τ υ) : CF σ υ := ⟨fun k hk => (g.1 k hk).trans (h.1 k hk), fun j a b => (g.2 j a b).trans (h.2 j a b)⟩
theorem m_run {K : Int32 → Sg → Prop} {e : Nat} (hc : mcore σ T R) (he : er (σ 241) E m) (h15 : σ 233 15 = nI m) (hm : m ≤ 67) (hem : e ≤ m) (hg : ∀ d, d < e → dGo T (Rn R E d) E d) (hx : e = m ∨ ¬ dGo T (Rn R E e) E e) (hK : ∀ τ : Sg, CF σ τ → rowR (τ 236) (Rn R E e) → b_X10_deeds_108 K (nI e) τ) : ∀ f d τ, d + f = e → CF σ τ → rowR (τ 236) (Rn R E d) → b_X10_deeds_84 K (f + 1) (nI d) τ := by
  have ok := Rn_ok hc.1 hc.2.1 he hem hg
  have cc : ∀ d τ, d ≤ e → CF σ τ → rowR (τ 236) (Rn R E d) → mcore τ T (Rn R E d) ∧ er (τ 241) E m ∧ τ 233 15 = nI m := fun d τ hd f s => ⟨⟨hc.1, ok d hd, by rw [f.1 234 (by omega)]; exact hc.2.2.1, s⟩, er_f he (f.1 241 (by omega)), by rw [f.2 15 (by omega) (by omega)]; exact h15⟩
  intro f
  induction f with
  | zero =>
    intro d τ hd ff s
    have : d = e := by omega
    subst this
    obtain ⟨c1, c2, c3⟩ := cc d τ (Nat.le_refl _) ff s
    refine ⟨fun _ => hK τ ff s, fun z => ?_⟩
    rw [c3] at z
    have hdm : d < m := by
      apply Classical.byContradiction
      intro y
      exact z (nI_le (by omega) (by omega))
    rw [L5, pk_mul]
    refine m_dDeed c1 c2 hdm hm (fun g => ?_) (fun g c hc' => br_t hc' (hK τ ff s))
    rcases hx with y | y
    · omega
    · exact absurd g y
  | succ f ih =>
    intro d τ hd ff s
    obtain ⟨c1, c2, c3⟩ := cc d τ (by omega) ff s
    refine br_f (by rw [c3]; exact nI_ge (by omega) (by omega)) ?_
    rw [L5, pk_mul]
    refine m_dDeed c1 c2 (by omega) hm (fun g τ2 r f2 s2 hr => br_f hr (fun v ev => ?_)) (fun g => absurd (hg d (by omega)) g)
    rw [ev, nI_1]
    exact ih (d + 1) τ2 (by omega) (ff.tr f2) s2
end
