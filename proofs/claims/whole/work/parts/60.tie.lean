/-! TIE -/
def cln (x : Int32) : Nat := x.toNatClampNeg
theorem cln_I {n : Nat} (h : n < 2 ^ 31) : cln (nI n) = n := cl_I h
/-- the reference's half -/
def mcore (σ : Sg) (T R : Nat → Nat) : Prop := toldOk T ∧ rowOk T R ∧ (∀ k, k < 106 → σ 234 k = nI (T k)) ∧ rowR (σ 236) R
theorem core.m {σ : Sg} {T R : Nat → Nat} (h : core σ T R) : mcore σ T R := ⟨h.1, h.2.1, h.2.2.1.1, h.2.2.2.1⟩
theorem mcore.of {σ τ : Sg} {T R : Nat → Nat} (h : mcore σ T R) (h1 : τ 234 = σ 234) (h2 : τ 236 = σ 236) : mcore τ T R := ⟨h.1, h.2.1, by rw [h1]; exact h.2.2.1, by rw [h2]; exact h.2.2.2⟩
def tIn (T : Nat → Nat) (x1 x2 x3 x4 : Int32) : Prop := vp_in x1 (T 1) ∧ vp_in x2 6 ∧ vp_in x3 (T 0) ∧ vp_in x4 (T 0)
section
variable {σ : Sg} {T R : Nat → Nat} {K : Int32 → Sg → Prop} {x1 x2 x3 x4 : Int32}
theorem c_tieCode (h : core σ T R) (hK : br (tIn T x1 x2 x3 x4) (br (tOk R (cln x1) (cln x2) (cln x3) (cln x4)) (K 0 σ) (K (-2) σ)) (K (-1) σ)) : wp_X9_tieCode x1 x2 x3 x4 σ K := by
  obtain ⟨hT, hr, hb, hR, hs⟩ := h
  have h12 := hT.1
  have h4 := hT.2.1
  have h30 := hr.1
  have e3 := hb.2.1
  have e31 := hb.2.2.1
  have e0 : σ 55 0 = nI (R 0) := hs.1
  unfold wp_X9_tieCode b_X9_tieCode_146 b_X9_tieCode_147
  rw [c_isPool e31 (by omega)]
  by_cases q1 : vp_in x1 (T 1) ∧ vp_in x2 6
  · rw [br_T q1, br_F (by decide), c_isClub e3 (by omega)]
    by_cases q2 : vp_in x3 (T 0)
    · rw [br_T q2, br_F (by decide), c_isClub e3 (by omega)]
      by_cases q3 : vp_in x4 (T 0)
      · rw [br_T q3, br_F (by decide)]
        have hK := hK.1 ⟨q1.1, q1.2, q2, q3⟩
        obtain ⟨c, hc, hc2, rfl⟩ := vin_of (by omega) q1.1
        obtain ⟨r, hr6, hr2, rfl⟩ := vin_of (by decide) q1.2
        obtain ⟨a, ha, ha2, rfl⟩ := vin_of (by omega) q2
        obtain ⟨b, hb', hb2, rfl⟩ := vin_of (by omega) q3
        rw [cln_I hc2, cln_I hr2, cln_I ha2, cln_I hb2] at hK
        rw [br_iff (nI_eq ha2 hb2), e0, L30, br_iff (nI_leI (by omega) (by omega))]
        refine ⟨fun z => hK.2 (fun y => y.1 z), fun z1 => ⟨fun z => hK.2 (fun y => by have := y.2.1; omega), fun z2 => ?_⟩⟩
        rw [c_closed hs (by omega) hr6]
        by_cases z3 : cd R c r = 1
        · rw [br_T z3, br_F (by decide)]
          exact hK.2 (fun y => y.2.2.1 z3)
        · rw [br_F z3, br_T rfl]
          refine c_isIn hs hr hc2 hr2 ha2 ⟨fun z => ?_, fun z4 => ?_⟩
          · refine br_f (by decide) (hK.2 (fun y => y.2.2.2.1 z))
          · refine br_t rfl (c_isIn hs hr hc2 hr2 hb2 ⟨fun z => ?_, fun z5 => ?_⟩)
            · refine br_f (by decide) (hK.2 (fun y => y.2.2.2.2.1 z))
            · refine br_t rfl ?_
              rw [show (0 : Int32) = nI 0 from rfl, br_iff (nI_eq hr2 (by decide))]
              refine ⟨fun z => hK.1 ⟨z1, by omega, z3, z4, z5, Or.inl z⟩, fun z6 => ?_⟩
              have no : ¬ (cd R c (r - 1) = 1 ∧ wnN R c (r - 1) a (R 0) ∧ wnN R c (r - 1) b (R 0)) → K (-2) σ := fun y => hK.2 (fun x => by
                rcases x.2.2.2.2.2 with w | w
                · exact z6 w
                · exact y w)
              rw [L1, sub1 (by omega), c_closed hs (by omega) (by omega)]
              by_cases z7 : cd R c (r - 1) = 1
              · rw [br_T z7, br_F (by decide)]
                refine c_hasWon hs hr h12 hc2 (by omega) ha2 ⟨fun w1 => br_f (by decide) ?_, fun w1 => br_t rfl (br_t rfl (no (fun y => w1 y.2.1)))⟩
                refine c_hasWon hs hr h12 hc2 (by omega) hb2 ⟨fun w2 => br_f (by decide) (br_f (by decide) ?_), fun w2 => br_t rfl (br_t rfl (no (fun y => w2 y.2.2)))⟩
                exact hK.1 ⟨z1, by omega, z3, z4, z5, Or.inr ⟨z7, w1, w2⟩⟩
              · rw [br_F z7]
                exact br_t rfl (br_t rfl (no (fun y => z7 y.1)))
      · rw [br_F q3, br_T rfl]
        exact hK.2 (fun z => q3 z.2.2.2)
    · rw [br_F q2, br_T rfl]
      exact hK.2 (fun z => q2 z.2.2.1)
  · rw [br_F q1, br_T rfl]
    exact hK.2 (fun z => q1 ⟨z.1, z.2.1⟩)
theorem m_151 {D : Nat} (hD : D + 13 ≤ 415) (hK : ∀ τ : Sg, Fr [236] σ τ → (∀ j, 4 ≤ j → j < 13 → τ 236 (D + j) = 0) → (∀ k, k < D + 4 ∨ D + 13 ≤ k → τ 236 k = σ 236 k) → (∀ υ : Sg, υ = up τ 236 0 ((τ 236 0) + 1) → K ((υ 236 0) - 1) υ)) : ∀ d y τ, y + d = 13 → 4 ≤ y → Fr [236] σ τ → (∀ j, 4 ≤ j → j < y → τ 236 (D + j) = 0) → (∀ k, k < D + 4 ∨ D + y ≤ k → τ 236 k = σ 236 k) → b_X10_doTie_151 x1 x2 x3 x4 K (d + 1) (nI D) (nI y) τ := by
  intro d
  induction d with
  | zero =>
    intro y τ hy h4 f h1 h2
    have : y = 13 := by omega
    subst this
    exact br_t (by decide) (hK τ f h1 h2)
  | succ d ih =>
    intro y τ hy h4 f h1 h2
    refine br_f (nI_ge (b := 13) (by omega) (by decide)) ?_
    rw [nI_add, vin_T (by omega) (by decide), cl_I (by omega), true_and]
    intro υ e v ev
    rw [ev, nI_1, e]
    refine ih (y + 1) _ (by omega) (by omega) (f.up (by decide)) (fun j a b => ?_) (fun k hk => ?_)
    · by_cases z : j = y
      · subst z; rw [up_s]
      · rw [up_j (by omega)]; exact h1 j a (by omega)
    · rw [up_j (by omega)]; exact h2 k (by omega)
theorem m_doTie (h : mcore σ T R) (hK : br (tIn T x1 x2 x3 x4) (br (tOk R (cln x1) (cln x2) (cln x3) (cln x4)) (∀ τ : Sg, Fr [236] σ τ → rowR (τ 236) (addT R (cln x1) (cln x2) (cln x3) (cln x4)) → K (nI (R 0)) τ) (K (-2) σ)) (K (-1) σ)) : wp_X10_doTie x1 x2 x3 x4 σ K := by
  obtain ⟨hT, hr, hb, hR⟩ := h
  have h12 := hT.1
  have h4 := hT.2.1
  have h30 := hr.1
  have e3 := hb 0 (by omega)
  have e31 := hb 1 (by omega)
  have e0 := hR 0 (by omega)
  unfold wp_X10_doTie
  rw [m_isCup e31 (by omega)]
  by_cases q1 : vp_in x1 (T 1)
  · rw [br_T q1, br_F (by decide), m_isRound]
    by_cases q1' : vp_in x2 6
    · rw [br_T q1', br_F (by decide), m_isClub e3 (by omega)]
      by_cases q2 : vp_in x3 (T 0)
      · rw [br_T q2, br_F (by decide), m_isClub e3 (by omega)]
        by_cases q3 : vp_in x4 (T 0)
        · rw [br_T q3, br_F (by decide)]
          have hK := hK.1 ⟨q1, q1', q2, q3⟩
          obtain ⟨c, hc, hc2, rfl⟩ := vin_of (by omega) q1
          obtain ⟨r, hr6, hr2, rfl⟩ := vin_of (by decide) q1'
          obtain ⟨a, ha, ha2, rfl⟩ := vin_of (by omega) q2
          obtain ⟨b, hb', hb2, rfl⟩ := vin_of (by omega) q3
          rw [cln_I hc2, cln_I hr2, cln_I ha2, cln_I hb2] at hK
          rw [br_iff (nI_eq ha2 hb2), e0, L30, br_iff (nI_eq (by omega) (by omega))]
          refine ⟨fun z => hK.2 (fun y => y.1 z), fun z1 => ⟨fun z => hK.2 (fun y => by have := y.2.1; omega), fun z2 => ?_⟩⟩
          rw [m_closed hR hr (by omega) hr6]
          by_cases z3 : cd R c r = 1
          · rw [br_T z3, br_F (by decide)]
            exact hK.2 (fun y => y.2.2.1 z3)
          · rw [br_F z3, br_T rfl]
            refine m_plays hR hr hc2 hr2 ha2 ⟨fun z => ?_, fun z4 => ?_⟩
            · refine br_f (by decide) (hK.2 (fun y => y.2.2.2.1 z))
            · refine br_t rfl (m_plays hR hr hc2 hr2 hb2 ⟨fun z => ?_, fun z5 => ?_⟩)
              · refine br_f (by decide) (hK.2 (fun y => y.2.2.2.2.1 z))
              · refine br_t rfl ?_
                unfold wp_X10_isReady
                have yes : (r = 0 ∨ (cd R c (r - 1) = 1 ∧ wnN R c (r - 1) a (R 0) ∧ wnN R c (r - 1) b (R 0))) → (∀ v107 : Int32, v107 = 1 + (13 * (σ 236 0)) → (vp_in v107 415 ∧ (∀ τ116 : Sg, τ116 = up σ 236 v107.toNatClampNeg (nI c) → (vp_in (v107 + 1) 415 ∧ (∀ τ126 : Sg, τ126 = up τ116 236 (v107 + 1).toNatClampNeg (nI r) → (vp_in (v107 + 2) 415 ∧ (∀ τ136 : Sg, τ136 = up τ126 236 (v107 + 2).toNatClampNeg (nI a) → (vp_in (v107 + 3) 415 ∧ (∀ τ147 : Sg, τ147 = up τ136 236 (v107 + 3).toNatClampNeg (nI b) → (∃ nf, b_X10_doTie_151 (nI c) (nI r) (nI a) (nI b) K nf v107 4 τ147)))))))))) := by
                  intro z6
                  have hK := hK.1 ⟨z1, by omega, z3, z4, z5, z6⟩
                  intro v ev
                  rw [e0, L13, pk_mul, L1, nI_add] at ev
                  rw [ev]
                  simp (disch := omega) only [L1, L2, L3, nI_add, vin_T, cl_I, true_and]
                  intro τ1 f1 τ2 f2 τ3 f3 τ4 f4
                  have g4 : ∀ k, (k < 1 + 13 * R 0 ∨ 1 + 13 * R 0 + 4 ≤ k) → τ4 236 k = σ 236 k := fun k hk => by
                    rw [f4, up_j (by omega), f3, up_j (by omega), f2, up_j (by omega), f1, up_j (by omega)]
                  have fr : Fr [236] σ τ4 := by rw [f4, f3, f2, f1]; exact Fr.rf.up (by decide) |>.up (by decide) |>.up (by decide) |>.up (by decide)
                  refine ⟨10, m_151 (D := 1 + 13 * R 0) (by omega) (fun τ t1 t2 t3 υ eu => ?_) 9 4 τ4 (by omega) (by omega) Fr.rf (fun j a b => by omega) (fun k hk => rfl)⟩
                  have z0 : τ 236 0 = nI (R 0) := by rw [t3 0 (by omega), g4 0 (by omega)]; exact e0
                  rw [z0, nI_1] at eu
                  have y0 : υ 236 0 = nI (R 0 + 1) := by rw [eu, up_s]
                  rw [y0, nI_pred]
                  refine hK υ ((fr.tr t1).tr (by rw [eu]; exact Fr.rf.up (by decide))) (fun k hk => ?_)
                  by_cases k0 : k = 0
                  · subst k0; rw [y0]; rfl
                  · rw [eu, up_j k0]
                    unfold addT
                    rw [if_neg k0]
                    by_cases k1 : k < 1 + 13 * R 0
                    · rw [if_pos k1, t3 k (by omega), g4 k (by omega)]; exact hR k hk
                    · rw [if_neg k1]
                      by_cases k2 : 1 + 13 * R 0 + 13 ≤ k
                      · rw [if_pos k2, t3 k (by omega), g4 k (by omega)]; exact hR k hk
                      · rw [if_neg k2]
                        by_cases p0 : k = 1 + 13 * R 0
                        · rw [if_pos p0, t3 k (by omega), f4, up_j (by omega), f3, up_j (by omega), f2, up_j (by omega), f1, p0, up_s]
                        · rw [if_neg p0]
                          by_cases p1 : k = 1 + 13 * R 0 + 1
                          · rw [if_pos p1, t3 k (by omega), f4, up_j (by omega), f3, up_j (by omega), f2, p1, up_s]
                          · rw [if_neg p1]
                            by_cases p2 : k = 1 + 13 * R 0 + 2
                            · rw [if_pos p2, t3 k (by omega), f4, up_j (by omega), f3, p2, up_s]
                            · rw [if_neg p2]
                              by_cases p3 : k = 1 + 13 * R 0 + 3
                              · rw [if_pos p3, t3 k (by omega), f4, p3, up_s]
                              · rw [if_neg p3]
                                have := t2 (k - (1 + 13 * R 0)) (by omega) (by omega)
                                rw [show 1 + 13 * R 0 + (k - (1 + 13 * R 0)) = k by omega] at this
                                rw [this]; rfl
                have no : ¬ (r = 0 ∨ (cd R c (r - 1) = 1 ∧ wnN R c (r - 1) a (R 0) ∧ wnN R c (r - 1) b (R 0))) → K (-2) σ := fun y => hK.2 (fun x => y x.2.2.2.2.2)
                rw [show (0 : Int32) = nI 0 from rfl, br_iff (nI_eq hr2 (by decide))]
                refine ⟨fun z => br_f (by decide) (yes (Or.inl z)), fun z6 => ?_⟩
                rw [L1, sub1 (by omega), m_closed hR hr (by omega) (by omega)]
                by_cases z7 : cd R c (r - 1) = 1
                · rw [br_T z7, br_F (by decide)]
                  refine m_hasWon hR hr h12 hc2 (by omega) ha2 ⟨fun w1 => br_f (by decide) ?_, fun w1 => br_t rfl (br_t rfl (no (fun y => ?_)))⟩
                  · refine m_hasWon hR hr h12 hc2 (by omega) hb2 ⟨fun w2 => br_f (by decide) (br_f (by decide) ?_), fun w2 => br_t rfl (br_t rfl (no (fun y => ?_)))⟩
                    · exact yes (Or.inr ⟨z7, w1, w2⟩)
                    · rcases y with y | y
                      · exact z6 y
                      · exact w2 y.2.2
                  · rcases y with y | y
                    · exact z6 y
                    · exact w1 y.2.1
                · rw [br_F z7]
                  refine br_t rfl (br_t rfl (no (fun y => ?_)))
                  rcases y with y | y
                  · exact z6 y
                  · exact z7 y.1
        · rw [br_F q3, br_T rfl]
          exact hK.2 (fun z => q3 z.2.2.2)
      · rw [br_F q2, br_T rfl]
        exact hK.2 (fun z => q2 z.2.2.1)
    · rw [br_F q1', br_T rfl]
      exact hK.2 (fun z => q1' z.2.1)
  · rw [br_F q1, br_T rfl]
    exact hK.2 (fun z => q1 z.1)
end
/-- refused, and forgotten -/
theorem In.fg {σ υ : Sg} {n : Nat} {B T R : Nat → Nat} {m nx : Nat} {U : Nat → Nat → Nat} {kb : Nat → Nat} {V : Nat → Nat → Nat} (h : In σ n B T R m nx U kb V) (o : ∀ k, k ≠ 233 → k ≠ 237 → k ≠ 242 → υ k = σ k) (o4 : ∀ j, j ≠ 0 → j ≠ 5 → j ≠ 17 → υ 233 j = σ 233 j) (hu : undoR υ m U) : In υ n B T R m nx U kb V := by
  obtain ⟨a1, a2, a3, a4, a5, a6, a7, a8⟩ := h
  have o' : ∀ k, (k < 233 ∨ (234 ≤ k ∧ k ≤ 236) ∨ (238 ≤ k ∧ k ≤ 240)) → υ k = σ k := fun k hk => o k (by omega) (by omega) (by omega)
  obtain ⟨hg, -, hro⟩ := hist_to a4
  refine ⟨tapeR_congr a1 (by rw [o' 1 (by omega)]) (o' 2 (by omega)) (o4 9 (by omega) (by omega) (by omega)) (o' 240 (by omega)), ⟨by rw [o' 1 (by omega), o4 11 (by omega) (by omega) (by omega)]; exact a2.1, by rw [o' 1 (by omega), o4 12 (by omega) (by omega) (by omega)]; exact a2.2⟩, core_congr a3 (o' 234 (by omega)) (o' 236 (by omega)) (fun k _ _ _ => o' k (by omega)), hist_of ?_ hu hro, keptR_congr a5 (o' 178 (by omega)) (o' 239 (by omega)) (o' 238 (by omega)) (fun k _ _ => o' k (by omega)), ?_, by rw [o' 229 (by omega)]; exact a7, by rw [o' 229 (by omega)]; exact a8⟩
  · obtain ⟨r1, r2, r3, r4, r5⟩ := hg
    refine ⟨r1, r2, by rw [o' 63 (by omega)]; exact r3, by rw [o' 63 (by omega)]; exact r4, fun i hi => ?_⟩
    have hb : (nx + 12 - m + i) % 12 < 12 := Nat.mod_lt _ (by decide)
    exact sea_congr (r5 i hi) (fun k k1 k2 => o' k (by omega))
  · rw [o' 180 (by omega)]
    exact ⟨a6.1, a6.2.1, fun q => led_congr a3.1 (a6.2.2 q) (fun k _ _ => o' k (by omega))⟩
/-- the reference's way around an act that is refused -/
theorem told_no {σ : Sg} {n : Nat} {B T R : Nat → Nat} {m nx : Nat} {U : Nat → Nat → Nat} {kb : Nat → Nat} {V : Nat → Nat → Nat} {x : Int32} (h : In σ n B T R m nx U kb V) (hx : ¬ 0 ≤ x) {τ : Sg} (f : Fr [233, 237, 242] (up σ 233 0 0) τ) (f4 : ∀ j, j ≠ 5 → j ≠ 17 → τ 233 j = (up σ 233 0 0) 233 j) (hu : undoR τ (min (m + 1) 12) (hU m U R)) (h17 : τ 233 17 = nI (if m = 12 then 1 else 0)) (hel : m = 12 → ∀ k, k < 415 → τ 242 k = nI (U 0 k)) : wp_X10_told x τ (fun r υ => x = r ∧ Inv υ) := by
  unfold wp_X10_told b_X10_told_10
  rw [br_F hx]
  have hm := h.2.2.2.1.2.1
  refine m_forg hm hu h17 hel (fun υ g1 g2 g3 => ⟨rfl, (h.fg (fun k a b c => ?_) (fun j a b c => ?_) g3).inv⟩)
  · rw [g1 k (by simp [a, b]), f k (by simp [a, b, c]), up_o a]
  · rw [g2 j b, f4 j b c, up_j a]
theorem told_yes {x : Int32} {τ : Sg} {K : Int32 → Sg → Prop} (hx : 0 ≤ x) (hK : K x τ) : wp_X10_told x τ K := by
  unfold wp_X10_told b_X10_told_10 wp_X10_forgetIf
  rw [br_T hx, br_T rfl]
  exact hK
theorem op_tie : Op_tie Inv := by
  intro σ x1 x2 x3 x4 h
  obtain ⟨n, B, T, R, m, nx, U, kb, V, h⟩ := h
  have h : In σ n B T R m nx U kb V := h
  have hco := h.2.2.1
  obtain ⟨hT, hr, hR, hs, hB, e3, e31, e5, e51, e7, t12, t4, r30⟩ := h.e
  have hh := h.2.2.2.1
  obtain ⟨hg, hu, hro⟩ := hist_to hh
  have hm := hg.2.1
  have z5 : ∀ {υ : Sg}, υ = up σ 233 0 0 → undoR υ m U ∧ rowR (υ 236) R := fun {υ} e => by
    have h2 := h.qn (τ := υ) (by rw [e]; exact Qn.z)
    exact ⟨(hist_to h2.2.2.2.1).2.1, h2.e.2.2.1⟩
  have refuse : ∀ x : Int32, ¬ 0 ≤ x → (∀ τ : Sg, mcore τ T R → ∀ K : Int32 → Sg → Prop, K x τ → wp_X10_doTie x1 x2 x3 x4 τ K) → wp_X10_tie x1 x2 x3 x4 σ (fun r' υ => x = r' ∧ Inv υ) := by
    intro x hx hd τ e
    obtain ⟨a1, a2⟩ := z5 e
    refine m_prep hm a1 a2 (fun τ1 f1 f2 f3 f4 f5 => ?_)
    have hc1 : core τ1 T R := core_congr hco (by rw [f1 234 (by decide), e, up_o (by decide)]) (by rw [f1 236 (by decide), e, up_o (by decide)]) (fun k _ _ _ => by rw [f1 k (by simp; omega), e, up_o (by omega)])
    refine hd τ1 hc1.m _ ?_
    rw [e] at f1 f2
    exact told_no h hx f1 f2 f3 f4 f5
  unfold wp_X9_tie
  refine c_tieCode hco ⟨fun q => ⟨fun q2 => ?_, fun q2 => ?_⟩, fun q => ?_⟩
  · refine br_t (by decide) ?_
    have hin := q
    obtain ⟨q1, q1', q3, q4⟩ := q
    obtain ⟨c, hc, hc2, rfl⟩ := vin_of (by omega) q1
    obtain ⟨r, hr6, hr2, rfl⟩ := vin_of (by decide) q1'
    obtain ⟨a, ha, ha2, rfl⟩ := vin_of (by omega) q3
    obtain ⟨b, hb', hb2, rfl⟩ := vin_of (by omega) q4
    have q2' := q2
    rw [cln_I hc2, cln_I hr2, cln_I ha2, cln_I hb2] at q2'
    have h30 := q2'.2.1
    refine c_rem hg hs r30 (row4 hr) (fun τ f1 f2 f3 f4 => ?_)
    refine c_addT (c := c) (r := r) (a := a) (b := b) (sea_congr hs (fun k k1 k2 => f1 k (by omega))) hr h30 (fun τ1 g1 g2 g3 => ?_)
    rw [g3, nI_pred]
    intro τ2 e2
    have o2 : ∀ k, (k < 55 ∨ 161 ≤ k) → k ≠ 180 → k ≠ 233 → τ2 k = σ k := fun k a b c => by
      rw [e2, up_o c, g1 k (by omega), f1 k (by omega)]
    have o24 : ∀ j, j ≠ 0 → τ2 233 j = σ 233 j := fun j hj => by rw [e2, up_j hj, g1 233 (by omega), f1 233 (by omega)]
    refine m_prep (R := R) hm (U := U) ⟨by rw [o24 5 (by omega)]; exact hu.1, fun i hi => by rw [o2 237 (by omega) (by omega) (by omega)]; exact hu.2 i hi⟩ (by rw [o2 236 (by omega) (by omega) (by omega)]; exact hR) (fun τ3 v1 v2 v3 v4 v5 => ?_)
    have o3 : ∀ k, (k < 55 ∨ 161 ≤ k) → k ≠ 180 → k ≠ 233 → k ≠ 237 → k ≠ 242 → τ3 k = σ k := fun k a b c d e => by
      rw [v1 k (by simp [c, d, e]), o2 k a b c]
    have hc3 : mcore τ3 T R := hco.m.of (o3 234 (by omega) (by omega) (by omega) (by omega) (by omega)) (o3 236 (by omega) (by omega) (by omega) (by omega) (by omega))
    refine m_doTie hc3 ⟨fun _ => ⟨fun _ τ4 w1 w2 => ?_, fun z => absurd q2 z⟩, fun z => absurd hin z⟩
    rw [cln_I hc2, cln_I hr2, cln_I ha2, cln_I hb2] at w2
    refine told_yes (nI_pos' (by omega)) ⟨rfl, ?_⟩
    have o : ∀ k, (k < 55 ∨ 161 ≤ k) → k ≠ 180 → k ≠ 233 → k ≠ 236 → k ≠ 237 → k ≠ 242 → τ4 k = σ k := fun k a b c d e f => by
      rw [w1 k (by simp [d]), o3 k a b c e f]
    have oc : ∀ k, k ≠ 233 → k ≠ 236 → k ≠ 237 → k ≠ 242 → τ4 k = τ1 k := fun k c d e f => by
      rw [w1 k (by simp [d]), v1 k (by simp [c, e, f]), e2, up_o c]
    have z6 : τ4 180 6 = 0 := by rw [oc 180 (by omega) (by omega) (by omega) (by omega), g1 180 (by omega)]; exact f3
    refine (h.act (R' := addT R c r a b) (m' := min (m + 1) 12) (nx' := hN nx) (U' := hU m U R) (kb' := kb) (V' := V) (fun i hi => o i (by omega) (by omega) (by omega) (by omega) (by omega) (by omega)) (fun j hj => ?_) (addT_ok hT hr hc hr6 ha hb' q2') w2 (sea_congr g2 (fun i i1 i2 => oc i (by omega) (by omega) (by omega) (by omega))) (hist_of ?_ ⟨?_, fun i hi => ?_⟩ (hU_ok hm hro hr)) (keptR_congr h.2.2.2.2.1 (o 178 (by omega) (by omega) (by omega) (by omega) (by omega) (by omega)) (o 239 (by omega) (by omega) (by omega) (by omega) (by omega) (by omega)) (o 238 (by omega) (by omega) (by omega) (by omega) (by omega) (by omega)) (fun i i1 i2 => o i (by omega) (by omega) (by omega) (by omega) (by omega) (by omega))) (by omega) (by rw [z6]; exact isZ_0) (fun y => by rw [z6] at y; exact absurd y (by decide))).inv
    · rw [w1 233 (by decide), v2 j (by omega) (by omega), o24 j (by omega)]
    · obtain ⟨r1, r2, r3, r4, r5⟩ := f4
      refine ⟨r1, r2, ?_, ?_, fun i hi => ?_⟩
      · rw [oc 63 (by omega) (by omega) (by omega) (by omega), g1 63 (by omega)]; exact r3
      · rw [oc 63 (by omega) (by omega) (by omega) (by omega), g1 63 (by omega)]; exact r4
      · have hb : (hN nx + 12 - min (m + 1) 12 + i) % 12 < 12 := Nat.mod_lt _ (by decide)
        exact sea_congr (r5 i hi) (fun i1 i2 i3 => by rw [oc i1 (by omega) (by omega) (by omega) (by omega), g1 i1 (by omega)])
    · rw [w1 233 (by decide)]; exact v3.1
    · rw [w1 237 (by decide)]; exact v3.2 i hi
  · refine br_f (by decide) (refuse (-2) (by decide) (fun τ hc K hk => m_doTie hc ⟨fun _ => ⟨fun z => absurd z q2, fun _ => hk⟩, fun z => absurd q z⟩))
  · refine br_f (by decide) (refuse (-1) (by decide) (fun τ hc K hk => m_doTie hc ⟨fun z => absurd z q, fun _ => hk⟩))
