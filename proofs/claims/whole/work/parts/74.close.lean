/-! CLOSE -/
def allD (R : Nat → Nat) (c r n : Nat) : Prop := ∀ t, t < n → isO R t c r → de R t
theorem allD_s {R : Nat → Nat} {c r n : Nat} : allD R c r (n + 1) ↔ allD R c r n ∧ (isO R n c r → de R n) := by
  constructor
  · intro h
    exact ⟨fun t ht => h t (by omega), h n (by omega)⟩
  · intro h t ht
    by_cases q : t = n
    · subst q; exact h.2
    · exact h.1 t (by omega)
theorem nOf_s {R : Nat → Nat} {c r n : Nat} : nOf R c r (n + 1) = nOf R c r n + (if rT R n 0 = c ∧ rT R n 1 = r then 1 else 0) := rfl
/-- a round can be closed -/
def kOk (R : Nat → Nat) (c r : Nat) : Prop := ¬ cd R c r = 1 ∧ 0 < nOf R c r (R 0) ∧ allD R c r (R 0)
section
variable {σ : Sg} {T R : Nat → Nat} {c r : Nat} {K : Int32 → Sg → Prop}
theorem c_canClose (hs : sea σ 55 R) (hr : rowOk T R) (hc : c < 4) (hr6 : r < 6) (hK : br (kOk R c r) (K 1 σ) (K 0 σ)) : wp_X6_canClose 55 (nI c) (nI r) σ K := by
  have h30 := hr.1
  have es : σ 55 0 = nI (R 0) := hs.1
  have main : ∀ d t (y3 y4 : Int32), t + d = R 0 → ((y3 = 1 ∧ 0 < nOf R c r t) ∨ (y3 = 0 ∧ nOf R c r t = 0)) → ((y4 = 1 ∧ allD R c r t) ∨ (y4 = 0 ∧ ¬ allD R c r t)) → b_X6_canClose_8 55 (nI c) (nI r) K (d + 1) y3 y4 (nI t) σ := by
    intro d
    induction d with
    | zero =>
      intro t y3 y4 ht h3 h4
      have : t = R 0 := by omega
      subst this
      refine br_t (by rw [es]; exact nI_le (Nat.le_refl _) (by omega)) ?_
      rcases h3 with ⟨rfl, h3⟩ | ⟨rfl, h3⟩
      · refine br_f (by decide) ?_
        rcases h4 with ⟨rfl, h4⟩ | ⟨rfl, h4⟩
        · refine br_f (by decide) ?_
          rw [c_closed hs hc hr6]
          exact ⟨fun z => br_f (by decide) (hK.2 (fun y => y.1 z)), fun z => br_t rfl (hK.1 ⟨z, h3, h4⟩)⟩
        · exact br_t rfl (hK.2 (fun y => h4 y.2.2))
      · exact br_t rfl (hK.2 (fun y => by have := y.2.1; omega))
    | succ d ih =>
      intro t y3 y4 ht h3 h4
      have htr : t < R 0 := by omega
      refine br_f (by rw [es]; exact nI_ge (by omega) (by omega)) ?_
      rw [c_isOf hs hr htr (by omega) (by omega)]
      by_cases q : isO R t c r
      · rw [br_T q, br_F (by decide)]
        have hn : 0 < nOf R c r (t + 1) := by rw [nOf_s, if_pos (show rT R t 0 = c ∧ rT R t 1 = r from q)]; omega
        rcases h4 with ⟨rfl, h4⟩ | ⟨rfl, h4⟩
        · refine br_f (by decide) ?_
          rw [c_dec hs hr htr]
          refine ⟨fun z => br_f (by decide) (fun v ev => ?_), fun z => br_t rfl (fun v ev => ?_)⟩
          · rw [ev, nI_1]
            exact ih (t + 1) 1 1 (by omega) (Or.inl ⟨rfl, hn⟩) (Or.inl ⟨rfl, allD_s.mpr ⟨h4, fun _ => z⟩⟩)
          · rw [ev, nI_1]
            exact ih (t + 1) 1 0 (by omega) (Or.inl ⟨rfl, hn⟩) (Or.inr ⟨rfl, fun y => z ((allD_s.mp y).2 q)⟩)
        · refine br_t rfl (fun v ev => ?_)
          rw [ev, nI_1]
          exact ih (t + 1) 1 0 (by omega) (Or.inl ⟨rfl, hn⟩) (Or.inr ⟨rfl, fun y => h4 (allD_s.mp y).1⟩)
      · rw [br_F q, br_T rfl]
        intro v ev
        rw [ev, nI_1]
        have e : nOf R c r (t + 1) = nOf R c r t := by rw [nOf_s, if_neg (show ¬ (rT R t 0 = c ∧ rT R t 1 = r) from q)]; rfl
        refine ih (t + 1) y3 y4 (by omega) (by rw [e]; exact h3) ?_
        rcases h4 with ⟨a, b⟩ | ⟨a, b⟩
        · exact Or.inl ⟨a, allD_s.mpr ⟨b, fun z => absurd z q⟩⟩
        · exact Or.inr ⟨a, fun y => b (allD_s.mp y).1⟩
  exact ⟨_, main (R 0) 0 0 1 (by omega) (Or.inr ⟨rfl, rfl⟩) (Or.inl ⟨rfl, fun t ht => by omega⟩)⟩
theorem m_isDone (hR : rowR (σ 236) R) (hr : rowOk T R) (hc : c < 4) (hr6 : r < 6) (hK : br (kOk R c r) (K 1 σ) (K 0 σ)) : wp_X10_isDone (nI c) (nI r) σ K := by
  have h30 := hr.1
  have bN := b_nOf (T := T) hr c r
  have main : ∀ d t (y3 : Int32), t + d = R 0 → ((y3 = 1 ∧ ¬ cd R c r = 1 ∧ 0 < nOf R c r (R 0) ∧ allD R c r t) ∨ (y3 = 0 ∧ ¬ (¬ cd R c r = 1 ∧ 0 < nOf R c r (R 0) ∧ allD R c r t))) → b_X10_isDone_27 (nI c) (nI r) K (d + 1) y3 (nI t) σ := by
    intro d
    induction d with
    | zero =>
      intro t y3 ht h3
      have : t = R 0 := by omega
      subst this
      refine br_t (by rw [hR 0 (by omega)]; exact nI_le (Nat.le_refl _) (by omega)) ?_
      rcases h3 with ⟨rfl, h3⟩ | ⟨rfl, h3⟩
      · exact ⟨isZ_1, hK.1 h3⟩
      · exact ⟨isZ_0, hK.2 h3⟩
    | succ d ih =>
      intro t y3 ht h3
      have htr : t < R 0 := by omega
      refine br_f (by rw [hR 0 (by omega)]; exact nI_ge (by omega) (by omega)) ?_
      rcases h3 with ⟨rfl, h3⟩ | ⟨rfl, h3⟩
      · refine br_f (by decide) ?_
        rw [m_isOf hR hr htr (by omega) (by omega)]
        refine ⟨fun q => br_f (by decide) ?_, fun q => br_t rfl (fun v ev => ?_)⟩
        · rw [m_dec hR hr htr]
          refine ⟨fun z => br_f (by decide) (fun v ev => ?_), fun z => br_t rfl (fun v ev => ?_)⟩
          · rw [ev, nI_1]
            exact ih (t + 1) 1 (by omega) (Or.inl ⟨rfl, h3.1, h3.2.1, allD_s.mpr ⟨h3.2.2, fun _ => z⟩⟩)
          · rw [ev, nI_1]
            exact ih (t + 1) 0 (by omega) (Or.inr ⟨rfl, fun y => z ((allD_s.mp y.2.2).2 q)⟩)
        · rw [ev, nI_1]
          exact ih (t + 1) 1 (by omega) (Or.inl ⟨rfl, h3.1, h3.2.1, allD_s.mpr ⟨h3.2.2, fun z => absurd z q⟩⟩)
      · refine br_t rfl (fun v ev => ?_)
        rw [ev, nI_1]
        exact ih (t + 1) 0 (by omega) (Or.inr ⟨rfl, fun y => h3 ⟨y.1, y.2.1, (allD_s.mp y.2.2).1⟩⟩)
  unfold wp_X10_isDone
  rw [m_closed hR hr hc hr6]
  refine ⟨fun q => br_f (by decide) ⟨_, main (R 0) 0 0 (by omega) (Or.inr ⟨rfl, fun y => y.1 q⟩)⟩, fun q => br_t rfl (m_tiesOf hR hr (by omega) (by omega) ?_)⟩
  rw [L0, br_iff (nI_leI (by omega) (by decide)), ← L0]
  exact ⟨fun z => ⟨_, main (R 0) 0 0 (by omega) (Or.inr ⟨rfl, fun y => by omega⟩)⟩, fun z => ⟨_, main (R 0) 0 1 (by omega) (Or.inl ⟨rfl, q, by omega, fun t ht => by omega⟩)⟩⟩
theorem addC_rT {t w : Nat} (ht : t < 30) (hw : w < 13) : rT (addC R c r) t w = rT R t w := by
  unfold rT addC
  exact if_neg (by omega)
theorem addC_0 : addC R c r 0 = R 0 := if_neg (by omega)
theorem addC_ok (hr : rowOk T R) (hc : c < 4) (hr6 : r < 6) (h : kOk R c r) : rowOk T (addC R c r) := by
  obtain ⟨a1, a2, a3, a4⟩ := hr
  refine ⟨by rw [addC_0]; exact a1, fun k => ?_, fun t ht => ?_, fun k hk => ?_⟩
  · unfold addC
    split
    · omega
    · exact a2 k
  · rw [addC_0] at ht
    refine tie_congr (fun w hw => addC_rT (by omega) hw) (fun z => ?_) (a3 t ht)
    have h6 := (a3 t ht).2.1
    by_cases q : rT R t 0 = c ∧ rT R t 1 = r
    · exact Or.inr (h.2.2 t ht q)
    · refine Or.inl ?_
      unfold cd addC at z
      rw [if_neg (by omega)] at z
      exact z
  · unfold addC
    split
    · omega
    · exact a4 k hk
theorem addC_sea {x : Int32} (hs : sea σ 55 R) (h30 : R 0 ≤ 30) (h4 : ∀ t, t < R 0 → rT R t 4 ≤ 4) (hc : c < 4) (hr6 : r < 6) (hx : x = σ 55 1 ||| (1 <<< (((nI c * 6) + nI r) &&& 31))) : sea (up σ 55 1 x) 55 (addC R c r) := by
  obtain ⟨s1, s2, s3⟩ := hs
  have ek : nI c * 6 + nI r = nI (6 * c + r) := by rw [L6, pk_mul, nI_add, Nat.mul_comm]
  refine ⟨by rw [up_j (by decide), addC_0]; exact s1, fun j hj => ?_, fun t ht => ?_⟩
  · rw [up_s, hx, ek, bt_or, bt_sh _ (by omega) j hj, s2 j hj]
    unfold addC
    by_cases q : j = 6 * c + r
    · rw [if_pos (show 391 + j = 391 + 6 * c + r by omega)]
      simp [q]
      omega
    · rw [if_neg (show ¬ 391 + j = 391 + 6 * c + r by omega)]
      simp [q]
  · rw [addC_0] at ht
    obtain ⟨b1, b2, b3, b4, b5, b6⟩ := s3 t ht
    rw [up_o (by omega), up_o (by omega), up_o (by omega), up_o (by omega), up_o (by omega), up_o (by omega), up_o (by omega), addC_rT (by omega) (by omega), addC_rT (by omega) (by omega), addC_rT (by omega) (by omega), addC_rT (by omega) (by omega), addC_rT (by omega) (by omega)]
    refine ⟨b1, b2, b3, b4, b5, fun g hg => ?_⟩
    unfold ga wo
    have := h4 t ht
    rw [addC_rT (by omega) (by omega), addC_rT (by omega) (by omega)]
    exact b6 g hg
theorem c_closeCode {x1 x2 : Int32} (h : core σ T R) (hK : br (vp_in x1 (T 1) ∧ vp_in x2 6) (br (kOk R (cln x1) (cln x2)) (K 0 σ) (K (-2) σ)) (K (-1) σ)) : wp_X9_closeCode x1 x2 σ K := by
  have h4 := h.1.2.1
  unfold wp_X9_closeCode
  rw [c_isPool h.2.2.1.2.2.1 (by omega)]
  refine ⟨fun q => br_f (by decide) ?_, fun q => br_t rfl (hK.2 q)⟩
  have hK' := hK.1 q
  obtain ⟨c, hc, hc2, rfl⟩ := vin_of (by omega) q.1
  obtain ⟨r, hr6, hr2, rfl⟩ := vin_of (by decide) q.2
  rw [cln_I hc2, cln_I hr2] at hK'
  exact c_canClose h.2.2.2.2 h.2.1 (by omega) hr6 ⟨fun z => br_f (by decide) (hK'.1 z), fun z => br_t rfl (hK'.2 z)⟩
/-- what the reference's closing leaves -/
def CF (σ τ : Sg) : Prop := (∀ k, ¬ (k = 233 ∨ k = 236 ∨ (243 ≤ k ∧ k ≤ 254)) → τ k = σ k) ∧ ∀ j, j ≠ 40 → (j < 18 ∨ 27 < j) → τ 233 j = σ 233 j
theorem m_doClose {x1 x2 : Int32} (h : mcore σ T R) (hK : br (vp_in x1 (T 1) ∧ vp_in x2 6) (br (kOk R (cln x1) (cln x2)) (∀ τ : Sg, CF σ τ → rowR (τ 236) (addC R (cln x1) (cln x2)) → K (nI (pE T (addC R (cln x1) (cln x2)) (cln x1) (cln x2))) τ) (K (-2) σ)) (K (-1) σ)) : wp_X10_doClose x1 x2 σ K := by
  have h4 := h.1.2.1
  unfold wp_X10_doClose
  rw [m_isCup (h.2.2.1 1 (by omega)) (by omega)]
  refine ⟨fun q1 => br_f (by decide) ?_, fun q1 => br_t rfl (hK.2 (fun y => q1 y.1))⟩
  rw [m_isRound]
  refine ⟨fun q2 => br_f (by decide) ?_, fun q2 => br_t rfl (hK.2 (fun y => q2 y.2))⟩
  have hK' := hK.1 ⟨q1, q2⟩
  obtain ⟨c, hc, hc2, rfl⟩ := vin_of (by omega) q1
  obtain ⟨r, hr6, hr2, rfl⟩ := vin_of (by decide) q2
  rw [cln_I hc2, cln_I hr2] at hK'
  refine m_isDone h.2.2.2 h.2.1 (by omega) hr6 ⟨fun z => br_f (by decide) ?_, fun z => br_t rfl (hK'.2 z)⟩
  have hK2 := hK'.1 z
  rw [show 391 + 6 * nI c + nI r = nI (391 + 6 * c + r) by rw [L391, L6, pk_mul, nI_add, nI_add], show 6 * nI c + nI r = nI (6 * c + r) by rw [L6, pk_mul, nI_add], vin_T (by omega) (by decide), vin_T (by omega) (by decide), cl_I (by omega), cl_I (by omega), true_and]
  intro τ e
  have hR' : rowR (τ 236) (addC R c r) := by
    intro k hk
    rw [e, up_r]
    unfold addC
    by_cases y : k = 391 + 6 * c + r
    · rw [if_pos y, if_pos y]; rfl
    · rw [if_neg y, if_neg y]; exact h.2.2.2 k hk
  have hm : mcore τ T (addC R c r) := ⟨h.1, addC_ok h.2.1 (by omega) hr6 z, by rw [e, up_o (by decide)]; exact h.2.2.1, hR'⟩
  refine m_all hm (fun ω f l => ⟨trivial, ?_⟩)
  rw [(l.2.1 c hc r hr6).2.2.1]
  refine hK2 ω ⟨fun k hk => ?_, fun j j1 j2 => ?_⟩ (by rw [f.1 236 (by omega)]; exact hR')
  · rw [f.1 k (by omega), e, up_o (by omega)]
  · rw [f.2 j j1 j2, e, up_o (by omega)]
end
theorem op_close : Op_close Inv := by
  intro σ x1 x2 h
  obtain ⟨n, B, T, R, m, nx, U, kb, V, h⟩ := h
  have h : In σ n B T R m nx U kb V := h
  have hco := h.2.2.1
  obtain ⟨hT, hr, hR, hs, hB, e3, e31, e5, e51, e7, t12, t4, r30⟩ := h.e
  have hh := h.2.2.2.1
  obtain ⟨hg, hu, hro⟩ := hist_to hh
  have hm := hg.2.1
  have z5 : ∀ {υ : Sg}, υ = up σ 233 0 0 → undoR υ m U ∧ rowR (υ 236) R := fun {υ} e => by
    have h2 := h.qn (τ := υ) (by rw [e]; exact Qn.z)
    exact ⟨(hist_to h2.2.2.2.1).2.1, h2.e.2.2.1⟩
  have refuse : ∀ x : Int32, ¬ 0 ≤ x → (∀ τ : Sg, mcore τ T R → ∀ K : Int32 → Sg → Prop, K x τ → wp_X10_doClose x1 x2 τ K) → wp_X10_close x1 x2 σ (fun r' υ => x = r' ∧ Inv υ) := by
    intro x hx hd τ e
    obtain ⟨a1, a2⟩ := z5 e
    refine m_prep hm a1 a2 (fun τ1 f1 f2 f3 f4 f5 => ?_)
    have hc1 : core τ1 T R := core_congr hco (by rw [f1 234 (by decide), e, up_o (by decide)]) (by rw [f1 236 (by decide), e, up_o (by decide)]) (fun k _ _ _ => by rw [f1 k (by simp; omega), e, up_o (by omega)])
    refine hd τ1 hc1.m _ ?_
    rw [e] at f1 f2
    exact told_no h hx f1 f2 f3 f4 f5
  unfold wp_X9_close
  refine c_closeCode hco ⟨fun q => ⟨fun q2 => ?_, fun q2 => ?_⟩, fun q => ?_⟩
  · refine br_t (by decide) ?_
    have hin := q
    obtain ⟨q1, q1'⟩ := q
    obtain ⟨c, hc, hc2, rfl⟩ := vin_of (by omega) q1
    obtain ⟨r, hr6, hr2, rfl⟩ := vin_of (by decide) q1'
    have q2' := q2
    rw [cln_I hc2, cln_I hr2] at q2'
    have hT0 : T 0 ≠ 0 := fun z => by
      have := h.2.2.2.2.2.1.1 z
      have hn := q2'.2.1
      rw [this.2.2.2] at hn
      exact absurd hn (by show ¬ 0 < 0; omega)
    have hr' := addC_ok (T := T) hr (by omega) hr6 q2'
    refine c_rem hg hs r30 (row4 hr) (fun τ f1 f2 f3 f4 => ?_)
    intro τ0 e0
    have hs0 : sea τ0 55 (addC R c r) := by
      rw [e0]
      exact addC_sea (sea_congr hs (fun k k1 k2 => f1 k (by omega))) r30 (row4 hr) (by omega) hr6 rfl
    have g1 : ∀ k, k ≠ 55 → τ0 k = τ k := fun k hk => by rw [e0, up_o hk]
    have hcc : ccore τ0 T (addC R c r) := ⟨hT, hr', bookR_congr hT hco.2.2.1 (by rw [g1 234 (by decide), f1 234 (by omega)]) (by rw [g1 3 (by decide), f1 3 (by omega)]) (fun k _ _ => by rw [g1 k (by omega), f1 k (by omega)]), hs0⟩
    refine br_t (by rw [g1 180 (by decide)]; exact f3) (c_all hcc (fun τ1 p1 p2 p3 => ?_))
    rw [show nI c * 6 + nI r = nI (6 * c + r) by rw [L6, pk_mul, nI_add, Nat.mul_comm], vin_T (by omega) (by decide), cl_I (by omega)]
    refine ⟨trivial, ?_⟩
    have pv := (p2.2.1 c hc r hr6).2.2.1
    intro τ2 e2
    have oo : ∀ k, (k < 179 ∨ 226 < k) → k ≠ 55 → τ1 k = τ k := fun k a b => by rw [p1 k a, g1 k b]
    have o2 : ∀ k, (k < 55 ∨ (161 ≤ k ∧ k < 179) ∨ 226 < k) → k ≠ 233 → τ2 k = σ k := fun k a c => by
      rw [e2, up_o c, oo k (by omega) (by omega), f1 k (by omega)]
    have o24 : ∀ j, j ≠ 0 → τ2 233 j = σ 233 j := fun j hj => by rw [e2, up_j hj, oo 233 (by omega) (by omega), f1 233 (by omega)]
    refine m_prep (R := R) hm (U := U) ⟨by rw [o24 5 (by omega)]; exact hu.1, fun i hi => by rw [o2 237 (by omega) (by omega)]; exact hu.2 i hi⟩ (by rw [o2 236 (by omega) (by omega)]; exact hR) (fun τ3 v1 v2 v3 v4 v5 => ?_)
    have o3 : ∀ k, (k < 55 ∨ (161 ≤ k ∧ k < 179) ∨ 226 < k) → k ≠ 233 → k ≠ 237 → k ≠ 242 → τ3 k = σ k := fun k a c d e => by
      rw [v1 k (by simp [c, d, e]), o2 k a c]
    have hc3 : mcore τ3 T R := hco.m.of (o3 234 (by omega) (by omega) (by omega) (by omega)) (o3 236 (by omega) (by omega) (by omega) (by omega))
    refine m_doClose hc3 ⟨fun _ => ⟨fun _ τ4 w1 w2 => ?_, fun z => absurd q2 z⟩, fun z => absurd hin z⟩
    rw [cln_I hc2, cln_I hr2] at w2 ⊢
    have bE : pE T (addC R c r) c r ≤ 72000000 := by
      have b1 := b_Tot hT hr' c hr6
      unfold pE
      split
      · unfold pEach
        split
        · omega
        · exact Nat.le_trans (Nat.div_le_self _ _) b1
      · omega
    refine told_yes (nI_pos' (by omega)) ⟨pv, ?_⟩
    have o : ∀ k, (k < 55 ∨ (161 ≤ k ∧ k < 179) ∨ (226 < k ∧ k < 243)) → k ≠ 233 → k ≠ 236 → k ≠ 237 → k ≠ 242 → τ4 k = σ k := fun k a c d e f => by
      rw [w1.1 k (by omega), o3 k (by omega) c e f]
    have oc : ∀ k, k < 233 → τ4 k = τ1 k := fun k c => by
      rw [w1.1 k (by omega), v1 k (by simp; omega), e2, up_o (by omega)]
    have z6 : τ4 180 6 = 1 := by rw [oc 180 (by omega)]; exact p3
    refine (h.act (R' := addC R c r) (m' := min (m + 1) 12) (nx' := hN nx) (U' := hU m U R) (kb' := kb) (V' := V) (fun i hi => o i (by omega) (by omega) (by omega) (by omega) (by omega)) (fun j hj => ?_) hr' w2 (sea_congr hs0 (fun i i1 i2 => by rw [oc i (by omega), p1 i (by omega)])) (hist_of ?_ ⟨?_, fun i hi => ?_⟩ (hU_ok hm hro hr)) (keptR_congr h.2.2.2.2.1 (o 178 (by omega) (by omega) (by omega) (by omega) (by omega)) (o 239 (by omega) (by omega) (by omega) (by omega) (by omega)) (o 238 (by omega) (by omega) (by omega) (by omega) (by omega)) (fun i i1 i2 => o i (by omega) (by omega) (by omega) (by omega) (by omega))) hT0 (by rw [z6]; exact isZ_1) (fun _ => led_congr hT p2 (fun k k1 k2 => oc k (by omega)))).inv
    · rw [w1.2 j (by omega) (by omega), v2 j (by omega) (by omega), o24 j (by omega)]
    · obtain ⟨r1, r2, r3, r4, r5⟩ := f4
      refine ⟨r1, r2, ?_, ?_, fun i hi => ?_⟩
      · rw [oc 63 (by omega), oo 63 (by omega) (by omega)]; exact r3
      · rw [oc 63 (by omega), oo 63 (by omega) (by omega)]; exact r4
      · have hb : (hN nx + 12 - min (m + 1) 12 + i) % 12 < 12 := Nat.mod_lt _ (by decide)
        exact sea_congr (r5 i hi) (fun i1 i2 i3 => by rw [oc i1 (by omega), oo i1 (by omega) (by omega)])
    · rw [w1.2 5 (by omega) (by omega)]; exact v3.1
    · rw [w1.1 237 (by omega)]; exact v3.2 i hi
  · refine br_f (by decide) (refuse (-2) (by decide) (fun τ hc K hk => m_doClose hc ⟨fun _ => ⟨fun z => absurd z q2, fun _ => hk⟩, fun z => absurd q z⟩))
  · refine br_f (by decide) (refuse (-1) (by decide) (fun τ hc K hk => m_doClose hc ⟨fun z => absurd z q, fun _ => hk⟩))
