/-! PLAY -/
theorem addG_rT {R : Nat → Nat} {t v w t' j : Nat} (hj : j < 13) (h : t' ≠ t) (hn : rT R t 4 ≤ 3) : rT (addG R t v w) t' j = rT R t' j := by
  show (if _ then _ else _) = _
  rw [if_neg (by omega), if_neg (by omega), if_neg (by omega)]
  rfl
theorem addG_eq {R : Nat → Nat} {t v w j : Nat} (hj : j < 13) (hn : rT R t 4 ≤ 3) : rT (addG R t v w) t j = if j = 5 + 2 * rT R t 4 then v else if j = 5 + 2 * rT R t 4 + 1 then w else if j = 4 then rT R t 4 + 1 else rT R t j := by
  show (if _ then _ else _) = _
  by_cases a : j = 5 + 2 * rT R t 4
  · rw [if_pos (by omega), if_pos a]
  · rw [if_neg (by omega), if_neg a]
    by_cases b : j = 5 + 2 * rT R t 4 + 1
    · rw [if_pos (by omega), if_pos b]
    · rw [if_neg (by omega), if_neg b]
      by_cases c : j = 4
      · rw [if_pos (by omega), if_pos c]
      · rw [if_neg (by omega), if_neg c]; rfl
theorem addG_hi {R : Nat → Nat} {t v w k : Nat} (ht : t < 30) (hn : rT R t 4 ≤ 3) (hk : 391 ≤ k) : addG R t v w k = R k := by
  unfold addG
  rw [if_neg (by omega), if_neg (by omega), if_neg (by omega)]
theorem addG_0 {R : Nat → Nat} {t v w : Nat} : addG R t v w 0 = R 0 := by
  unfold addG
  rw [if_neg (by omega), if_neg (by omega), if_neg (by omega)]
/-- a game can be played -/
def pOk (T R : Nat → Nat) (t w : Nat) : Prop := ¬ de R t ∧ ¬ (w = 2 ∧ rT R t 4 = tC T (rT R t 0) 5)
theorem pOk_3 {T R : Nat → Nat} {t : Nat} (hT : toldOk T) (hr : rowOk T R) (ht : t < R 0) (h : ¬ de R t) : rT R t 4 ≤ 3 ∧ rT R t 4 ≤ tC T (rT R t 0) 5 := by
  obtain ⟨k0, -, -, -, -, -, -, k7, -⟩ := hr.2.2.1 t ht
  have := k7 h
  have := (hT.2.2.2.2 _ k0).2.2.2.2.1
  omega
theorem addG_ok {T R : Nat → Nat} {t v w : Nat} (hT : toldOk T) (hr : rowOk T R) (ht : t < R 0) (hv : v < 100000) (hw : w ≤ 2) (h : pOk T R t w) : rowOk T (addG R t v w) := by
  obtain ⟨p1, p2⟩ := h
  have h30 := hr.1
  obtain ⟨n3, nr⟩ := pOk_3 hT hr ht p1
  refine ⟨by rw [addG_0]; exact h30, fun k => ?_, fun t' ht' => ?_, fun k hk => by rw [addG_hi (by omega) n3 (by omega)]; exact hr.2.2.2 k hk⟩
  · have := hr.2.1 k
    unfold addG
    repeat' split
    all_goals omega
  · rw [addG_0] at ht'
    have ecd : ∀ c r, cd (addG R t v w) c r = cd R c r := fun c r => addG_hi (by omega) n3 (by omega)
    by_cases e : t' = t
    · subst e
      obtain ⟨k0, k1, k2, k3, k4, k5, k6, k7, k8⟩ := hr.2.2.1 t' ht
      have E : ∀ j, j < 13 → j ≠ 4 → j ≠ 5 + 2 * rT R t' 4 → j ≠ 5 + 2 * rT R t' 4 + 1 → rT (addG R t' v w) t' j = rT R t' j := fun j a b c d => by rw [addG_eq a n3, if_neg c, if_neg d, if_neg b]
      have E4 : rT (addG R t' v w) t' 4 = rT R t' 4 + 1 := by rw [addG_eq (by omega) n3, if_neg (by omega), if_neg (by omega), if_pos rfl]
      have Ew : ∀ g, g < 4 → wo (addG R t' v w) t' g = if g = rT R t' 4 then w else wo R t' g := fun g hg => by
        unfold wo
        rw [addG_eq (by omega) n3, if_neg (by omega)]
        by_cases z : g = rT R t' 4
        · rw [if_pos (by omega), if_pos z]
        · rw [if_neg (by omega), if_neg z, if_neg (by omega)]
      have Ede : de (addG R t' v w) t' ↔ w ≠ 2 := by
        unfold de
        rw [E4, show rT R t' 4 + 1 - 1 = rT R t' 4 by omega, Ew _ (by omega), if_pos rfl]
        exact ⟨fun z => z.2, fun z => ⟨by omega, z⟩⟩
      unfold tieOk
      rw [E 0 (by omega) (by omega) (by omega) (by omega), E 1 (by omega) (by omega) (by omega) (by omega), E 2 (by omega) (by omega) (by omega) (by omega), E 3 (by omega) (by omega) (by omega) (by omega), E4, ecd, Ede]
      refine ⟨k0, k1, k2, k3, k4, by omega, fun g hg => ?_, fun z => ?_, fun z => absurd (k8 z) p1⟩
      · rw [Ew g (by omega)]
        by_cases y : g = rT R t' 4
        · rw [if_pos y]; exact hw
        · rw [if_neg y]; exact k6 g (by omega)
      · have : w = 2 := Classical.byContradiction (fun y => z y)
        have : rT R t' 4 ≠ tC T (rT R t' 0) 5 := fun y => p2 ⟨this, y⟩
        omega
    · exact tie_congr (fun w hw => addG_rT hw e n3) (fun z => Or.inl (by rw [ecd] at z; exact z)) (hr.2.2.1 t' ht')
section
variable {σ : Sg} {T R : Nat → Nat}
theorem c_addG {K : Sg → Prop} {t v w : Nat} (hs : sea σ 55 R) (hr : rowOk T R) (ht : t < R 0) (hn : rT R t 4 ≤ 3) (hK : ∀ τ : Sg, (∀ k, k < 60 ∨ 62 < k → τ k = σ k) → sea τ 55 (addG R t v w) → τ 60 t = nI (rT R t 4 + 1) → K τ) : wp_X6_addGame 55 (nI t) (nI v) (nI w) σ K := by
  obtain ⟨e0, e1, e2⟩ := hs
  have h30 := hr.1
  have e5 : σ (55 + 5) t = nI (rT R t 4) := (e2 t ht).2.2.2.2.1
  unfold wp_X6_addGame
  rw [show nI t * 4 = nI (4 * t) by rw [L4, pk_mul, Nat.mul_comm]]
  simp (disch := omega) only [forall_eq, cl_I, vin_T, true_and, e5, nI_add, up_o, nI_1]
  refine hK _ (fun k hk => ?_) ⟨?_, fun j hj => ?_, fun t' ht' => ?_⟩ (by rw [show (60 : Nat) = 55 + 5 from rfl, up_s])
  · simp (disch := omega) only [up_o]
  · simp (disch := omega) only [up_o]
    rw [addG_0]; exact e0
  · simp (disch := omega) only [up_o]
    rw [e1 j hj]
    by_cases q : j < 24
    · rw [addG_hi (by omega) hn (by omega)]
    · simp [q]
  · rw [addG_0] at ht'
    obtain ⟨f1, f2, f3, f4, f5, f6⟩ := e2 t' ht'
    have h4' := (hr.2.2.1 t' ht').2.2.2.2.2.1
    by_cases e : t' = t
    · subst e
      have E : ∀ j, j < 4 → rT (addG R t' v w) t' j = rT R t' j := fun j a => by rw [addG_eq (by omega) hn, if_neg (by omega), if_neg (by omega), if_neg (by omega)]
      have E4 : rT (addG R t' v w) t' 4 = rT R t' 4 + 1 := by rw [addG_eq (by omega) hn, if_neg (by omega), if_neg (by omega), if_pos rfl]
      rw [E 0 (by omega), E 1 (by omega), E 2 (by omega), E 3 (by omega), E4]
      simp (disch := omega) only [up_o, up_s]
      refine ⟨f1, f2, f3, f4, trivial, fun g hg => ?_⟩
      by_cases z : g = rT R t' 4
      · subst z
        have G1 : ga (addG R t' v w) t' (rT R t' 4) = v := by unfold ga; rw [addG_eq (by omega) hn, if_pos rfl]
        have G2 : wo (addG R t' v w) t' (rT R t' 4) = w := by unfold wo; rw [addG_eq (by omega) hn, if_neg (by omega), if_pos rfl]
        rw [G1, G2]
        exact ⟨up_s, up_s⟩
      · have G1 : ga (addG R t' v w) t' g = ga R t' g := by unfold ga; rw [addG_eq (by omega) hn, if_neg (by omega), if_neg (by omega), if_neg (by omega)]
        have G2 : wo (addG R t' v w) t' g = wo R t' g := by unfold wo; rw [addG_eq (by omega) hn, if_neg (by omega), if_neg (by omega), if_neg (by omega)]
        rw [G1, G2, up_j (by omega), up_j (by omega)]
        exact f6 g (by omega)
    · rw [addG_rT (by omega) e hn, addG_rT (by omega) e hn, addG_rT (by omega) e hn, addG_rT (by omega) e hn, addG_rT (by omega) e hn]
      simp (disch := omega) only [up_o, up_j]
      refine ⟨f1, f2, f3, f4, f5, fun g hg => ?_⟩
      have G1 : ga (addG R t v w) t' g = ga R t' g := addG_rT (by omega) e hn
      have G2 : wo (addG R t v w) t' g = wo R t' g := addG_rT (by omega) e hn
      rw [G1, G2, up_j (by omega), up_j (by omega), up_o (by omega)]
      exact f6 g hg
variable {K : Int32 → Sg → Prop} {x1 x2 x3 : Int32}
def pIn (R : Nat → Nat) (x1 x2 x3 : Int32) : Prop := vp_in x1 (R 0) ∧ vp_in x2 100000 ∧ vp_in x3 3
theorem c_playCode (h : core σ T R) (hK : br (pIn R x1 x2 x3) (br (pOk T R (cln x1) (cln x3)) (K 0 σ) (K (-2) σ)) (K (-1) σ)) : wp_X9_playCode x1 x2 x3 σ K := by
  obtain ⟨hT, hr, hb, hR, hs⟩ := h
  have h12 := hT.1
  have h4 := hT.2.1
  have h30 := hr.1
  have e0 : σ 55 0 = nI (R 0) := hs.1
  unfold wp_X9_playCode
  rw [c_isTie e0 (by omega), c_isGate, show br (x3 < 0) (K (-1) σ) (br (x3 ≤ 2) (wp_X6_isDecided 55 x1 σ fun r31_ τ31 => br (r31_ = 0) (vp_in x1 30 ∧ br ((τ31 60 x1.toNatClampNeg) < 4) (vp_in x1 30 ∧ (vp_in (τ31 56 x1.toNatClampNeg) 4 ∧ (∀ v72 : Int32, v72 = τ31 (17 + 1 + (τ31 56 x1.toNatClampNeg).toNatClampNeg) 5 → (br (x3 = 2) (vp_in x1 30 ∧ (br ((τ31 60 x1.toNatClampNeg) < v72) (K 0 τ31) (K (-2) τ31))) (K 0 τ31))))) (K (-2) τ31)) (K (-2) τ31)) (K (-1) σ)) = br (vp_in x3 (2 + 1)) _ (K (-1) σ) from br2L (n := 2) (by decide)]
  by_cases q1 : vp_in x1 (R 0)
  · rw [br_T q1, br_F (by decide)]
    by_cases q2 : vp_in x2 100000
    · rw [br_T q2, br_F (by decide)]
      by_cases q3 : vp_in x3 3
      · rw [br_T q3]
        have hK := hK.1 ⟨q1, q2, q3⟩
        obtain ⟨t, ht, ht2, rfl⟩ := vin_of (by omega) q1
        obtain ⟨w, hw, hw2, rfl⟩ := vin_of (by decide) q3
        rw [cln_I ht2, cln_I hw2] at hK
        have e60 : σ 60 t = nI (rT R t 4) := (hs.2.2 t ht).2.2.2.2.1
        have e56 : σ 56 t = nI (rT R t 0) := (hs.2.2 t ht).1
        have k0 := (hr.2.2.1 t ht).1
        have ec : σ (18 + rT R t 0) 5 = nI (tC T (rT R t 0) 5) := (hb.2.2.2.2 _ k0).1 5 (by omega)
        have c5 := (hT.2.2.2.2 _ k0).2.2.2.2.1
        rw [c_dec hs hr ht]
        by_cases z : de R t
        · rw [br_T z, br_F (by decide)]
          exact hK.2 (fun y => y.1 z)
        · obtain ⟨n3, nr⟩ := pOk_3 hT hr ht z
          rw [br_F z, br_T rfl]
          simp (disch := omega) only [vin_T, cl_I, true_and, e60, e56, L4, nI_ltI, forall_eq, Nat.reduceAdd, ec, L2, nI_eq]
          refine ⟨fun _ => ⟨fun z2 => ⟨fun z3 => hK.1 ⟨z, fun y => by omega⟩, fun z3 => hK.2 (fun y => y.2 ⟨z2, by omega⟩)⟩, fun z2 => hK.1 ⟨z, fun y => z2 y.1⟩⟩, fun y => by omega⟩
      · rw [br_F q3]
        exact hK.2 (fun z => q3 z.2.2)
    · rw [br_F q2, br_T rfl]
      exact hK.2 (fun z => q2 z.2.1)
  · rw [br_F q1, br_T rfl]
    exact hK.2 (fun z => q1 z.1)
theorem m_doPlay (h : mcore σ T R) (hK : br (pIn R x1 x2 x3) (br (pOk T R (cln x1) (cln x3)) (∀ τ : Sg, Fr [236] σ τ → rowR (τ 236) (addG R (cln x1) (cln x2) (cln x3)) → K (nI (rT R (cln x1) 4 + 1)) τ) (K (-2) σ)) (K (-1) σ)) : wp_X10_doPlay x1 x2 x3 σ K := by
  obtain ⟨hT, hr, hb, hR⟩ := h
  have h12 := hT.1
  have h4 := hT.2.1
  have h30 := hr.1
  have e0 := hR 0 (by omega)
  unfold wp_X10_doPlay
  rw [m_isTie e0 (by omega)]
  by_cases q1 : vp_in x1 (R 0)
  · rw [br_T q1, br_F (by decide), wi (n := 100000) (by decide)]
    by_cases q2 : vp_in x2 100000
    · rw [br_T q2, br_F (by decide), wi (n := 3) (by decide)]
      by_cases q3 : vp_in x3 3
      · rw [br_T q3, br_F (by decide)]
        have hK := hK.1 ⟨q1, q2, q3⟩
        obtain ⟨t, ht, ht2, rfl⟩ := vin_of (by omega) q1
        obtain ⟨v, hv, hv2, rfl⟩ := vin_of (by decide) q2
        obtain ⟨w, hw, hw2, rfl⟩ := vin_of (by decide) q3
        rw [cln_I ht2, cln_I hv2, cln_I hw2] at hK
        have k0 := (hr.2.2.1 t ht).1
        have c5 := (hT.2.2.2.2 _ k0).2.2.2.2.1
        rw [m_games hR (by omega), m_dec hR hr ht]
        by_cases z : de R t
        · rw [br_T z, br_F (by decide)]
          exact hK.2 (fun y => y.1 z)
        · obtain ⟨n3, nr⟩ := pOk_3 hT hr ht z
          rw [br_F z, br_T rfl, L2, br_iff (nI_eq (by omega) (by decide))]
          have yes : pOk T R t w → b_X10_doPlay_73 (nI t) (nI v) (nI w) K (nI (rT R t 4)) σ := by
            intro ok
            have hK := hK.1 ok
            unfold b_X10_doPlay_73
            simp (disch := omega) only [L0, L1, L2, L3, L4, L5, L6, L7, L8, L9, L10, L11, L12, L13, L17, L24, L30, L31, L32, L38, L67, L100, L120, L335, L391, L415, L500, L600, L830, L4096, L4564, L4980, L8192, L9999, L99999, L100000, forall_eq, pk_mul, nI_add, vin_T, cl_I, true_and]
            refine hK _ (Fr.rf.up (by decide) |>.up (by decide) |>.up (by decide)) (fun k hk => ?_)
            unfold addG
            by_cases a : k = 1 + 13 * t + (5 + 2 * rT R t 4)
            · rw [if_pos a, up_j (by omega), up_j (by omega), a, show 1 + 13 * t + 5 + 2 * rT R t 4 = 1 + 13 * t + (5 + 2 * rT R t 4) by omega, up_s]
            · rw [if_neg a]
              by_cases b : k = 1 + 13 * t + (5 + 2 * rT R t 4 + 1)
              · rw [if_pos b, up_j (by omega), b, show 1 + 13 * t + 5 + 2 * rT R t 4 + 1 = 1 + 13 * t + (5 + 2 * rT R t 4 + 1) by omega, up_s]
              · rw [if_neg b]
                by_cases c : k = 1 + 13 * t + 4
                · rw [if_pos c, c, up_s]
                · rw [if_neg c, up_j (by omega), up_j (by omega), up_j (by omega)]
                  exact hR k hk
          refine ⟨fun z2 => ?_, fun z2 => yes ⟨z, fun y => z2 y.1⟩⟩
          rw [L0, m_tie hR (by omega), L5, m_cup hb (by omega) (by decide), br_iff (nI_eq (by omega) (by omega))]
          exact ⟨fun z3 => hK.2 (fun y => y.2 ⟨z2, z3⟩), fun z3 => yes ⟨z, fun y => z3 y.2⟩⟩
      · rw [br_F q3, br_T rfl]
        exact hK.2 (fun z => q3 z.2.2)
    · rw [br_F q2, br_T rfl]
      exact hK.2 (fun z => q2 z.2.1)
  · rw [br_F q1, br_T rfl]
    exact hK.2 (fun z => q1 z.1)
end
theorem op_play : Op_play Inv := by
  intro σ x1 x2 x3 h
  obtain ⟨n, B, T, R, m, nx, U, kb, V, h⟩ := h
  have h : In σ n B T R m nx U kb V := h
  have hco := h.2.2.1
  obtain ⟨hT, hr, hR, hs, hB, e3, e31, e5, e51, e7, t12, t4, r30⟩ := h.e
  have hh := h.2.2.2.1
  obtain ⟨hg, hu, hro⟩ := hist_to hh
  have hm := hg.2.1
  have z5 : ∀ {υ : Sg}, υ = up σ 233 0 0 → undoR υ m U ∧ rowR (υ 236) R := fun {υ} e => by
    have h2 := h.qn (τ := υ) (by rw [e]; exact Qn.z)
    exact ⟨(hist_to h2.2.2.2.1).2.1, h2.e.2.2.1⟩
  have refuse : ∀ x : Int32, ¬ 0 ≤ x → (∀ τ : Sg, mcore τ T R → ∀ K : Int32 → Sg → Prop, K x τ → wp_X10_doPlay x1 x2 x3 τ K) → wp_X10_play x1 x2 x3 σ (fun r' υ => x = r' ∧ Inv υ) := by
    intro x hx hd τ e
    obtain ⟨a1, a2⟩ := z5 e
    refine m_prep hm a1 a2 (fun τ1 f1 f2 f3 f4 f5 => ?_)
    have hc1 : core τ1 T R := core_congr hco (by rw [f1 234 (by decide), e, up_o (by decide)]) (by rw [f1 236 (by decide), e, up_o (by decide)]) (fun k _ _ _ => by rw [f1 k (by simp; omega), e, up_o (by omega)])
    refine hd τ1 hc1.m _ ?_
    rw [e] at f1 f2
    exact told_no h hx f1 f2 f3 f4 f5
  unfold wp_X9_play
  refine c_playCode hco ⟨fun q => ⟨fun q2 => ?_, fun q2 => ?_⟩, fun q => ?_⟩
  · refine br_t (by decide) ?_
    have hin := q
    obtain ⟨q1, q1', q3⟩ := q
    obtain ⟨t, ht, ht2, rfl⟩ := vin_of (by omega) q1
    obtain ⟨v, hv, hv2, rfl⟩ := vin_of (by decide) q1'
    obtain ⟨w, hw, hw2, rfl⟩ := vin_of (by decide) q3
    have q2' := q2
    rw [cln_I ht2, cln_I hw2] at q2'
    have hn := (pOk_3 hT hr ht q2'.1).1
    have hcl := (hr.2.2.1 t ht).2.2.1
    refine c_rem hg hs r30 (row4 hr) (fun τ f1 f2 f3 f4 => ?_)
    refine c_addG (v := v) (w := w) (sea_congr hs (fun k k1 k2 => f1 k (by omega))) hr ht hn (fun τ1 g1 g2 g3 => ?_)
    rw [vin_T (by omega) (by decide), true_and, cl_I ht2, g3]
    intro τ2 e2
    have o2 : ∀ k, (k < 55 ∨ 161 ≤ k) → k ≠ 180 → k ≠ 233 → τ2 k = σ k := fun k a b c => by
      rw [e2, up_o c, g1 k (by omega), f1 k (by omega)]
    have o24 : ∀ j, j ≠ 0 → τ2 233 j = σ 233 j := fun j hj => by rw [e2, up_j hj, g1 233 (by omega), f1 233 (by omega)]
    refine m_prep (R := R) hm (U := U) ⟨by rw [o24 5 (by omega)]; exact hu.1, fun i hi => by rw [o2 237 (by omega) (by omega) (by omega)]; exact hu.2 i hi⟩ (by rw [o2 236 (by omega) (by omega) (by omega)]; exact hR) (fun τ3 v1 v2 v3 v4 v5 => ?_)
    have o3 : ∀ k, (k < 55 ∨ 161 ≤ k) → k ≠ 180 → k ≠ 233 → k ≠ 237 → k ≠ 242 → τ3 k = σ k := fun k a b c d e => by
      rw [v1 k (by simp [c, d, e]), o2 k a b c]
    have hc3 : mcore τ3 T R := hco.m.of (o3 234 (by omega) (by omega) (by omega) (by omega) (by omega)) (o3 236 (by omega) (by omega) (by omega) (by omega) (by omega))
    refine m_doPlay hc3 ⟨fun _ => ⟨fun _ τ4 w1 w2 => ?_, fun z => absurd q2 z⟩, fun z => absurd hin z⟩
    rw [cln_I ht2, cln_I hv2, cln_I hw2] at w2
    rw [cln_I ht2]
    refine told_yes (nI_pos' (by omega)) ⟨rfl, ?_⟩
    have o : ∀ k, (k < 55 ∨ 161 ≤ k) → k ≠ 180 → k ≠ 233 → k ≠ 236 → k ≠ 237 → k ≠ 242 → τ4 k = σ k := fun k a b c d e f => by
      rw [w1 k (by simp [d]), o3 k a b c e f]
    have oc : ∀ k, k ≠ 233 → k ≠ 236 → k ≠ 237 → k ≠ 242 → τ4 k = τ1 k := fun k c d e f => by
      rw [w1 k (by simp [d]), v1 k (by simp [c, e, f]), e2, up_o c]
    have z6 : τ4 180 6 = 0 := by rw [oc 180 (by omega) (by omega) (by omega) (by omega), g1 180 (by omega)]; exact f3
    refine (h.act (R' := addG R t v w) (m' := min (m + 1) 12) (nx' := hN nx) (U' := hU m U R) (kb' := kb) (V' := V) (fun i hi => o i (by omega) (by omega) (by omega) (by omega) (by omega) (by omega)) (fun j hj => ?_) (addG_ok hT hr ht hv (by omega) q2') w2 (sea_congr g2 (fun i i1 i2 => oc i (by omega) (by omega) (by omega) (by omega))) (hist_of ?_ ⟨?_, fun i hi => ?_⟩ (hU_ok hm hro hr)) (keptR_congr h.2.2.2.2.1 (o 178 (by omega) (by omega) (by omega) (by omega) (by omega) (by omega)) (o 239 (by omega) (by omega) (by omega) (by omega) (by omega) (by omega)) (o 238 (by omega) (by omega) (by omega) (by omega) (by omega) (by omega)) (fun i i1 i2 => o i (by omega) (by omega) (by omega) (by omega) (by omega) (by omega))) (by omega) (by rw [z6]; exact isZ_0) (fun y => by rw [z6] at y; exact absurd y (by decide))).inv
    · rw [w1 233 (by decide), v2 j (by omega) (by omega), o24 j (by omega)]
    · obtain ⟨r1, r2, r3, r4, r5⟩ := f4
      refine ⟨r1, r2, ?_, ?_, fun i hi => ?_⟩
      · rw [oc 63 (by omega) (by omega) (by omega) (by omega), g1 63 (by omega)]; exact r3
      · rw [oc 63 (by omega) (by omega) (by omega) (by omega), g1 63 (by omega)]; exact r4
      · have hb : (hN nx + 12 - min (m + 1) 12 + i) % 12 < 12 := Nat.mod_lt _ (by decide)
        exact sea_congr (r5 i hi) (fun i1 i2 i3 => by rw [oc i1 (by omega) (by omega) (by omega) (by omega), g1 i1 (by omega)])
    · rw [w1 233 (by decide)]; exact v3.1
    · rw [w1 237 (by decide)]; exact v3.2 i hi
  · refine br_f (by decide) (refuse (-2) (by decide) (fun τ hc K hk => m_doPlay hc ⟨fun _ => ⟨fun z => absurd z q2, fun _ => hk⟩, fun z => absurd q z⟩))
  · refine br_f (by decide) (refuse (-1) (by decide) (fun τ hc K hk => m_doPlay hc ⟨fun z => absurd z q, fun _ => hk⟩))
