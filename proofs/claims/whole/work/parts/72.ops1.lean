/-! POOL, CUP, CLUB -/
section
variable {σ : Sg} {T R : Nat → Nat} {c b : Nat}
theorem m_gatesOf {K : Int32 → Sg → Prop} (hR : rowR (σ 236) R) (hr : rowOk T R) (hc : c < 2 ^ 31) (hK : K (nI (ac R (fCG R c) (R 0) 0)) σ) : wp_X10_gatesOf (nI c) σ K := by
  have h30 := hr.1
  have inner : ∀ {B : Int32 → Int32 → Sg → Prop} {t : Nat}, t < R 0 → rT R t 0 = c → B (nI (ac R (fCG R c) (t + 1) 0)) (nI (t + 1)) σ → ∀ d g, g + d = rT R t 4 → b_X10_gatesOf_17 (nI c) B K (d + 1) (nI (ac R (fCG R c) t g)) (nI t) (nI g) σ := by
    intro B t ht q hB d
    have k5 := row4 hr t ht
    induction d with
    | zero =>
      intro g hg
      have e : g = rT R t 4 := by omega
      subst e
      show wp_X10_games (nI t) σ _
      rw [m_games hR (by omega)]
      refine br_t (nI_le (Nat.le_refl _) (by omega)) (fun v ev => ?_)
      rw [ev, nI_1]
      exact hB
    | succ d ih =>
      intro g hg
      show wp_X10_games (nI t) σ _
      rw [m_games hR (by omega)]
      refine br_f (nI_ge (by omega) (by omega)) (m_tie0 hR (by omega) ?_)
      rw [q]
      refine br_t rfl ?_
      rw [m_gate hR (by omega) (by omega)]
      intro v ev w ew
      rw [ev, ew, nI_1, nI_add, show ac R (fCG R c) t g + ga R t g = ac R (fCG R c) t (g + 1) by rw [ac_s]; congr 1; exact (if_pos q).symm]
      exact ih (g + 1) (by omega)
  have main : ∀ d t, t + d = R 0 → b_X10_gatesOf_4 (nI c) K (d + 1) (nI (ac R (fCG R c) t 0)) (nI t) σ := by
    intro d
    induction d with
    | zero =>
      intro t ht
      have : t = R 0 := by omega
      subst this
      refine br_t ?_ hK
      rw [hR 0 (by omega)]
      exact nI_le (Nat.le_refl _) (by omega)
    | succ d ih =>
      intro t ht
      refine br_f ?_ ?_
      · rw [hR 0 (by omega)]
        exact nI_ge (by omega) (by omega)
      · have nx := ih (t + 1) (by omega)
        have k5 := row4 hr t (by omega)
        by_cases q : rT R t 0 = c
        · exact ⟨_, inner (by omega) q nx (rT R t 4) 0 (by omega)⟩
        · have e : ac R (fCG R c) (t + 1) 0 = ac R (fCG R c) t 0 := by
            rw [ac_n]
            show _ + su (fCG R c t) (rT R t 4) = _
            rw [show su (fCG R c t) (rT R t 4) = 0 from su_zero (rT R t 4) (fun i _ => if_neg q)]
            rfl
          rw [e] at nx
          have b0 : rT R t 0 < 2 ^ 31 := Nat.lt_trans (hr.2.1 _) (by decide)
          refine ⟨1, ?_⟩
          show wp_X10_games (nI t) σ _
          rw [m_games hR (by omega)]
          refine ⟨fun _ v ev => ?_, fun _ => m_tie0 hR (by omega) (br_f (fun z => q (nI_m z b0 hc)) (fun v ev => ?_))⟩
          · rw [ev, nI_1]; exact nx
          · rw [ev, nI_1]; exact nx
  exact ⟨_, main (R 0) 0 (by omega)⟩
theorem nOf_all (hr : rowOk T R) : su (fun r => nOf R c r (R 0)) 6 = nC R c (R 0) := by
  show su (fun r => su (fun t => if rT R t 0 = c ∧ rT R t 1 = r then 1 else 0) (R 0)) 6 = _
  rw [su_comm]
  refine su_congr (R 0) (fun t ht => ?_)
  have h6 := (hr.2.2.1 t ht).2.1
  by_cases q : rT R t 0 = c
  · rw [if_pos q, su_congr 6 (fun r _ => su_if2 (q := rT R t 1 = r) ⟨fun z => z.2, fun z => ⟨q, z⟩⟩), su_one, if_pos h6]
  · rw [if_neg q]
    exact su_zero 6 (fun r _ => if_neg (fun z => q z.1))
theorem m_tiesIn {K : Int32 → Sg → Prop} (hR : rowR (σ 236) R) (hr : rowOk T R) (hc : c < 2 ^ 31) (hK : K (nI (nC R c (R 0))) σ) : wp_X10_tiesIn (nI c) σ K := by
  have main : ∀ d r, r + d = 6 → b_X10_tiesIn_4 (nI c) K (d + 1) (nI (su (fun r => nOf R c r (R 0)) r)) (nI r) σ := by
    intro d
    induction d with
    | zero =>
      intro r hr'
      have : r = 6 := by omega
      subst this
      refine br_t (by decide) ?_
      rw [nOf_all hr]; exact hK
    | succ d ih =>
      intro r hr'
      refine br_f (nI_ge (b := 6) (by omega) (by decide)) (m_tiesOf hR hr hc (by omega) ?_)
      intro v ev w ew
      rw [ev, ew, nI_1, nI_add]
      exact ih (r + 1) (by omega)
  exact ⟨_, main 6 0 (by omega)⟩
theorem m_wins {K : Int32 → Sg → Prop} (hR : rowR (σ 236) R) (hr : rowOk T R) (hT : T 0 ≤ 12) (hb : b < 2 ^ 31) (hK : K (nI (aWi R b (R 0))) σ) : wp_X10_wins (nI b) σ K := by
  have h30 := hr.1
  have main : ∀ d t, t + d = R 0 → b_X10_wins_4 (nI b) K (d + 1) (nI (aWi R b t)) (nI t) σ := by
    intro d
    induction d with
    | zero =>
      intro t ht
      have : t = R 0 := by omega
      subst this
      refine br_t ?_ hK
      rw [hR 0 (by omega)]
      exact nI_le (Nat.le_refl _) (by omega)
    | succ d ih =>
      intro t ht
      have htr : t < R 0 := by omega
      have nx := ih (t + 1) (by omega)
      rw [aWi_s] at nx
      refine br_f ?_ ?_
      · rw [hR 0 (by omega)]
        exact nI_ge (by omega) (by omega)
      · rw [m_win hR hr htr]
        by_cases q : de R t
        · have hw := (wnr_lt hr htr q).1
          rw [br_T q, br_iff (nI_eq (by omega) hb)]
          refine ⟨fun z v ev w ew => ?_, fun z v ev w ew => ?_⟩
          · rw [ev, ew, nI_1, nI_1]
            rw [if_pos ⟨q, z⟩] at nx
            exact nx
          · rw [ev, ew, nI_1, Int32.add_zero]
            rw [if_neg (fun y => z y.2)] at nx
            exact nx
        · rw [br_F q]
          refine br_f (fun z => nm1' hb z) (fun v ev w ew => ?_)
          rw [ev, ew, nI_1, Int32.add_zero]
          rw [if_neg (fun y => q y.1)] at nx
          exact nx
  exact ⟨_, main (R 0) 0 (by omega)⟩
end
theorem op_pool : Op_pool Inv := by
  intro σ x y z h
  obtain ⟨n, B, T, R, m, nx, U, kb, V, h⟩ := h
  have h : In σ n B T R m nx U kb V := h
  obtain ⟨hT, hr, hR, hs, hB, e3, e31, e5, e51, e7, t12, t4, r30⟩ := h.e
  unfold wp_X9_pool
  rw [c_isPool e31 (by omega), L7, br2' (by decide)]
  by_cases q : vp_in x (T 1) ∧ vp_in y 6
  · obtain ⟨c, hc, hc2, rfl⟩ := vin_of (by omega) q.1
    obtain ⟨r, hr6, hr2, rfl⟩ := vin_of (by decide) q.2
    rw [br_T q, br_F (by decide)]
    refine ⟨fun q3 => ?_, fun q3 υ e => ?_⟩
    · obtain ⟨w, hw, hw2, rfl⟩ := vin_of (by decide) q3
      refine c_rk h (fun τ f hτ hl => ?_)
      rw [show nI c * 6 + nI r = nI (6 * c + r) by rw [L6, pk_mul, nI_add, Nat.mul_comm], vin_T (by omega) (by decide), vin_T hw (by decide), cl_I (by omega), cl_I (by omega), true_and, true_and]
      intro υ e
      have h2 := hτ.qn (τ := υ) (by rw [e]; exact Qn.z)
      rw [m_isCup h2.e.2.2.2.2.2.2.2.2.1 (by omega), br_T q.1, br_F (by decide), m_isRound, br_T q.2, br_F (by decide)]
      refine m_all h2.2.2.1.m (fun ω f2 l2 => ?_)
      have h3 := h2.qn f2.q
      intro v ev
      have ev : v = nI (6 * c + r) := by rw [ev, L6, pk_mul, nI_add]
      rw [ev, vin_T (by omega) (by decide), cl_I (by omega)]
      simp only [true_and]
      obtain ⟨p0, p1, p2, p3, p4, p5, p6⟩ := hl.2.1 c hc r hr6
      obtain ⟨s0, s1, s2, s3⟩ := l2.2.1 c hc r hr6
      have hcd : cd R c r ≤ 1 := by have := hr.2.2.2 (6 * c + r) (by omega); rw [show 391 + (6 * c + r) = 391 + 6 * c + r by omega] at this; exact this
      rcases (show w = 0 ∨ w = 1 ∨ w = 2 ∨ w = 3 ∨ w = 4 ∨ w = 5 ∨ w = 6 by omega) with rfl | rfl | rfl | rfl | rfl | rfl | rfl
      · exact br_t rfl ⟨p0.trans s0.symm, h3.inv⟩
      · exact br_f (by decide) (br_t rfl ⟨p1.trans s1.symm, h3.inv⟩)
      · exact br_f (by decide) (br_f (by decide) (br_t rfl ⟨p2.trans s2.symm, h3.inv⟩))
      · exact br_f (by decide) (br_f (by decide) (br_f (by decide) (br_t rfl ⟨p3.trans s3.symm, h3.inv⟩)))
      · refine br_f (by decide) (br_f (by decide) (br_f (by decide) (br_f (by decide) (br_t rfl ?_))))
        rw [m_closed h3.e.2.2.1 hr (by omega) hr6]
        refine ⟨fun z => br_f (by decide) ⟨p4.trans ?_, h3.inv⟩, fun z => br_t rfl ⟨p4.trans ?_, h3.inv⟩⟩
        · rw [z]; rfl
        · rw [show cd R c r = 0 by omega]; rfl
      · refine br_f (by decide) (br_f (by decide) (br_f (by decide) (br_f (by decide) (br_f (by decide) (br_t rfl ?_)))))
        rw [show 11 + nI r = nI (11 + r) by rw [L11, nI_add], m_cup h3.e.2.2.2.2.1 (by omega) (by omega)]
        exact ⟨p5, h3.inv⟩
      · refine br_f (by decide) (br_f (by decide) (br_f (by decide) (br_f (by decide) (br_f (by decide) (br_f (by decide) (br_t rfl ?_))))))
        exact m_tiesOf h3.e.2.2.1 hr (by omega) (by omega) ⟨p6, h3.inv⟩
    · have h2 := h.qn (τ := υ) (by rw [e]; exact Qn.z)
      rw [m_isCup h2.e.2.2.2.2.2.2.2.2.1 (by omega), br_T q.1, br_F (by decide), m_isRound, br_T q.2, br_F (by decide)]
      refine m_all h2.2.2.1.m (fun ω f2 l2 => ?_)
      have h3 := h2.qn f2.q
      intro v ev
      have no : ∀ k, k < 7 → ¬ z = nI k := fun k hk e => q3 (by rw [e]; exact (vin_I (by omega)).mpr hk)
      exact br_f (no 0 (by decide)) (br_f (no 1 (by decide)) (br_f (no 2 (by decide)) (br_f (no 3 (by decide)) (br_f (no 4 (by decide)) (br_f (no 5 (by decide)) (br_f (no 6 (by decide)) ⟨rfl, h3.inv⟩))))))
  · rw [br_F q, br_T rfl]
    intro υ e
    have h2 := h.qn (τ := υ) (by rw [e]; exact Qn.z)
    rw [m_isCup h2.e.2.2.2.2.2.2.2.2.1 (by omega)]
    refine ⟨fun q1 => br_f (by decide) ?_, fun q1 => br_t rfl ⟨rfl, h2.inv⟩⟩
    rw [m_isRound, br_F (fun q2 => q ⟨q1, q2⟩), br_T rfl]
    exact ⟨rfl, h2.inv⟩
theorem op_cup : Op_cup Inv := by
  intro σ x z h
  obtain ⟨n, B, T, R, m, nx, U, kb, V, h⟩ := h
  have h : In σ n B T R m nx U kb V := h
  obtain ⟨hT, hr, hR, hs, hB, e3, e31, e5, e51, e7, t12, t4, r30⟩ := h.e
  unfold wp_X9_cup
  rw [c_isCup e31 (by omega), show (14 : Int32) = nI 14 from rfl, br2' (by decide)]
  by_cases q : vp_in x (T 1)
  · obtain ⟨c, hc, hc2, rfl⟩ := vin_of (by omega) q
    rw [br_T q, br_F (by decide)]
    refine ⟨fun q3 => ?_, fun q3 υ e => ?_⟩
    · have q3' := q3
      obtain ⟨w, hw, hw2, rfl⟩ := vin_of (by decide) q3
      have go : ∀ (τ : Sg) (v : Int32), In τ n B T R m nx U kb V → (∀ ω : Sg, In ω n B T R m nx U kb V → lyd ω T R → (w = 11 → v = nI (pOn T R c 6)) ∧ (w = 12 → v = nI (ac R (fCG R c) (R 0) 0)) ∧ (w = 13 → v = nI (nC R c (R 0))) ∧ (w < 11 → v = nI (tC T c w))) → wp_X10_cup (nI c) (nI w) τ (fun r' υ => v = r' ∧ Inv υ) := by
        intro τ v hτ hv υ e
        have h2 := hτ.qn (τ := υ) (by rw [e]; exact Qn.z)
        rw [m_isCup h2.e.2.2.2.2.2.2.2.2.1 (by omega), br_T q, br_F (by decide), wi (n := 14) (by decide), br_T q3', br_F (by decide)]
        refine m_all h2.2.2.1.m (fun ω f2 l2 => ?_)
        have h3 := h2.qn f2.q
        obtain ⟨v11, v12, v13, v0⟩ := hv ω h3 l2
        rw [vin_T (show c < 4 by omega) (by decide), cl_I (by omega), true_and, show (11 : Int32) = nI 11 from rfl, show (12 : Int32) = nI 12 from rfl, show (13 : Int32) = nI 13 from rfl, br_iff (nI_eq (by omega) (by decide)), br_iff (nI_eq (by omega) (by decide)), br_iff (nI_eq (by omega) (by decide))]
        refine ⟨fun z => ⟨(v11 z).trans (l2.2.2.1 c hc).symm, h3.inv⟩, fun z => ⟨fun z2 => m_gatesOf h3.e.2.2.1 hr (by omega) ⟨v12 z2, h3.inv⟩, fun z2 => ⟨fun z3 => m_tiesIn h3.e.2.2.1 hr (by omega) ⟨v13 z3, h3.inv⟩, fun z3 => ?_⟩⟩⟩
        rw [m_cup h3.e.2.2.2.2.1 (by omega) (by omega)]
        exact ⟨v0 (by omega), h3.inv⟩
      rw [show (11 : Int32) = nI 11 from rfl, br_iff (nI_leI (by decide) hw2)]
      refine ⟨fun q4 => c_rk h (fun τ f hτ hl => ?_), fun q4 => ?_⟩
      · rw [pk_sub q4, vin_T (show c < 4 by omega) (by decide), vin_T (show w - 11 < 3 by omega) (by decide), cl_I (by omega), cl_I (by omega), true_and, true_and]
        obtain ⟨p0, p1, p2⟩ := hl.2.2.1 c hc
        refine go τ _ hτ (fun ω _ _ => ⟨fun z => ?_, fun z => ?_, fun z => ?_, fun z => by omega⟩)
        · rw [z]; exact p0
        · rw [z]; exact p1
        · rw [z]; exact p2
      · rw [vin_T (show c < 4 by omega) (by decide), vin_T (show w < 11 by omega) (by decide), cl_I (by omega), cl_I (by omega), true_and, true_and]
        exact go σ _ h (fun ω _ _ => ⟨fun z => by omega, fun z => by omega, fun z => by omega, fun z => (h.2.2.1.2.2.1.2.2.2.2 c hc).1 w z⟩)
    · have h2 := h.qn (τ := υ) (by rw [e]; exact Qn.z)
      rw [m_isCup h2.e.2.2.2.2.2.2.2.2.1 (by omega), br_T q, br_F (by decide), wi (n := 14) (by decide), br_F q3, br_T rfl]
      exact ⟨rfl, h2.inv⟩
  · rw [br_F q, br_T rfl]
    intro υ e
    have h2 := h.qn (τ := υ) (by rw [e]; exact Qn.z)
    rw [m_isCup h2.e.2.2.2.2.2.2.2.2.1 (by omega), br_F q, br_T rfl]
    exact ⟨rfl, h2.inv⟩
theorem op_club : Op_club Inv := by
  intro σ x z h
  obtain ⟨n, B, T, R, m, nx, U, kb, V, h⟩ := h
  have h : In σ n B T R m nx U kb V := h
  obtain ⟨hT, hr, hR, hs, hB, e3, e31, e5, e51, e7, t12, t4, r30⟩ := h.e
  have thr : ¬ (vp_in x (T 0) ∧ vp_in z 12) → kClub Inv x z 1 σ := by
    intro q
    have fin : b_X10_club_26 x z (fun b υ => wp_X10_thrown υ (fun t ω => t = 1 ∧ ((1 : Int32) = 0 → (ω 259 0).toInt64 = b.toInt64) ∧ Inv ω)) 1 σ := by
      intro υ e
      have h2 := h.qn (τ := υ) (by rw [e]; exact Qn.m (by decide))
      have e1 : υ 233 0 = 1 := by rw [e, up_s]
      exact br_t e1 ⟨e1, fun w => absurd w (by decide), h2.inv⟩
    show wp_X10_club x z σ _
    unfold wp_X10_club b_X10_club_25
    rw [m_isClub e5 (by omega), wi (n := 12) (by decide)]
    refine ⟨fun q1 => br_f (by decide) ?_, fun q1 => br_t rfl fin⟩
    rw [br_F (fun q2 => q ⟨q1, q2⟩), br_T rfl]
    exact fin
  unfold wpx_club bx_club_18
  rw [c_isClub e3 (by omega), L12, br2' (by decide)]
  refine ⟨fun q => br_f (by decide) ⟨fun q3 => ?_, fun q3 => thr (fun y => q3 y.2)⟩, fun q => br_t rfl (thr (fun y => q y.1))⟩
  have q0 := q
  have q30 := q3
  obtain ⟨c, hc, hc2, rfl⟩ := vin_of (by omega) q
  obtain ⟨w, hw, hw2, rfl⟩ := vin_of (by decide) q3
  have go : ∀ (τ : Sg) (v : Int32), In τ n B T R m nx U kb V → ((w < 3 → v = nI (tB T c w)) ∧ (w = 3 → v = nI (aHas T R c)) ∧ (w = 4 → v = nI (aEx T R c)) ∧ (w = 5 → v = nI (aAh T R c)) ∧ (w = 6 → v = nI (aAg T R c)) ∧ (w = 7 → v = nI (aGot T R c)) ∧ (w = 8 → v = nI (aLa T R c)) ∧ (w = 9 → v = nI (aTop T R c)) ∧ (w = 10 → v = nI (aPl R c)) ∧ (w = 11 → v = nI (aWi R c (R 0)))) → kClub Inv (nI c) (nI w) 0 (up τ 259 0 v) := by
    intro τ v hτ hv
    have h1 := hτ.qn (τ := up τ 259 0 v) ⟨(Qk.rf τ).k (by omega), fun k a b => up_o (by omega)⟩
    show wp_X10_club (nI c) (nI w) (up τ 259 0 v) _
    unfold wp_X10_club
    rw [m_isClub h1.e.2.2.2.2.2.2.2.1 (by omega), wi (n := 12) (by decide), br_T q0, br_F (by decide), br_T q30, br_F (by decide)]
    intro υ e
    have h2 := h1.qn (τ := υ) (by rw [e]; exact Qn.m (by decide))
    have e1 : υ 233 0 = 0 := by rw [e, up_s]
    have e2 : υ 259 0 = v := by rw [e, up_o (by decide), up_s]
    refine br_f (by rw [e1]; decide) (m_all h2.2.2.1.m (fun ω f2 l2 => ?_))
    have h3 := h2.qn f2.q
    have w1 : ω 233 0 = 0 := by rw [f2.2 0 (by decide) (by omega)]; exact e1
    have w2 : ω 259 0 = v := by rw [f2.1 259 (by omega)]; exact e2
    have fin : ∀ b : Int32, v = b → wp_X10_thrown ω (fun t ω => t = 0 ∧ (True → (ω 259 0).toInt64 = b.toInt64) ∧ Inv ω) := fun b hb => ⟨w1, fun _ => by rw [w2, hb], h3.inv⟩
    obtain ⟨v0, v3, v4, v5, v6, v7, v8, v9, v10, v11⟩ := hv
    obtain ⟨l1, l8, l9, l5⟩ := l2.1 c hc
    have c12 : c < 12 := by omega
    rw [vin_T c12 (by decide), cl_I (by omega)]
    simp only [true_and]
    have n3 : ∀ k, k < 12 → (nI w = nI k ↔ w = k) := fun k hk => nI_eq (by omega) (by omega)
    by_cases q3' : w = 3
    · refine br_t ((n3 3 (by decide)).mpr q3') ?_
      rw [m_hasK c12 l1]; exact fin _ (v3 q3')
    refine br_f (fun y => q3' ((n3 3 (by decide)).mp y)) ?_
    by_cases q4 : w = 4
    · exact br_t ((n3 4 (by decide)).mpr q4) (fin _ ((v4 q4).trans l1.1.symm))
    refine br_f (fun y => q4 ((n3 4 (by decide)).mp y)) ?_
    by_cases q5 : w = 5
    · exact br_t ((n3 5 (by decide)).mpr q5) (fin _ ((v5 q5).trans l1.2.1.symm))
    refine br_f (fun y => q5 ((n3 5 (by decide)).mp y)) ?_
    by_cases q6 : w = 6
    · exact br_t ((n3 6 (by decide)).mpr q6) (fin _ ((v6 q6).trans l1.2.2.1.symm))
    refine br_f (fun y => q6 ((n3 6 (by decide)).mp y)) ?_
    by_cases q7 : w = 7
    · exact br_t ((n3 7 (by decide)).mpr q7) (fin _ ((v7 q7).trans l1.2.2.2.symm))
    refine br_f (fun y => q7 ((n3 7 (by decide)).mp y)) ?_
    by_cases q8 : w = 8
    · refine br_t ((n3 8 (by decide)).mpr q8) ?_
      rw [m_lacksK hT hr h3.e.2.2.2.2.1 c12 l1]; exact fin _ (v8 q8)
    refine br_f (fun y => q8 ((n3 8 (by decide)).mp y)) ?_
    by_cases q9 : w = 9
    · exact br_t ((n3 9 (by decide)).mpr q9) (fin _ ((v9 q9).trans l5.symm))
    refine br_f (fun y => q9 ((n3 9 (by decide)).mp y)) ?_
    by_cases q10 : w = 10
    · exact br_t ((n3 10 (by decide)).mpr q10) (fin _ ((v10 q10).trans l9.symm))
    refine br_f (fun y => q10 ((n3 10 (by decide)).mp y)) ?_
    by_cases q11 : w = 11
    · exact br_t ((n3 11 (by decide)).mpr q11) (m_wins h3.e.2.2.1 hr t12 (by omega) (fin _ (v11 q11)))
    refine br_f (fun y => q11 ((n3 11 (by decide)).mp y)) ?_
    rw [m_club h3.e.2.2.2.2.1 c12 (by omega)]
    exact fin _ (v0 (by omega))
  rw [L2, br_iff (nI_ltI (by decide) hw2)]
  refine ⟨fun q4 => c_rk h (fun τ f hτ hl => ?_), fun q4 => ?_⟩
  · rw [vin_T (show c < 12 by omega) (by decide), vin_T hw (by decide), cl_I (by omega), cl_I (by omega), true_and, true_and]
    obtain ⟨p3, p4, p5, p6, p7, p8, p9, p10, p11, -⟩ := hl.1 c hc
    refine go τ _ hτ ⟨fun y => by omega, fun y => by rw [y]; exact p3, fun y => by rw [y]; exact p4, fun y => by rw [y]; exact p5, fun y => by rw [y]; exact p6, fun y => by rw [y]; exact p7, fun y => by rw [y]; exact p8, fun y => by rw [y]; exact p9, fun y => by rw [y]; exact p10, fun y => by rw [y]; exact p11⟩
  · rw [vin_T (show c < 12 by omega) (by decide), vin_T (show w < 3 by omega) (by decide), cl_I (by omega), cl_I (by omega), true_and, true_and]
    refine go σ _ h ⟨fun y => h.2.2.1.2.2.1.2.2.2.1 c hc w y, fun y => by omega, fun y => by omega, fun y => by omega, fun y => by omega, fun y => by omega, fun y => by omega, fun y => by omega, fun y => by omega, fun y => by omega⟩
