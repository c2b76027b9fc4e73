/-! LEAST: the class's searches -/
section
variable {σ : Sg} {T R : Nat → Nat} {t w N : Nat} {K : Int32 → Sg → Prop}
theorem qF_le (h : core σ T R) (ht : t < R 0) (v : Nat) : qF T R t w v ≤ v := qHas_le (h.1.2.2.2.2 _ (h.2.1.2.2.1 t ht).1)
theorem c_lo_l (h : core σ T R) (ht : t < R 0) (hw : w ≤ 2) (hN : N < 2 ^ 31) (hD : qD T R t < 100000) {x4 : Int32} (hK : ∀ (r : Int32) (τ : Sg), Fr [179] σ τ → isL (qF T R t w) N 0 100000 r → K r τ) : ∀ k i lo hi τ, i + k = 32 → lo ≤ hi → hi ≤ qD T R t → hi - lo < 2 ^ k → (∀ u, u < lo → qF T R t w u < N) → N ≤ qF T R t w hi → Fr [179] σ τ → b_X9_leastWithoutRest_10 (nI t) (nI N) (nI w) x4 K (k + 1) (nI lo) (nI hi) (nI i) τ := by
  have h30 := h.2.1.1
  have h4 := (h.2.1.2.2.1 t ht).2.2.2.2.2.1
  have fin : ∀ lo τ, lo ≤ qD T R t → (∀ u, u < lo → qF T R t w u < N) → N ≤ qF T R t w lo → Fr [179] σ τ → K (nI lo) τ := fun lo τ a b c f => hK _ τ f (Or.inl ⟨lo, by omega, by omega, c, fun u _ q => b u q, rfl⟩)
  intro k
  induction k with
  | zero =>
    intro i lo hi τ hi1 h1 h2 h3 h5 h6 f
    have : lo = hi := by omega
    subst this
    refine br_t ?_ (fin lo τ h2 h5 h6 f)
    rw [L32]
    exact nI_le (by omega) (by omega)
  | succ k ih =>
    intro i lo hi τ hi1 h1 h2 h3 h5 h6 f
    have hp : 2 ^ (k + 1) = 2 * 2 ^ k := by rw [Nat.pow_succ]; omega
    refine br_f ?_ ?_
    · rw [L32]
      exact nI_ge (by omega) (by decide)
    · rw [br_iff (nI_leI (by omega) (by omega))]
      refine ⟨fun q => ?_, fun q => ?_⟩
      · have : lo = hi := by omega
        subst this
        exact fin lo τ h2 h5 h6 f
      · intro m em
        rw [nI_add, L2, pk_div (by omega) (by decide) (by decide)] at em
        have e60 : τ 60 t = nI (rT R t 4) := ((h.s f).2.2.2.2.2.2 t ht).2.2.2.2.1
        rw [em, vin_T (by omega) (by decide), true_and, cl_I (by omega), e60]
        refine c_hadG (h.s f) ht (by omega) (by omega) hw (fun υ g => ?_)
        have hq : qHas T R (rT R t 0) t (rT R t 4) ((lo + hi) / 2) w ≤ (lo + hi) / 2 := qF_le h ht _
        rw [br_iff (nI_ltI (by omega) hN)]
        refine ⟨fun q2 z ez z2 ez2 => ?_, fun q2 z ez => ?_⟩
        · rw [ez, ez2, nI_1, nI_1]
          refine ih (i + 1) ((lo + hi) / 2 + 1) hi υ (by omega) (by omega) h2 (by omega) (fun u hu => ?_) h6 (f.tr g)
          have hm := qF_lo (T := T) (R := R) (t := t) (w := w) (v := u) (k := (lo + hi) / 2 - u) (by omega)
          rw [show u + ((lo + hi) / 2 - u) = (lo + hi) / 2 by omega] at hm
          have : qF T R t w ((lo + hi) / 2) < N := q2
          omega
        · rw [ez, nI_1]
          exact ih (i + 1) lo ((lo + hi) / 2) υ (by omega) (by omega) (by omega) (by omega) h5 (by show N ≤ qHas T R (rT R t 0) t (rT R t 4) ((lo + hi) / 2) w; omega) (f.tr g)
/-- the hundred m above what is due -/
def hnd (f : Nat → Nat) (N D m : Nat) : Prop := ∃ v, D + 100 * m ≤ v ∧ (v < D + 100 * m + 100 ∧ v < 100000) ∧ N ≤ f v
theorem c_fh (h : core σ T R) (ht : t < R 0) (hw : w ≤ 2) (hN : N < 2 ^ 31) {a : Nat} (ha : a ≤ 100000) (hK : ∀ b, b ≤ a + 100 → b ≤ 100000 → (b = a + 100 ∨ b = 100000) → ∀ (r : Int32) (τ : Sg), Fr [179] σ τ → isL (qF T R t w) N a b r → K r τ) : wp_X9_firstInHundred (nI t) (nI N) (nI w) (nI a) σ K := by
  have key : ∀ b, b ≤ a + 100 → b ≤ 100000 → (b = a + 100 ∨ b = 100000) → ∃ nf, b_X9_firstInHundred_17 (nI t) (nI N) (nI w) (nI a) K nf (nI b) (nI a) σ := by
    intro b b1 b2 b3
    obtain ⟨d, hd⟩ : ∃ d, a + d = max a b := ⟨max a b - a, by omega⟩
    exact ⟨_, c_fi_l h ht hw hN (by omega) b2 (hK b b1 b2 b3) d a σ (Nat.le_refl _) hd (fun u q1 q2 => by omega) Fr.rf⟩
  unfold wp_X9_firstInHundred
  intro v ev
  rw [L100, nI_add, L100000] at ev
  by_cases q : 100000 < a + 100
  · rw [if_pos (nI_lt q (by omega))] at ev
    rw [ev]
    exact key 100000 (by omega) (Nat.le_refl _) (Or.inr rfl)
  · rw [if_neg (nI_nlt (by omega) (by decide))] at ev
    rw [ev]
    exact key (a + 100) (Nat.le_refl _) (by omega) (Or.inl rfl)
theorem c_hi_l (h : core σ T R) (ht : t < R 0) (hw : w ≤ 2) (hN : N < 2 ^ 31) {D H : Nat} (eD : D = qD T R t) (hD : D < 100000) (hH : H = (100000 - D) / 100) (hlo : ∀ u, u < D → qF T R t w u < N) (hK : ∀ (r : Int32) (τ : Sg), Fr [179] σ τ → isL (qF T R t w) N 0 100000 r → K r τ) : ∀ k i lo hi τ, i + k = 32 → lo ≤ hi → hi ≤ H → hi - lo < 2 ^ k → (∀ m, m < lo → ¬ hnd (qF T R t w) N D m) → (hi < H → hnd (qF T R t w) N D hi) → Fr [179] σ τ → b_X9_leastWithRest_17 (nI t) (nI N) (nI w) (nI D) K (k + 1) (nI lo) (nI hi) (nI i) τ := by
  have hcu := h.1.2.2.2.2 _ (h.2.1.2.2.1 t ht).1
  have up1 : ∀ m, m + 1 < H → hnd (qF T R t w) N D m → hnd (qF T R t w) N D (m + 1) := by
    intro m hm ⟨v, v1, v2, v3⟩
    have := qF_hi (T := T) (R := R) (t := t) (w := w) (v := v) hcu (by omega)
    exact ⟨v + 100, by omega, ⟨by omega, by omega⟩, by omega⟩
  have upk : ∀ k m, m + k < H → hnd (qF T R t w) N D m → hnd (qF T R t w) N D (m + k) := by
    intro k
    induction k with
    | zero => intro m _ q; exact q
    | succ k ih => intro m hm q; exact up1 (m + k) (by omega) (ih m (by omega) q)
  have fin : ∀ lo τ, lo ≤ H → (∀ m, m < lo → ¬ hnd (qF T R t w) N D m) → (lo < H → hnd (qF T R t w) N D lo) → Fr [179] σ τ → b_X9_leastWithRest_79 (nI t) (nI N) (nI w) (nI D) K (nI lo) τ := by
    intro lo τ a1 a2 a3 f
    unfold b_X9_leastWithRest_79
    rw [L100, pk_mul, nI_add]
    refine c_fh (h.s f) ht hw hN (by omega) (fun b bb1 bb2 bb3 r υ g hl => hK r υ (f.tr g) ?_)
    have below : ∀ u, u < D + lo * 100 → qF T R t w u < N := by
      intro u hu
      by_cases q : u < D
      · exact hlo u q
      · have := a2 ((u - D) / 100) (by omega)
        apply Classical.byContradiction
        intro z
        exact this ⟨u, by omega, ⟨by omega, by omega⟩, by omega⟩
    rcases hl with ⟨v, b1, b2, b3, b4, b5⟩ | ⟨b1, b2⟩
    · refine Or.inl ⟨v, by omega, by omega, b3, fun u _ hu => ?_, b5⟩
      by_cases q : u < D + lo * 100
      · exact below u q
      · exact b4 u (by omega) hu
    · refine Or.inr ⟨fun u _ hu => ?_, b2⟩
      by_cases q : u < D + lo * 100
      · exact below u q
      · refine b1 u (by omega) ?_
        by_cases e : lo < H
        · obtain ⟨v, v1, v2, v3⟩ := a3 e
          have := b1 v (by omega) (by omega)
          omega
        · omega
  intro k
  induction k with
  | zero =>
    intro i lo hi τ hi1 h1 h2 h3 h5 h6 f
    have : lo = hi := by omega
    subst this
    refine br_t ?_ (fin lo τ h2 h5 h6 f)
    rw [L32]
    exact nI_le (by omega) (by omega)
  | succ k ih =>
    intro i lo hi τ hi1 h1 h2 h3 h5 h6 f
    have hp : 2 ^ (k + 1) = 2 * 2 ^ k := by rw [Nat.pow_succ]; omega
    refine br_f ?_ ?_
    · rw [L32]
      exact nI_ge (by omega) (by decide)
    · rw [br_iff (nI_leI (by omega) (by omega))]
      refine ⟨fun q => ?_, fun q => ?_⟩
      · have : lo = hi := by omega
        subst this
        exact fin lo τ h2 h5 h6 f
      · intro m em
        rw [nI_add, L2, pk_div (by omega) (by decide) (by decide)] at em
        rw [em, L100, pk_mul, nI_add]
        refine c_fh (h.s f) ht hw hN (by omega) (fun b bb1 bb2 bb3 r υ g hl => ?_)
        rcases hl with ⟨v, b1, b2, b3, b4, b5⟩ | ⟨b1, b2⟩
        · have hne : ¬ r = -2 := fun e => by
            rw [b5] at e
            have := congrArg Int32.toInt e
            rw [nI_toInt (by omega)] at this
            have h1 : (-2 : Int32).toInt = -2 := rfl
            rw [h1] at this
            omega
          rw [br_F hne]
          intro z ez
          rw [ez, nI_1]
          exact ih (i + 1) lo ((lo + hi) / 2) υ (by omega) (by omega) (by omega) (by omega) h5 (fun _ => ⟨v, by omega, ⟨by omega, by omega⟩, b3⟩) (f.tr g)
        · rw [br_T b2]
          intro z ez z2 ez2
          rw [ez, ez2, nI_1, nI_1]
          have hno : ¬ hnd (qF T R t w) N D ((lo + hi) / 2) := by
            rintro ⟨v, v1, v2, v3⟩
            have := b1 v (by omega) (by omega)
            omega
          refine ih (i + 1) ((lo + hi) / 2 + 1) hi υ (by omega) (by omega) h2 (by omega) (fun u hu => ?_) h6 (f.tr g)
          intro z
          have := upk ((lo + hi) / 2 - u) u (by omega) z
          rw [show u + ((lo + hi) / 2 - u) = (lo + hi) / 2 by omega] at this
          exact hno this
end
theorem op_least : Op_least Inv := by
  intro σ x y z h
  obtain ⟨n, B, T, R, m, nx, U, kb, V, h⟩ := h
  have h : In σ n B T R m nx U kb V := h
  have hco := h.2.2.1
  obtain ⟨hT, hr, hR, hs, hB, e3, e31, e5, e51, e7, t12, t4, r30⟩ := h.e
  have es : σ 55 0 = nI (R 0) := hs.1
  have m0 : ∀ τ, τ = up σ 233 0 0 → τ 236 0 = nI (R 0) := fun τ e => by
    have := h.qn (τ := τ) (by rw [e]; exact Qn.z)
    exact this.e.2.2.2.2.2.2.2.2.2.1
  unfold wp_X9_least
  rw [c_isTie es (by omega), show (2 : Int32) = nI 2 from rfl, br2L (by decide)]
  by_cases q : vp_in x (R 0)
  · rw [br_T q, br_F (by decide)]
    by_cases q2 : y < 0
    · rw [br_T q2]
      intro τ e
      have a1 := m0 τ e
      rw [m_isTie a1 (by omega), br_T q, br_F (by decide), br_T q2]
      exact ⟨rfl, (h.qn (by rw [e]; exact Qn.z)).inv⟩
    · rw [br_F q2]
      by_cases q3 : vp_in z (2 + 1)
      · rw [br_T q3]
        obtain ⟨t, ht, ht2, rfl⟩ := vin_of (by omega) q
        obtain ⟨N, hN, rfl⟩ := nI_of q2
        obtain ⟨w, hw, hw2, rfl⟩ := vin_of (by decide) q3
        have h4 := (hr.2.2.1 t ht).2.2.2.2.2.1
        have hc := (hr.2.2.1 t ht).1
        have hu := gHU hT hr ht (rT R t 4)
        have e56 : σ 56 t = nI (rT R t 0) := (hs.2.2 t ht).1
        have e60 : σ 60 t = nI (rT R t 4) := (hs.2.2 t ht).2.2.2.2.1
        have hdh := hT.2.2.2.1 _ hu.1
        have hdg := hT.2.2.2.1 _ hu.2
        have hD : qD T R t ≤ 19998 := by
          unfold qD sD sDh
          split <;> omega
        simp (disch := omega) only [vin_T, cl_I, true_and, e56, e60]
        refine c_sg (v := 0) hco hc ht (by omega) (by omega) (fun τ f s => ?_)
        obtain ⟨s0', s1', -⟩ := s
        have e60' : τ 60 t = nI (rT R t 4) := ((hco.s f).2.2.2.2.2.2 t ht).2.2.2.2.1
        intro d ed
        rw [s0', s1', nI_add] at ed
        have ed : d = nI (qD T R t) := ed
        rw [ed, e60']
        refine c_hadG (hco.s f) ht (by omega) (by omega) (by omega) (fun τ' f' => ?_)
        have hq : qHas T R (rT R t 0) t (rT R t 4) (qD T R t) w ≤ qD T R t := qF_le hco ht _
        have key : ∀ (r : Int32) (υ : Sg), Fr [179] τ' υ → isL (qF T R t w) N 0 100000 r → wp_X10_least (nI t) (nI N) (nI w) υ (fun r' υ' => r = r' ∧ Inv υ') := by
          intro r υ f'' hl τ2 e
          have u : Qn σ τ2 := (((Qn.s f).tr (Qn.s f')).tr (Qn.s f'')).tr (by rw [e]; exact Qn.z)
          have h2 := h.qn u
          have hR2 := h2.e.2.2.1
          rw [m_isTie (hR2 0 (by omega)) (by omega), br_T q, br_F (by decide), br_F q2, wi (n := 3) (by decide), br_T q3, br_F (by decide)]
          exact ⟨_, m_le_l h2.2.2.1 ht (by omega) hN (fun r' ω g hl' => ⟨isL_un hl hl', (h2.qn (Qn.g g)).inv⟩) 100000 0 τ2 (by omega) (fun u hu' => by omega) (Mg.rf _)⟩
        rw [br_iff (nI_ltI (by omega) hN)]
        refine ⟨fun q4 => ?_, fun q4 => ?_⟩
        · unfold wp_X9_leastWithRest
          intro v ev
          rw [L100000, pk_sub (by omega), L100, pk_div (by omega) (by decide) (by decide)] at ev
          rw [ev]
          refine ⟨_, c_hi_l ((hco.s f).s f') ht (by omega) hN rfl (by omega) rfl (fun u hu' => ?_) key 32 0 0 _ τ' (by omega) (by omega) (Nat.le_refl _) (by omega) (fun m hm => by omega) (fun z => by omega) Fr.rf⟩
          have hm := qF_lo (T := T) (R := R) (t := t) (w := w) (v := u) (k := qD T R t - u) (by omega)
          rw [show u + (qD T R t - u) = qD T R t by omega] at hm
          have : qF T R t w (qD T R t) < N := q4
          omega
        · exact ⟨_, c_lo_l ((hco.s f).s f') ht (by omega) hN (by omega) key 32 0 0 (qD T R t) τ' (by omega) (by omega) (Nat.le_refl _) (by omega) (fun u hu' => by omega) (by show N ≤ qHas T R (rT R t 0) t (rT R t 4) (qD T R t) w; omega) Fr.rf⟩
      · rw [br_F q3]
        intro τ e
        have a1 := m0 τ e
        rw [m_isTie a1 (by omega), br_T q, br_F (by decide), br_F q2, wi (n := 3) (by decide), br_F q3, br_T rfl]
        exact ⟨rfl, (h.qn (by rw [e]; exact Qn.z)).inv⟩
  · rw [br_F q, br_T rfl]
    intro τ e
    have a1 := m0 τ e
    rw [m_isTie a1 (by omega), br_F q, br_T rfl]
    exact ⟨rfl, (h.qn (by rw [e]; exact Qn.z)).inv⟩
