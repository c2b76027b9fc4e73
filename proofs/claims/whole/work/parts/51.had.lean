/-! WHAT A GAME, A TIE HAD: brings, byCup, game, tieOf, fairest, tempt -/
def Qn (σ τ : Sg) : Prop := Qk σ τ ∧ ∀ k, 180 ≤ k → k ≤ 226 → τ k = σ k
theorem Qn.rf (σ : Sg) : Qn σ σ := ⟨Qk.rf σ, fun _ _ _ => rfl⟩
theorem Qn.tr {σ τ υ : Sg} (h : Qn σ τ) (g : Qn τ υ) : Qn σ υ := ⟨h.1.tr g.1, fun k a b => (g.2 k a b).trans (h.2 k a b)⟩
theorem Qn.s {σ τ : Sg} (h : Fr [179] σ τ) : Qn σ τ := ⟨Qk.fr h (fun k hk => by rw [List.mem_singleton.mp hk]; omega), fun k a b => h k (by simp; omega)⟩
theorem Qn.g {σ τ : Sg} (h : Mg σ τ) : Qn σ τ := ⟨h.q, fun k a b => h.1 k (by simp; omega)⟩
theorem Qn.m {σ : Sg} {j : Nat} {v : Int32} (hj : j ≠ 5 ∧ j ≠ 9 ∧ j ≠ 11 ∧ j ≠ 12) : Qn σ (up σ 233 j v) := ⟨(Qk.rf σ).m hj, fun k a b => up_o (by omega)⟩
theorem Qn.z {σ : Sg} : Qn σ (up σ 233 0 0) := Qn.m (by decide)
theorem In.qn {σ τ : Sg} {n : Nat} {B T R : Nat → Nat} {m nx : Nat} {U : Nat → Nat → Nat} {kb : Nat → Nat} {V : Nat → Nat → Nat} (h : In σ n B T R m nx U kb V) (g : Qn σ τ) : In τ n B T R m nx U kb V := h.qq g.1 g.2
theorem core.q {σ τ : Sg} {T R : Nat → Nat} (h : core σ T R) (g : Qk σ τ) : core τ T R := core_congr h (g.2.1 234 (by omega) (by omega) (by omega)) (g.2.1 236 (by omega) (by omega) (by omega)) (fun k _ k2 _ => g.1 k (by omega))
theorem core.s {σ τ : Sg} {T R : Nat → Nat} (h : core σ T R) (g : Fr [179] σ τ) : core τ T R := h.q (Qn.s g).1
theorem core.g {σ τ : Sg} {T R : Nat → Nat} (h : core σ T R) (g : Mg σ τ) : core τ T R := h.q g.q
section
variable {σ : Sg} {T R : Nat → Nat} {c t g v w : Nat}
theorem gHU (hT : toldOk T) (hr : rowOk T R) (ht : t < R 0) (g : Nat) : gH R t g < T 0 ∧ gU R t g < T 0 := by
  obtain ⟨k1, k2, k3, k4, -⟩ := hr.2.2.1 t ht
  unfold gH gU
  rcases Nat.mod_two_eq_zero_or_one g with e | e
  · rw [e]; exact ⟨k3, k4⟩
  · rw [e]; exact ⟨k4, k3⟩
/-- the split as the class holds it -/
def Spl (τ : Sg) (T R : Nat → Nat) (c t g v : Nat) : Prop := τ 179 0 = nI (sDh T c (rT R t 1) (gH R t g)) ∧ τ 179 1 = nI (tB T (gU R t g) 1) ∧ τ 179 2 = nI (qEh T R c t g v) ∧ τ 179 3 = nI (qEg T R c t g v) ∧ τ 179 4 = nI (qRe T R c t g v) ∧ τ 179 5 = nI (qSh T R c t g v) ∧ τ 179 6 = nI (qSg T R c t g v) ∧ τ 179 7 = nI (qSp T R c t g v) ∧ τ 179 8 = nI (qLk T R c t g v)
theorem c_sg {K : Sg → Prop} (h : core σ T R) (hc : c < T 1) (ht : t < R 0) (hg : g < 2 ^ 31) (hv : v < 100000) (hK : ∀ τ : Sg, Fr [179] σ τ → Spl τ T R c t g v → K τ) : wp_X9_splitGame (nI t) (nI c) (nI g) (nI v) σ K := by
  obtain ⟨hT, hr, hb, hR, hs⟩ := h
  have h30 := hr.1
  have hu := gHU hT hr ht g
  have e2 : σ 57 t = nI (rT R t 1) := (hs.2.2 t ht).2.1
  have hr6 := (hr.2.2.1 t ht).2.1
  unfold wp_X9_splitGame
  rw [vin_T (by omega) (by decide), cl_I (by omega), true_and, c_host hs hr ht hg, c_guest hs hr ht hg, e2]
  exact c_reck hT hb hc hr6 hu.1 hu.2 hg hv (fun τ f a0 a1 a2 a3 a4 a5 a6 a7 a8 => hK τ f ⟨a0, a1, a2, a3, a4, a5, a6, a7, a8⟩)
theorem c_part {K : Int32 → Sg → Prop} (h : Spl σ T R c t g v) (hg : g < 2 ^ 31) (hw : w ≤ 2) : wp_X8_partOf (nI w) (nI g) σ K = K (nI (qHas T R c t g v w)) σ := by
  obtain ⟨a0, a1, a2, a3, a4, a5, a6, a7, a8⟩ := h
  unfold wp_X8_partOf b_X8_partOf_21 b_X8_partOf_30 b_X8_partOf_38 qHas
  simp (disch := omega) only [L0, L1, L2, L3, L4, L5, L6, L7, L8, L9, L10, L11, L12, L13, L17, L24, L30, L31, L32, L38, L67, L100, L120, L335, L391, L415, L500, L600, L830, L4096, L4564, L4980, L8192, L9999, L99999, L100000, rem2, nI_eq, a2, a3, a5, a6, a7, nI_add]
  by_cases q : w = 2
  · rw [br_T q, if_pos q]
  · rw [br_F q, if_neg q]
    rcases Nat.mod_two_eq_zero_or_one g with e | e
    · rw [e]
      by_cases z : w = 0
      · rw [z]; simp (decide := true) only [br_True, br_False, if_true]
      · rw [show w = 1 by omega]; simp (decide := true) only [br_True, br_False, if_false]
    · rw [e]
      by_cases z : w = 0
      · rw [z]; simp (decide := true) only [br_True, br_False, if_false]
      · rw [show w = 1 by omega]; simp (decide := true) only [br_True, br_False, if_true]
theorem c_hadG {K : Int32 → Sg → Prop} (h : core σ T R) (ht : t < R 0) (hg : g < 2 ^ 31) (hv : v < 100000) (hw : w ≤ 2) (hK : ∀ τ : Sg, Fr [179] σ τ → K (nI (qHas T R (rT R t 0) t g v w)) τ) : wp_X9_hadOfGame (nI t) (nI g) (nI v) (nI w) σ K := by
  have h30 := h.2.1.1
  have e1 : σ 56 t = nI (rT R t 0) := (h.2.2.2.2.2.2 t ht).1
  have hc := (h.2.1.2.2.1 t ht).1
  unfold wp_X9_hadOfGame
  rw [vin_T (by omega) (by decide), cl_I (by omega), true_and, e1]
  refine c_sg h hc ht hg hv (fun τ f s => ?_)
  rw [c_part s hg hw]
  exact hK τ f
theorem c_hadT_l {K : Int32 → Sg → Prop} (h : core σ T R) (hc : c < T 1) (ht : t < R 0) (hw : w ≤ 2) (hK : ∀ τ : Sg, Fr [179] σ τ → K (nI (qHad T R c t w (rT R t 4))) τ) : ∀ d g τ, g + d = rT R t 4 → Fr [179] σ τ → b_X9_hadOfTie_6 (nI t) (nI c) (nI w) K (d + 1) (nI (qHad T R c t w g)) (nI g) τ := by
  have h30 := h.2.1.1
  have h4 := (h.2.1.2.2.1 t ht).2.2.2.2.2.1
  intro d
  induction d with
  | zero =>
    intro g τ hg f
    have hs := (h.s f).2.2.2.2
    have e5 : τ 60 t = nI (rT R t 4) := (hs.2.2 t ht).2.2.2.2.1
    refine ⟨by rw [vin_T (by omega) (by decide)]; trivial, br_t ?_ ?_⟩
    · rw [cl_I (by omega), e5]
      exact nI_le (by omega) (by omega)
    · rw [show g = rT R t 4 by omega]
      exact hK τ f
  | succ d ih =>
    intro g τ hg f
    have hs := (h.s f).2.2.2.2
    have e5 : τ 60 t = nI (rT R t 4) := (hs.2.2 t ht).2.2.2.2.1
    have e6 : τ 61 (4 * t + g) = nI (ga R t g) := ((hs.2.2 t ht).2.2.2.2.2 g (by omega)).1
    refine ⟨by rw [vin_T (by omega) (by decide)]; trivial, br_f ?_ ?_⟩
    · rw [cl_I (by omega), e5]
      exact nI_ge (by omega) (by omega)
    · rw [show nI t * 4 + nI g = nI (4 * t + g) by rw [L4, pk_mul, nI_add, Nat.mul_comm], vin_T (by omega) (by decide), cl_I (by omega), true_and, e6]
      refine c_sg (h.s f) hc ht (by omega) (h.2.1.2.1 _) (fun υ f2 s => ?_)
      rw [c_part s (by omega) hw]
      intro y ey z ez
      rw [ey, ez, nI_1, nI_add]
      exact ih (g + 1) υ (by omega) (f.tr f2)
theorem c_hadT {K : Int32 → Sg → Prop} (h : core σ T R) (hc : c < T 1) (ht : t < R 0) (hw : w ≤ 2) (hK : ∀ τ : Sg, Fr [179] σ τ → K (nI (qHad T R c t w (rT R t 4))) τ) : wp_X9_hadOfTie (nI t) (nI c) (nI w) σ K := ⟨_, c_hadT_l h hc ht hw hK (rT R t 4) 0 σ (by omega) Fr.rf⟩
/-- the split as the reference holds it -/
def Lay (τ : Sg) (T R : Nat → Nat) (c t g v : Nat) : Prop := τ 233 18 = nI (gH R t g) ∧ τ 233 19 = nI (gU R t g) ∧ τ 233 20 = nI v ∧ τ 233 21 = nI (qEh T R c t g v) ∧ τ 233 22 = nI (qEg T R c t g v) ∧ τ 233 23 = nI (qRe T R c t g v) ∧ τ 233 24 = nI (qSh T R c t g v) ∧ τ 233 25 = nI (qSg T R c t g v) ∧ τ 233 26 = nI (qSp T R c t g v) ∧ τ 233 27 = nI (qLk T R c t g v)
theorem m_lay {K : Sg → Prop} (h : core σ T R) (hc : c < T 1) (ht : t < R 0) (hg : g < 2 ^ 31) (hv : v < 100000) (hK : ∀ τ : Sg, Mg σ τ → Lay τ T R c t g v → K τ) : wp_X10_layGame (nI t) (nI g) (nI v) (nI c) σ K :=
  m_game h.1 h.2.2.1.1 h.2.1 h.2.2.2.1 hc ht hg hv (fun τ f a0 a1 a2 a3 a4 a5 a6 a7 a8 a9 => hK τ f ⟨a0, a1, a2, a3, a4, a5, a6, a7, a8, a9⟩)
theorem m_hasOf {K : Int32 → Sg → Prop} (h : Lay σ T R c t g v) (hg : g < 2 ^ 31) (hw : w ≤ 2) : wp_X10_hasOf (nI g) (nI w) σ K = K (nI (qHas T R c t g v w)) σ := by
  obtain ⟨a0, a1, a2, a3, a4, a5, a6, a7, a8, a9⟩ := h
  have hm2 := Nat.mod_lt g (show 2 > 0 by decide)
  unfold wp_X10_hasOf qHas
  simp (disch := omega) only [L0, L1, L2, L3, L4, L5, L6, L7, L8, L9, L10, L11, L12, L13, L17, L24, L30, L31, L32, L38, L67, L100, L120, L335, L391, L415, L500, L600, L830, L4096, L4564, L4980, L8192, L9999, L99999, L100000, rem2, nI_eq, a3, a4, a6, a7, a8, nI_add]
  by_cases q : w = 2
  · rw [br_T q, if_pos q]
  · rw [br_F q, if_neg q]
    by_cases z : w = g % 2
    · rw [br_T z, if_pos z]
    · rw [br_F z, if_neg z]
theorem m_next {K : Int32 → Sg → Prop} (h : core σ T R) (ht : t < R 0) (hv : v < 100000) (hw : w ≤ 2) (hK : ∀ τ : Sg, Mg σ τ → K (nI (qHas T R (rT R t 0) t (rT R t 4) v w)) τ) : wp_X10_bringsNext (nI t) (nI v) (nI w) σ K := by
  have h30 := h.2.1.1
  have hc := (h.2.1.2.2.1 t ht).1
  have h4 := (h.2.1.2.2.1 t ht).2.2.2.2.2.1
  have hR := h.2.2.2.1
  unfold wp_X10_bringsNext
  rw [m_games hR (by omega), L0, m_tie hR (by omega)]
  refine m_lay h hc ht (by omega) hv (fun τ f s => ?_)
  rw [m_games (f.r hR) (by omega), m_hasOf s (by omega) hw]
  exact hK τ f
theorem m_hadT_l {K : Int32 → Sg → Prop} (h : core σ T R) (hc : c < T 1) (ht : t < R 0) (hw : w ≤ 2) (hK : ∀ τ : Sg, Mg σ τ → K (nI (qHad T R c t w (rT R t 4))) τ) : ∀ d g τ, g + d = rT R t 4 → Mg σ τ → b_X10_hadBy_6 (nI t) (nI c) (nI w) K (d + 1) (nI (qHad T R c t w g)) (nI g) τ := by
  have h30 := h.2.1.1
  have h4 := (h.2.1.2.2.1 t ht).2.2.2.2.2.1
  have hR := h.2.2.2.1
  intro d
  induction d with
  | zero =>
    intro g τ hg f
    show wp_X10_games _ _ _
    rw [m_games (f.r hR) (by omega)]
    refine br_t (nI_le (by omega) (by omega)) ?_
    rw [show g = rT R t 4 by omega]
    exact hK τ f
  | succ d ih =>
    intro g τ hg f
    show wp_X10_games _ _ _
    rw [m_games (f.r hR) (by omega)]
    refine br_f (nI_ge (by omega) (by omega)) ?_
    rw [m_gate (f.r hR) (by omega) (by omega)]
    refine m_lay (h.g f) hc ht (by omega) (h.2.1.2.1 _) (fun υ f2 s => ?_)
    rw [m_hasOf s (by omega) hw]
    intro y ey z ez
    rw [ey, ez, nI_1, nI_add]
    exact ih (g + 1) υ (by omega) (f.tr f2)
theorem m_hadT {K : Int32 → Sg → Prop} (h : core σ T R) (hc : c < T 1) (ht : t < R 0) (hw : w ≤ 2) (hK : ∀ τ : Sg, Mg σ τ → K (nI (qHad T R c t w (rT R t 4))) τ) : wp_X10_hadBy (nI t) (nI c) (nI w) σ K := ⟨_, m_hadT_l h hc ht hw hK (rT R t 4) 0 σ (by omega) (Mg.rf σ)⟩
theorem c_gates_l {K : Int32 → Sg → Prop} {s : Nat} (hs : sea σ s R) (hr : rowOk T R) (ht : t < R 0) (hK : K (nI (su (ga R t) (rT R t 4))) σ) : ∀ d g, g + d = rT R t 4 → b_X6_gatesOf_4 s (nI t) K (d + 1) (nI (su (ga R t) g)) (nI g) σ := by
  have h30 := hr.1
  have h4 := (hr.2.2.1 t ht).2.2.2.2.2.1
  have e5 := (hs.2.2 t ht).2.2.2.2.1
  intro d
  induction d with
  | zero =>
    intro g hg
    refine ⟨by rw [vin_T (by omega) (by decide)]; trivial, br_t ?_ ?_⟩
    · rw [cl_I (by omega), e5]
      exact nI_le (by omega) (by omega)
    · rw [show g = rT R t 4 by omega]
      exact hK
  | succ d ih =>
    intro g hg
    have e6 := ((hs.2.2 t ht).2.2.2.2.2 g (by omega)).1
    refine ⟨by rw [vin_T (by omega) (by decide)]; trivial, br_f ?_ ?_⟩
    · rw [cl_I (by omega), e5]
      exact nI_ge (by omega) (by omega)
    · rw [show nI t * 4 + nI g = nI (4 * t + g) by rw [L4, pk_mul, nI_add, Nat.mul_comm], vin_T (by omega) (by decide), cl_I (by omega), true_and, e6]
      intro y ey z ez
      rw [ey, ez, nI_1, nI_add]
      exact ih (g + 1) (by omega)
theorem m_gates_l {K : Int32 → Sg → Prop} {a : Int32} (hR : rowR (σ 236) R) (hr : rowOk T R) (ht : t < R 0) (hK : K (nI (su (ga R t) (rT R t 4))) σ) : ∀ d g, g + d = rT R t 4 → b_X10_tieOf_90 (nI t) a K (d + 1) (nI (su (ga R t) g)) (nI g) σ := by
  have h30 := hr.1
  have h4 := (hr.2.2.1 t ht).2.2.2.2.2.1
  intro d
  induction d with
  | zero =>
    intro g hg
    show wp_X10_games _ _ _
    rw [m_games hR (by omega)]
    refine br_t (nI_le (by omega) (by omega)) ?_
    rw [show g = rT R t 4 by omega]
    exact hK
  | succ d ih =>
    intro g hg
    show wp_X10_games _ _ _
    rw [m_games hR (by omega)]
    refine br_f (nI_ge (by omega) (by omega)) ?_
    rw [m_gate hR (by omega) (by omega)]
    intro y ey z ez
    rw [ey, ez, nI_1, nI_add]
    exact ih (g + 1) (by omega)
end
theorem op_byCup : Op_byCup Inv := by
  intro σ x y z h
  obtain ⟨n, B, T, R, m, nx, U, kb, V, h⟩ := h
  have h : In σ n B T R m nx U kb V := h
  have hco := h.2.2.1
  obtain ⟨hT, hr, hR, hs, hB, e3, e31, e5, e51, e7, t12, t4, r30⟩ := h.e
  have es : σ 55 0 = nI (R 0) := hs.1
  unfold wp_X9_byCup
  rw [c_isTie es (by omega), c_isCup e31 (by omega), L2, br2L (by decide)]
  have m0 : ∀ τ, τ = up σ 233 0 0 → τ 236 0 = nI (R 0) ∧ τ 234 1 = nI (T 1) ∧ core τ T R := fun τ e => by
    have := h.qn (τ := τ) (by rw [e]; exact Qn.z)
    exact ⟨this.e.2.2.2.2.2.2.2.2.2.1, this.e.2.2.2.2.2.2.2.2.1, this.2.2.1⟩
  by_cases q : vp_in x (R 0)
  · rw [br_T q, br_F (by decide)]
    by_cases q2 : vp_in y (T 1)
    · rw [br_T q2, br_F (by decide)]
      by_cases q3 : vp_in z (2 + 1)
      · rw [br_T q3]
        obtain ⟨t, ht, ht2, rfl⟩ := vin_of (by omega) q
        obtain ⟨c, hc, hc2, rfl⟩ := vin_of (by omega) q2
        obtain ⟨w, hw, hw2, rfl⟩ := vin_of (by decide) q3
        refine c_hadT hco hc ht (by omega) (fun τ f τ2 e => ?_)
        have f2 : Qn σ τ2 := (Qn.s f).tr (by rw [e]; exact Qn.z)
        have h2 := h.qn f2
        rw [m_isTie h2.e.2.2.2.2.2.2.2.2.2.1 (by omega), br_T q, br_F (by decide), m_isCup h2.e.2.2.2.2.2.2.2.2.1 (by omega), br_T q2, br_F (by decide), wi (n := 3) (by decide), br_T q3, br_F (by decide)]
        exact m_hadT h2.2.2.1 hc ht (by omega) (fun υ g => ⟨rfl, (h2.qn (Qn.g g)).inv⟩)
      · rw [br_F q3]
        intro τ e
        obtain ⟨a1, a2, a3⟩ := m0 τ e
        rw [m_isTie a1 (by omega), br_T q, br_F (by decide), m_isCup a2 (by omega), br_T q2, br_F (by decide), wi (n := 3) (by decide), br_F q3, br_T rfl]
        exact ⟨rfl, (h.qn (by rw [e]; exact Qn.z)).inv⟩
    · rw [br_F q2, br_T rfl]
      intro τ e
      obtain ⟨a1, a2, a3⟩ := m0 τ e
      rw [m_isTie a1 (by omega), br_T q, br_F (by decide), m_isCup a2 (by omega), br_F q2, br_T rfl]
      exact ⟨rfl, (h.qn (by rw [e]; exact Qn.z)).inv⟩
  · rw [br_F q, br_T rfl]
    intro τ e
    obtain ⟨a1, a2, a3⟩ := m0 τ e
    rw [m_isTie a1 (by omega), br_F q, br_T rfl]
    exact ⟨rfl, (h.qn (by rw [e]; exact Qn.z)).inv⟩
theorem op_brings : Op_brings Inv := by
  intro σ x y z h
  obtain ⟨n, B, T, R, m, nx, U, kb, V, h⟩ := h
  have h : In σ n B T R m nx U kb V := h
  have hco := h.2.2.1
  obtain ⟨hT, hr, hR, hs, hB, e3, e31, e5, e51, e7, t12, t4, r30⟩ := h.e
  have es : σ 55 0 = nI (R 0) := hs.1
  unfold wp_X9_brings
  rw [c_isTie es (by omega), c_isGate, L2, br2L (by decide)]
  have m0 : ∀ τ, τ = up σ 233 0 0 → τ 236 0 = nI (R 0) := fun τ e => by
    have := h.qn (τ := τ) (by rw [e]; exact Qn.z)
    exact this.e.2.2.2.2.2.2.2.2.2.1
  by_cases q : vp_in x (R 0)
  · rw [br_T q, br_F (by decide)]
    by_cases q2 : vp_in y 100000
    · rw [br_T q2, br_F (by decide)]
      by_cases q3 : vp_in z (2 + 1)
      · rw [br_T q3]
        obtain ⟨t, ht, ht2, rfl⟩ := vin_of (by omega) q
        obtain ⟨v, hv, hv2, rfl⟩ := vin_of (by decide) q2
        obtain ⟨w, hw, hw2, rfl⟩ := vin_of (by decide) q3
        have h4 := (hr.2.2.1 t ht).2.2.2.2.2.1
        have e60 : σ 60 t = nI (rT R t 4) := (hs.2.2 t ht).2.2.2.2.1
        rw [vin_T (by omega) (by decide), cl_I ht2, true_and, e60]
        refine c_hadG hco ht (by omega) hv (by omega) (fun τ f τ2 e => ?_)
        have f2 : Qn σ τ2 := (Qn.s f).tr (by rw [e]; exact Qn.z)
        have h2 := h.qn f2
        rw [m_isTie h2.e.2.2.2.2.2.2.2.2.2.1 (by omega), br_T q, br_F (by decide), wi (n := 100000) (by decide), br_T q2, br_F (by decide), wi (n := 3) (by decide), br_T q3, br_F (by decide)]
        exact m_next h2.2.2.1 ht hv (by omega) (fun υ g => ⟨rfl, (h2.qn (Qn.g g)).inv⟩)
      · rw [br_F q3]
        intro τ e
        have a1 := m0 τ e
        rw [m_isTie a1 (by omega), br_T q, br_F (by decide), wi (n := 100000) (by decide), br_T q2, br_F (by decide), wi (n := 3) (by decide), br_F q3, br_T rfl]
        exact ⟨rfl, (h.qn (by rw [e]; exact Qn.z)).inv⟩
    · rw [br_F q2, br_T rfl]
      intro τ e
      have a1 := m0 τ e
      rw [m_isTie a1 (by omega), br_T q, br_F (by decide), wi (n := 100000) (by decide), br_F q2, br_T rfl]
      exact ⟨rfl, (h.qn (by rw [e]; exact Qn.z)).inv⟩
  · rw [br_F q, br_T rfl]
    intro τ e
    have a1 := m0 τ e
    rw [m_isTie a1 (by omega), br_F q, br_T rfl]
    exact ⟨rfl, (h.qn (by rw [e]; exact Qn.z)).inv⟩
theorem op_tempt : Op_tempt Inv := by
  intro σ x y z h
  obtain ⟨n, B, T, R, m, nx, U, kb, V, h⟩ := h
  have h : In σ n B T R m nx U kb V := h
  have hco := h.2.2.1
  obtain ⟨hT, hr, hR, hs, hB, e3, e31, e5, e51, e7, t12, t4, r30⟩ := h.e
  have es : σ 55 0 = nI (R 0) := hs.1
  unfold wp_X9_tempt
  rw [c_isTie es (by omega), c_isGate, L1, br2L (by decide)]
  have m0 : ∀ τ, τ = up σ 233 0 0 → τ 236 0 = nI (R 0) := fun τ e => by
    have := h.qn (τ := τ) (by rw [e]; exact Qn.z)
    exact this.e.2.2.2.2.2.2.2.2.2.1
  by_cases q : vp_in x (R 0)
  · rw [br_T q, br_F (by decide)]
    by_cases q2 : vp_in y 100000
    · rw [br_T q2, br_F (by decide)]
      by_cases q3 : vp_in z (1 + 1)
      · rw [br_T q3]
        obtain ⟨t, ht, ht2, rfl⟩ := vin_of (by omega) q
        obtain ⟨v, hv, hv2, rfl⟩ := vin_of (by decide) q2
        obtain ⟨w, hw, hw2, rfl⟩ := vin_of (by decide) q3
        have h4 := (hr.2.2.1 t ht).2.2.2.2.2.1
        have hc := (hr.2.2.1 t ht).1
        have e60 : σ 60 t = nI (rT R t 4) := (hs.2.2 t ht).2.2.2.2.1
        have ed : nI v / 2 = nI (v / 2) := by rw [L2, pk_div (by omega) (by decide) (by decide)]
        have es' : nI v - nI (v / 2) = nI (v - v / 2) := pk_sub (by omega)
        rw [vin_T (by omega) (by decide), cl_I ht2, true_and, e60]
        intro v1 ev1 v2 ev2
        rw [ed] at ev2
        subst ev1 ev2
        refine c_hadG hco ht (by omega) (by omega) (by omega) (fun τ f => ?_)
        rw [nI_add, es']
        refine c_hadG (hco.s f) ht (by omega) (by omega) (by omega) (fun τ' f' v3 ev3 => ?_)
        refine c_hadG ((hco.s f).s f') ht (by omega) (by omega) (by omega) (fun τ'' f'' τ2 e => ?_)
        have f2 : Qn σ τ2 := (((Qn.s f).tr (Qn.s f')).tr (Qn.s f'')).tr (by rw [e]; exact Qn.z)
        have h2 := h.qn f2
        have hR2 := h2.e.2.2.1
        rw [m_isTie h2.e.2.2.2.2.2.2.2.2.2.1 (by omega), br_T q, br_F (by decide), wi (n := 100000) (by decide), br_T q2, br_F (by decide), wi (n := 2) (by decide), br_T q3, br_F (by decide), L0, m_tie hR2 (by omega), m_games hR2 (by omega), ed]
        refine m_lay h2.2.2.1 hc ht (by omega) (by omega) (fun υ g s => ?_)
        rw [m_hasOf s (by omega) (by omega), L1, nI_add, es']
        refine m_lay (h2.2.2.1.g g) hc ht (by omega) (by omega) (fun υ' g' s' => ?_)
        rw [m_hasOf s' (by omega) (by omega)]
        intro v4 ev4
        refine m_lay ((h2.2.2.1.g g).g g') hc ht (by omega) (by omega) (fun υ'' g'' s'' => ?_)
        rw [m_hasOf s'' (by omega) (by omega), ev3, ev4]
        exact ⟨rfl, (((h2.qn (Qn.g g)).qn (Qn.g g')).qn (Qn.g g'')).inv⟩
      · rw [br_F q3]
        intro τ e
        have a1 := m0 τ e
        rw [m_isTie a1 (by omega), br_T q, br_F (by decide), wi (n := 100000) (by decide), br_T q2, br_F (by decide), wi (n := 2) (by decide), br_F q3, br_T rfl]
        exact ⟨rfl, (h.qn (by rw [e]; exact Qn.z)).inv⟩
    · rw [br_F q2, br_T rfl]
      intro τ e
      have a1 := m0 τ e
      rw [m_isTie a1 (by omega), br_T q, br_F (by decide), wi (n := 100000) (by decide), br_F q2, br_T rfl]
      exact ⟨rfl, (h.qn (by rw [e]; exact Qn.z)).inv⟩
  · rw [br_F q, br_T rfl]
    intro τ e
    have a1 := m0 τ e
    rw [m_isTie a1 (by omega), br_F q, br_T rfl]
    exact ⟨rfl, (h.qn (by rw [e]; exact Qn.z)).inv⟩
