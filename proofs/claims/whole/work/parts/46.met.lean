/-! WHO MET WHOM: met, chain, bands, in -/
def mS (x : Int32) (a b : Nat) (y : Int32) : Int32 := if bt x a = true then y ||| (1 <<< (nI b &&& 31)) else y
def mB (R : Nat → Nat) (x : Int32) : Nat → Int32
  | 0 => 0
  | t + 1 => mS x (rT R t 3) (rT R t 2) (mS x (rT R t 2) (rT R t 3) (mB R x t))
theorem mS_bt {x y : Int32} {a b j : Nat} (hb : b < 32) (hj : j < 32) : bt (mS x a b y) j = true ↔ bt y j = true ∨ (bt x a = true ∧ b = j) := by
  unfold mS
  by_cases q : bt x a = true
  · rw [if_pos q, bt_or, bt_sh b hb j hj]
    simp only [q, Bool.or_eq_true, decide_eq_true_eq, true_and]
    exact or_congr Iff.rfl ⟨fun z => z.symm, fun z => z.symm⟩
  · rw [if_neg q]; simp [q]
def mP (R : Nat → Nat) (x : Int32) (n j : Nat) : Prop := ∃ t, t < n ∧ ((bt x (rT R t 2) = true ∧ rT R t 3 = j) ∨ (bt x (rT R t 3) = true ∧ rT R t 2 = j))
theorem mB_bt {R : Nat → Nat} {x : Int32} {j : Nat} (hj : j < 32) : ∀ n, (∀ t, t < n → rT R t 2 < 32 ∧ rT R t 3 < 32) → (bt (mB R x n) j = true ↔ mP R x n j)
  | 0, _ => by
    rw [show mB R x 0 = 0 from rfl, bt_0]
    constructor
    · intro h; exact absurd h (by decide)
    · rintro ⟨t, h, -⟩; exact absurd h (Nat.not_lt_zero _)
  | n + 1, h => by
    have hn := h n (by omega)
    rw [show mB R x (n + 1) = mS x (rT R n 3) (rT R n 2) (mS x (rT R n 2) (rT R n 3) (mB R x n)) from rfl, mS_bt hn.1 hj, mS_bt hn.2 hj, mB_bt hj n (fun t ht => h t (by omega))]
    constructor
    · rintro ((⟨t, ht, q⟩ | q) | q)
      · exact ⟨t, by omega, q⟩
      · exact ⟨n, by omega, Or.inl q⟩
      · exact ⟨n, by omega, Or.inr q⟩
    · rintro ⟨t, ht, q⟩
      by_cases e : t = n
      · subst e
        rcases q with q | q
        · exact Or.inl (Or.inr q)
        · exact Or.inr q
      · exact Or.inl (Or.inl ⟨t, by omega, q⟩)
theorem tie32 {T R : Nat → Nat} (hT : toldOk T) (hr : rowOk T R) {t : Nat} (ht : t < R 0) : rT R t 2 < 12 ∧ rT R t 3 < 12 := by
  have := hT.1
  obtain ⟨-, -, h2, h3, -⟩ := hr.2.2.1 t ht
  omega
section
variable {σ : Sg} {s : Nat} {T R : Nat → Nat} {K : Int32 → Sg → Prop}
theorem c_met_l (hs : sea σ s R) (hT : toldOk T) (hr : rowOk T R) {x : Int32} (hK : K (mB R x (R 0)) σ) : ∀ d t, t + d = R 0 → b_X6_metBy_4 s x K (d + 1) (mB R x t) (nI t) σ := by
  have h30 := hr.1
  intro d
  induction d with
  | zero =>
    intro t ht
    have : t = R 0 := by omega
    subst this
    refine br_t ?_ hK
    rw [hs.1]
    exact nI_le (Nat.le_refl _) (by omega)
  | succ d ih =>
    intro t ht
    obtain ⟨-, -, e3, e4, -, -⟩ := hs.2.2 t (by omega)
    have hb := tie32 hT hr (t := t) (by omega)
    refine br_f ?_ ?_
    · rw [hs.1]
      exact nI_ge (by omega) (by omega)
    · simp (disch := omega) only [b_X6_metBy_37, cl_I, vin_T, true_and, forall_eq, e3, e4, bt_test (show rT R t 2 < 32 by omega), bt_test (show rT R t 3 < 32 by omega), nI_1]
      have := ih (t + 1) (by omega)
      rw [show mB R x (t + 1) = mS x (rT R t 3) (rT R t 2) (mS x (rT R t 2) (rT R t 3) (mB R x t)) from rfl] at this
      unfold mS at this
      by_cases q1 : bt x (rT R t 2) = true
      · by_cases q2 : bt x (rT R t 3) = true
        · simp only [if_pos q1, if_pos q2] at this
          rw [br_T q1, br_T q2]; exact this
        · simp only [if_pos q1, if_neg q2] at this
          rw [br_T q1, br_F q2]; exact this
      · by_cases q2 : bt x (rT R t 3) = true
        · simp only [if_neg q1, if_pos q2] at this
          rw [br_F q1, br_T q2]; exact this
        · simp only [if_neg q1, if_neg q2] at this
          rw [br_F q1, br_F q2]; exact this
theorem c_met (hs : sea σ s R) (hT : toldOk T) (hr : rowOk T R) {x : Int32} (hK : K (mB R x (R 0)) σ) : wp_X6_metBy s x σ K := ⟨_, c_met_l hs hT hr hK (R 0) 0 (by omega)⟩
theorem one_bt {b : Nat} (hb : b < 32) {i : Nat} (hi : i < 32) : bt (1 <<< (nI b &&& 31)) i = true ↔ i = b := by rw [bt_sh b hb i hi]; simp
theorem m_met_l (hR : rowR (σ 236) R) (hT : toldOk T) (hr : rowOk T R) {b : Nat} (hb : b < 12) (hK : K (mB R (1 <<< (nI b &&& 31)) (R 0)) σ) : ∀ d t, t + d = R 0 → b_X10_metBy_4 (nI b) K (d + 1) (mB R (1 <<< (nI b &&& 31)) t) (nI t) σ := by
  have h30 := hr.1
  have e0 := hR 0 (by omega)
  intro d
  induction d with
  | zero =>
    intro t ht
    have : t = R 0 := by omega
    subst this
    refine br_t ?_ hK
    rw [e0]
    exact nI_le (Nat.le_refl _) (by omega)
  | succ d ih =>
    intro t ht
    have hb' := tie32 hT hr (t := t) (by omega)
    have hne := (hr.2.2.1 t (by omega)).2.2.2.2.1
    refine br_f ?_ ?_
    · rw [e0]
      exact nI_ge (by omega) (by omega)
    · simp only [L2, L3]
      rw [m_tie hR (by omega), br_iff (nI_eq (by omega) (by omega))]
      simp only [m_tie hR (show 1 + 13 * t + 3 < 415 by omega), m_tie hR (show 1 + 13 * t + 2 < 415 by omega), forall_eq, nI_1]
      rw [br_iff (nI_eq (show rT R t 3 < 2 ^ 31 by omega) (show b < 2 ^ 31 by omega))]
      have := ih (t + 1) (by omega)
      rw [show mB R (1 <<< (nI b &&& 31)) (t + 1) = mS (1 <<< (nI b &&& 31)) (rT R t 3) (rT R t 2) (mS (1 <<< (nI b &&& 31)) (rT R t 2) (rT R t 3) (mB R (1 <<< (nI b &&& 31)) t)) from rfl] at this
      unfold mS at this
      simp only [one_bt (show b < 32 by omega) (show rT R t 2 < 32 by omega), one_bt (show b < 32 by omega) (show rT R t 3 < 32 by omega)] at this
      by_cases q1 : rT R t 2 = b
      · rw [br_T q1]
        rw [if_pos q1, if_neg (by omega)] at this
        exact this
      · rw [br_F q1]
        by_cases q2 : rT R t 3 = b
        · rw [br_T q2]
          rw [if_neg q1, if_pos q2] at this
          exact this
        · rw [br_F q2]
          rw [if_neg q1, if_neg q2] at this
          rw [show mB R (1 <<< (nI b &&& 31)) t ||| (0 : Int32) = mB R (1 <<< (nI b &&& 31)) t by simp]
          exact this
theorem m_met (hR : rowR (σ 236) R) (hT : toldOk T) (hr : rowOk T R) {b : Nat} (hb : b < 12) (hK : K (mB R (1 <<< (nI b &&& 31)) (R 0)) σ) : wp_X10_metBy (nI b) σ K := ⟨_, m_met_l hR hT hr hb hK (R 0) 0 (by omega)⟩
/-- a set, and all that somebody of it met -/
def spr (R : Nat → Nat) (x : Int32) : Int32 := x ||| mB R x (R 0)
/-- the reference's way to it, n clubs through -/
def sprM (R : Nat → Nat) (x : Int32) : Nat → Int32
  | 0 => x
  | c + 1 => if bt x c = true then sprM R x c ||| mB R (1 <<< (nI c &&& 31)) (R 0) else sprM R x c
theorem sprM_bt {x : Int32} {j : Nat} (hj : j < 32) (hb : ∀ t, t < R 0 → rT R t 2 < 32 ∧ rT R t 3 < 32) : ∀ n, n ≤ 32 → (bt (sprM R x n) j = true ↔ bt x j = true ∨ ∃ c, c < n ∧ bt x c = true ∧ mP R (1 <<< (nI c &&& 31)) (R 0) j)
  | 0, _ => by
    simp [sprM]
  | n + 1, h => by
    have ih := sprM_bt (x := x) hj hb n (by omega)
    unfold sprM
    by_cases q : bt x n = true
    · rw [if_pos q, bt_or, Bool.or_eq_true, ih, mB_bt hj (R 0) hb]
      constructor
      · rintro ((z | ⟨c, hc, z⟩) | z)
        · exact Or.inl z
        · exact Or.inr ⟨c, by omega, z⟩
        · exact Or.inr ⟨n, by omega, q, z⟩
      · rintro (z | ⟨c, hc, z⟩)
        · exact Or.inl (Or.inl z)
        · by_cases e : c = n
          · subst e; exact Or.inr z.2
          · exact Or.inl (Or.inr ⟨c, by omega, z⟩)
    · rw [if_neg q, ih]
      constructor
      · rintro (z | ⟨c, hc, z⟩)
        · exact Or.inl z
        · exact Or.inr ⟨c, by omega, z⟩
      · rintro (z | ⟨c, hc, z⟩)
        · exact Or.inl z
        · by_cases e : c = n
          · subst e; exact absurd z.1 q
          · exact Or.inr ⟨c, by omega, z⟩
theorem sprM_eq (hT : toldOk T) (hr : rowOk T R) (x : Int32) : sprM R x (T 0) = spr R x := by
  have h12 := hT.1
  have hb : ∀ t, t < R 0 → rT R t 2 < 32 ∧ rT R t 3 < 32 := fun t ht => by have := tie32 hT hr ht; omega
  apply bt_ext
  intro j hj
  rw [Bool.eq_iff_iff, sprM_bt hj hb (T 0) (by omega)]
  unfold spr
  rw [bt_or, Bool.or_eq_true, mB_bt hj (R 0) hb]
  apply or_congr Iff.rfl
  constructor
  · rintro ⟨c, hc, q, t, ht, z⟩
    have := hb t ht
    refine ⟨t, ht, ?_⟩
    rcases z with ⟨z, e⟩ | ⟨z, e⟩
    · rw [one_bt (by omega) this.1] at z
      exact Or.inl ⟨by rw [z]; exact q, e⟩
    · rw [one_bt (by omega) this.2] at z
      exact Or.inr ⟨by rw [z]; exact q, e⟩
  · rintro ⟨t, ht, z⟩
    have := hb t ht
    obtain ⟨-, -, h2, h3, -⟩ := hr.2.2.1 t ht
    rcases z with ⟨z, e⟩ | ⟨z, e⟩
    · exact ⟨_, h2, z, t, ht, Or.inl ⟨(one_bt this.1 this.1).mpr rfl, e⟩⟩
    · exact ⟨_, h3, z, t, ht, Or.inr ⟨(one_bt this.2 this.2).mpr rfl, e⟩⟩
theorem m_spr_l (h0 : σ 234 0 = nI (T 0)) (hR : rowR (σ 236) R) (hT : toldOk T) (hr : rowOk T R) {x : Int32} (hK : K (spr R x) σ) : ∀ d c, c + d = T 0 → b_X10_spread_4 x K (d + 1) (sprM R x c) (nI c) σ := by
  have h12 := hT.1
  intro d
  induction d with
  | zero =>
    intro c hc
    have : c = T 0 := by omega
    subst this
    rw [sprM_eq hT hr]
    show br _ _ _
    refine br_t ?_ hK
    rw [h0]
    exact nI_le (Nat.le_refl _) (by omega)
  | succ d ih =>
    intro c hc
    show br _ _ _
    refine br_f ?_ ?_
    · rw [h0]
      exact nI_ge (by omega) (by omega)
    · rw [br_iff (bt_test (by omega))]
      have := ih (c + 1) (by omega)
      unfold sprM at this
      by_cases q : bt x c = true
      · rw [br_T q]
        rw [if_pos q] at this
        refine m_met hR hT hr (by omega) ?_
        intro v ev w ew
        rw [ew, ev, nI_1]
        exact this
      · rw [br_F q]
        rw [if_neg q] at this
        intro v ev w ew
        rw [ew, ev, nI_1, show sprM R x c ||| (0 : Int32) = sprM R x c by simp]
        exact this
theorem m_spr (h0 : σ 234 0 = nI (T 0)) (hR : rowR (σ 236) R) (hT : toldOk T) (hr : rowOk T R) {x : Int32} (hK : K (spr R x) σ) : wp_X10_spread x σ K := ⟨_, m_spr_l h0 hR hT hr hK (T 0) 0 (by omega)⟩
/-- a chain's length: d steps are left, n done, x reached -/
def chR (R : Nat → Nat) (b : Nat) : Nat → Nat → Int32 → Int32
  | 0, _, _ => -2
  | d + 1, n, x => if bt x b = true then nI n else chR R b d (n + 1) (spr R x)
theorem c_ch_l (hs : sea σ 55 R) (hT : toldOk T) (hr : rowOk T R) {a : Int32} {b : Nat} (hb : b < 12) : ∀ d n x, n + d = 12 → K (chR R b d n x) σ → b_X9_chain_25 a (nI b) K (d + 1) x (nI n) σ := by
  intro d
  induction d with
  | zero =>
    intro n x hn hK
    have : n = 12 := by omega
    subst this
    exact br_t (by decide) hK
  | succ d ih =>
    intro n x hn hK
    refine br_f ?_ ?_
    · exact nI_ge (b := 12) (show n < 12 by omega) (by decide)
    · rw [br_iff (bt_test (by omega))]
      unfold chR at hK
      by_cases q : bt x b = true
      · rw [br_T q]; rw [if_pos q] at hK; exact hK
      · rw [br_F q]
        rw [if_neg q] at hK
        refine c_met hs hT hr ?_
        intro v ev w ew
        rw [ew, ev, nI_1]
        exact ih (n + 1) _ (by omega) hK
theorem m_ch_l (h0 : σ 234 0 = nI (T 0)) (hR : rowR (σ 236) R) (hT : toldOk T) (hr : rowOk T R) {a : Int32} {b : Nat} (hb : b < 12) : ∀ d n x, n + d = 12 → K (chR R b d n x) σ → b_X10_chain_30 a (nI b) K (d + 1) x (nI n) σ := by
  intro d
  induction d with
  | zero =>
    intro n x hn hK
    have : n = 12 := by omega
    subst this
    exact br_t (by decide) hK
  | succ d ih =>
    intro n x hn hK
    refine br_f ?_ ?_
    · exact nI_ge (b := 12) (show n < 12 by omega) (by decide)
    · rw [br_iff (bt_test (by omega))]
      unfold chR at hK
      by_cases q : bt x b = true
      · rw [br_T q]; rw [if_pos q] at hK; exact hK
      · rw [br_F q]
        rw [if_neg q] at hK
        refine m_spr h0 hR hT hr ?_
        intro w ew
        rw [ew, nI_1]
        exact ih (n + 1) _ (by omega) hK
end
/-- what an operation starts from -/
theorem In.e {σ : Sg} {n : Nat} {B T R : Nat → Nat} {m nx : Nat} {U : Nat → Nat → Nat} {kb : Nat → Nat} {V : Nat → Nat → Nat} (h : In σ n B T R m nx U kb V) : toldOk T ∧ rowOk T R ∧ rowR (σ 236) R ∧ sea σ 55 R ∧ (∀ k, k < 106 → σ 234 k = nI (T k)) ∧ σ 3 0 = nI (T 0) ∧ σ 3 1 = nI (T 1) ∧ σ 234 0 = nI (T 0) ∧ σ 234 1 = nI (T 1) ∧ σ 236 0 = nI (R 0) ∧ T 0 ≤ 12 ∧ T 1 ≤ 4 ∧ R 0 ≤ 30 := by
  obtain ⟨a1, a2, a3, a4, a5⟩ := h.2.2.1
  exact ⟨a1, a2, a4, a5, a3.1, a3.2.1, a3.2.2.1, a3.1 0 (by omega), a3.1 1 (by omega), a4 0 (by omega), a1.1, a1.2.1, a2.1⟩
theorem op_met : Op_met Inv := by
  intro σ x h
  obtain ⟨n, B, T, R, m, nx, U, kb, V, h⟩ := h
  have h : In σ n B T R m nx U kb V := h
  have h' : In (up σ 233 0 0) n B T R m nx U kb V := h.qm (by decide)
  obtain ⟨hT, hr, hR, hs, hB, e3, e31, e5, e51, e7, t12, t4, r30⟩ := h.e
  obtain ⟨-, -, hR', -, -, -, -, e5', -⟩ := h'.e
  unfold wp_X9_met
  rw [c_isClub e3 (by omega)]
  by_cases q : vp_in x (T 0)
  · obtain ⟨b, hb, hb2, rfl⟩ := vin_of (by omega) q
    rw [br_T q, br_F (by decide)]
    refine c_met hs hT hr (fun τ e => ?_)
    subst e
    rw [m_isClub e5' (by omega), br_T q, br_F (by decide)]
    exact m_met hR' hT hr (by omega) ⟨rfl, h'.inv⟩
  · rw [br_F q, br_T rfl]
    intro τ e
    subst e
    rw [m_isClub e5' (by omega), br_F q, br_T rfl]
    exact ⟨rfl, h'.inv⟩
theorem op_chain : Op_chain Inv := by
  intro σ x y h
  obtain ⟨n, B, T, R, m, nx, U, kb, V, h⟩ := h
  have h : In σ n B T R m nx U kb V := h
  have h' : In (up σ 233 0 0) n B T R m nx U kb V := h.qm (by decide)
  obtain ⟨hT, hr, hR, hs, hB, e3, e31, e5, e51, e7, t12, t4, r30⟩ := h.e
  obtain ⟨-, -, hR', -, -, -, -, e5', -⟩ := h'.e
  unfold wp_X9_chain
  rw [c_isClub e3 (by omega)]
  by_cases q : vp_in x (T 0)
  · rw [br_T q, br_F (by decide), c_isClub e3 (by omega)]
    by_cases q2 : vp_in y (T 0)
    · obtain ⟨b, hb, hb2, rfl⟩ := vin_of (by omega) q2
      rw [br_T q2, br_F (by decide)]
      intro v ev
      refine ⟨_, c_ch_l hs hT hr (by omega) 12 0 v (by omega) (fun τ e => ?_)⟩
      subst e
      rw [m_isClub e5' (by omega), br_T q, br_F (by decide), m_isClub e5' (by omega), br_T q2, br_F (by decide)]
      intro v' ev'
      rw [ev, ev']
      exact ⟨_, m_ch_l e5' hR' hT hr (by omega) 12 0 _ (by omega) ⟨rfl, h'.inv⟩⟩
    · rw [br_F q2, br_T rfl]
      intro τ e
      subst e
      rw [m_isClub e5' (by omega), br_T q, br_F (by decide), m_isClub e5' (by omega), br_F q2, br_T rfl]
      exact ⟨rfl, h'.inv⟩
  · rw [br_F q, br_T rfl]
    intro τ e
    subst e
    rw [m_isClub e5' (by omega), br_F q, br_T rfl]
    exact ⟨rfl, h'.inv⟩
