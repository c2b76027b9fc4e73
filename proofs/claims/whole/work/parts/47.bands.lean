/-! IN and BANDS -/
def wI (R : Nat → Nat) (c : Nat) : Nat → Int32
  | 0 => 0
  | t + 1 => if rT R t 0 = c then wI R c t ||| ((1 <<< (nI (rT R t 2) &&& 31)) ||| (1 <<< (nI (rT R t 3) &&& 31))) else wI R c t
def lI (R : Nat → Nat) (c : Nat) : Nat → Int32
  | 0 => 0
  | t + 1 => if rT R t 0 = c ∧ (0 < rT R t 4 ∧ wo R t (rT R t 4 - 1) ≠ 2) then lI R c t ||| (1 <<< (nI (lsr R t) &&& 31)) else lI R c t
theorem or0 (x : Int32) : x ||| (0 : Int32) = x := by simp
section
variable {σ : Sg} {s : Nat} {T R : Nat → Nat} {K : Int32 → Sg → Prop}
theorem c_in_l (hs : sea σ s R) (hT : toldOk T) (hr : rowOk T R) {c : Nat} (hc : c < 4) (hK : K (wI R c (R 0) &&& (lI R c (R 0) ^^^ (-1))) σ) : ∀ d t, t + d = R 0 → b_X6_stillIn_7 s (nI c) K (d + 1) (wI R c t) (lI R c t) (nI t) σ := by
  have h30 := hr.1
  intro d
  induction d with
  | zero =>
    intro t ht
    have : t = R 0 := by omega
    subst this
    refine br_t ?_ hK
    rw [hs.1]
    exact nI_le (Nat.le_refl _) (by omega)
  | succ d ih =>
    intro t ht
    obtain ⟨e1, -, e3, e4, -, -⟩ := hs.2.2 t (by omega)
    have hb := hr.2.1 (1 + 13 * t + 0)
    have hb : rT R t 0 < 100000 := hb
    have ih' := ih (t + 1) (by omega)
    unfold wI lI at ih'
    refine br_f ?_ ?_
    · rw [hs.1]
      exact nI_ge (by omega) (by omega)
    · simp (disch := omega) only [cl_I, vin_T, true_and, forall_eq, e1, e3, e4, nI_1, nI_eq, c_dec hs hr (show t < R 0 by omega), c_los hs hr (show t < R 0 by omega), or0]
      by_cases q1 : rT R t 0 = c
      · rw [br_T q1]
        rw [if_pos q1] at ih'
        by_cases q2 : de R t
        · rw [if_pos ⟨q1, q2⟩] at ih'
          rw [br_T q2, br_F (by decide), br_T q2]
          exact ih'
        · rw [if_neg (fun z => q2 z.2)] at ih'
          rw [br_F q2, br_T trivial]
          exact ih'
      · rw [br_F q1]
        rw [if_neg q1, if_neg (fun z => q1 z.1)] at ih'
        exact ih'
theorem m_in_l (hR : rowR (σ 236) R) (hT : toldOk T) (hr : rowOk T R) {c : Nat} (hc : c < 4) (hK : K (wI R c (R 0) &&& (lI R c (R 0) ^^^ (-1))) σ) : ∀ d t, t + d = R 0 → b_X10_in_22 (nI c) K (d + 1) (wI R c t) (lI R c t) (nI t) σ := by
  have h30 := hr.1
  have e0 := hR 0 (by omega)
  intro d
  induction d with
  | zero =>
    intro t ht
    have : t = R 0 := by omega
    subst this
    refine br_t ?_ hK
    rw [e0]
    exact nI_le (Nat.le_refl _) (by omega)
  | succ d ih =>
    intro t ht
    have hb := hr.2.1 (1 + 13 * t + 0)
    have hb : rT R t 0 < 100000 := hb
    have ih' := ih (t + 1) (by omega)
    unfold wI lI at ih'
    refine br_f ?_ ?_
    · rw [e0]
      exact nI_ge (by omega) (by omega)
    · simp only [L0, L2, L3]
      rw [m_tie hR (by omega), br_iff (nI_eq (by omega) (by omega))]
      by_cases q1 : rT R t 0 = c
      · rw [br_T q1, m_tie hR (by omega), m_tie hR (by omega)]
        rw [if_pos q1] at ih'
        intro v ev
        rw [m_dec hR hr (by omega)]
        by_cases q2 : de R t
        · rw [if_pos ⟨q1, q2⟩] at ih'
          rw [br_T q2, br_F (by decide), m_los hR hr (by omega), br_T q2]
          intro w ew z ez
          rw [ev, ew, ez, nI_1]
          exact ih'
        · rw [if_neg (fun z => q2 z.2)] at ih'
          rw [br_F q2, br_T (show (0 : Int32) = nI 0 from rfl)]
          intro w ew z ez
          rw [ev, ew, ez, nI_1, ← L0, or0]
          exact ih'
      · rw [br_F q1]
        rw [if_neg q1, if_neg (fun z => q1 z.1)] at ih'
        intro z ez
        rw [ez, nI_1]
        exact ih'
/-! bands -/
def itS (R : Nat → Nat) (x : Int32) : Nat → Int32
  | 0 => x
  | n + 1 => spr R (itS R x n)
def cnt (x : Int32) : Nat := su (fun j => if bt x j = true then 1 else 0) 12
theorem cnt_le (x : Int32) : cnt x ≤ 12 := by
  have := su_bound (f := fun j => if bt x j = true then 1 else 0) (c := 1) 12 (fun i _ => by split <;> omega)
  unfold cnt
  omega
theorem su_lt {f g : Nat → Nat} {k : Nat} : ∀ n, (∀ i, i < n → f i ≤ g i) → k < n → f k < g k → su f n < su g n
  | 0, _, h, _ => absurd h (Nat.not_lt_zero _)
  | n + 1, h, hk, hlt => by
    simp only [su]
    by_cases e : k = n
    · subst e
      have := su_le k (fun i hi => h i (by omega))
      omega
    · have := su_lt n (fun i hi => h i (by omega)) (by omega) hlt
      have := h n (by omega)
      omega
theorem spr_bt (hT : toldOk T) (hr : rowOk T R) {x : Int32} {j : Nat} (hj : j < 32) : bt (spr R x) j = true ↔ bt x j = true ∨ mP R x (R 0) j := by
  have hb : ∀ t, t < R 0 → rT R t 2 < 32 ∧ rT R t 3 < 32 := fun t ht => by have := tie32 hT hr ht; omega
  unfold spr
  rw [bt_or, Bool.or_eq_true, mB_bt hj (R 0) hb]
theorem spr_grow (hT : toldOk T) (hr : rowOk T R) {x : Int32} (h : spr R x ≠ x) : cnt x < cnt (spr R x) := by
  have : ∃ j, j < 32 ∧ bt (spr R x) j ≠ bt x j := by
    refine Classical.byContradiction (fun z => h (bt_ext (fun j hj => ?_)))
    exact Classical.byContradiction (fun y => z ⟨j, hj, y⟩)
  obtain ⟨j, hj, hne⟩ := this
  have h1 := spr_bt hT hr (x := x) hj
  have h2 : bt x j = false ∧ mP R x (R 0) j := by
    cases e : bt x j
    · refine ⟨rfl, ?_⟩
      cases e2 : bt (spr R x) j
      · exact absurd (e2.trans e.symm) hne
      · rcases h1.mp e2 with q | q
        · rw [e] at q; cases q
        · exact q
    · exact absurd ((h1.mpr (Or.inl e)).trans e.symm) hne
  have h12 : j < 12 := by
    obtain ⟨t, ht, q⟩ := h2.2
    have := tie32 hT hr ht
    rcases q with ⟨-, q⟩ | ⟨-, q⟩ <;> omega
  refine su_lt (k := j) 12 (fun i hi => ?_) h12 ?_
  · by_cases q : bt x i = true
    · rw [if_pos q, if_pos ((spr_bt hT hr (by omega)).mpr (Or.inl q))]
      exact Nat.le_refl _
    · rw [if_neg q]; exact Nat.zero_le _
  · rw [h2.1, if_neg (by decide), if_pos (h1.mpr (Or.inr h2.2))]
    decide
theorem itS_fix (hT : toldOk T) (hr : rowOk T R) {x : Int32} (h1 : 1 ≤ cnt x) : ∀ n, itS R x (n + 1) = itS R x n ∨ n + 2 ≤ cnt (itS R x (n + 1))
  | 0 => by
    by_cases e : spr R x = x
    · exact Or.inl e
    · have := spr_grow hT hr e
      exact Or.inr (by show 2 ≤ cnt (spr R x); omega)
  | n + 1 => by
    rcases itS_fix hT hr h1 n with e | e
    · refine Or.inl ?_
      show spr R (itS R x (n + 1)) = itS R x (n + 1)
      rw [e]
      exact e
    · by_cases q : spr R (itS R x (n + 1)) = itS R x (n + 1)
      · exact Or.inl q
      · have := spr_grow hT hr q
        exact Or.inr (by show n + 3 ≤ cnt (spr R (itS R x (n + 1))); omega)
theorem it12 (hT : toldOk T) (hr : rowOk T R) {b : Nat} (hb : b < 12) : itS R (1 <<< (nI b &&& 31)) 12 = itS R (1 <<< (nI b &&& 31)) 11 := by
  have h1 : 1 ≤ cnt (1 <<< (nI b &&& 31)) := by
    have : ∀ b, b < 12 → 1 ≤ cnt (1 <<< (nI b &&& 31)) := by decide +kernel
    exact this b hb
  rcases itS_fix hT hr h1 11 with e | e
  · exact e
  · have := cnt_le (itS R (1 <<< (nI b &&& 31)) (11 + 1))
    omega
theorem c_lk_l (hs : sea σ s R) (hT : toldOk T) (hr : rowOk T R) {a x : Int32} (hK : K (itS R x 11) σ) : ∀ d n, n + d = 11 → b_X6_linkedWith_6 s a K (d + 1) (itS R x n) (nI (n + 1)) σ := by
  intro d
  induction d with
  | zero =>
    intro n hn
    have : n = 11 := by omega
    subst this
    exact br_t (by decide) hK
  | succ d ih =>
    intro n hn
    refine br_f (nI_ge (b := 12) (show n + 1 < 12 by omega) (by decide)) ?_
    refine c_met hs hT hr ?_
    intro v ev w ew
    rw [ew, ev, nI_1]
    exact ih (n + 1) (by omega)
theorem m_lk_l (h0 : σ 234 0 = nI (T 0)) (hR : rowR (σ 236) R) (hT : toldOk T) (hr : rowOk T R) {B : Int32 → Int32 → Int32 → Sg → Prop} {y1 y2 x : Int32} {c : Nat} (hK : B y1 (y2 ||| itS R x 12) (nI (c + 1)) σ) : ∀ d n, n + d = 12 → b_X10_bands_47 B K (d + 1) y1 y2 (nI c) (itS R x n) (nI n) σ := by
  intro d
  induction d with
  | zero =>
    intro n hn
    have : n = 12 := by omega
    subst this
    refine br_t (by decide) ?_
    intro v ev w ew
    rw [ev, ew, nI_1]
    exact hK
  | succ d ih =>
    intro n hn
    refine br_f (nI_ge (b := 12) (show n < 12 by omega) (by decide)) ?_
    refine m_spr h0 hR hT hr ?_
    intro w ew
    rw [ew, nI_1]
    exact ih (n + 1) (by omega)
/-- seen and groups, c clubs through -/
def bS (R : Nat → Nat) : Nat → Int32
  | 0 => 0
  | c + 1 => if bt (bS R c) c = true then bS R c else bS R c ||| itS R (1 <<< (nI c &&& 31)) 11
def bN (R : Nat → Nat) : Nat → Nat
  | 0 => 0
  | c + 1 => if bt (bS R c) c = true then bN R c else bN R c + 1
theorem bt_test0 {x : Int32} {i : Nat} (hi : i < 32) : ((x >>> (nI i &&& 31)) &&& 1 = 0) ↔ ¬ bt x i = true := by
  rw [← bt_test hi]
  obtain ⟨j, hj, e⟩ := pk_andE (x >>> (nI i &&& 31)) (m := 1) 1 (by decide)
  rw [e, L0, L1, nI_eq (by omega) (by decide), nI_eq (by omega) (by decide)]
  omega
theorem c_bands_l (hs : sea σ 55 R) (e3 : σ 3 0 = nI (T 0)) (hT : toldOk T) (hr : rowOk T R) (hK : K (nI (bN R (T 0))) σ) : ∀ d c, c + d = T 0 → b_X9_bands_15 K (d + 1) (bS R c) (nI (bN R c)) (nI c) σ := by
  have t12 := hT.1
  intro d
  induction d with
  | zero =>
    intro c hc
    have : c = T 0 := by omega
    subst this
    refine br_t ?_ hK
    rw [e3]
    exact nI_le (Nat.le_refl _) (by omega)
  | succ d ih =>
    intro c hc
    have ih' := ih (c + 1) (by omega)
    unfold bS bN at ih'
    refine br_f ?_ ?_
    · rw [e3]
      exact nI_ge (by omega) (by omega)
    · rw [br_iff (bt_test0 (by omega))]
      by_cases q : bt (bS R c) c = true
      · rw [br_F (fun z => z q)]
        rw [if_pos q, if_pos q] at ih'
        intro v ev
        rw [ev, nI_1]
        exact ih'
      · rw [br_T q]
        rw [if_neg q, if_neg q] at ih'
        intro v ev w ew
        refine ⟨12, ?_⟩
        rw [ew]
        refine c_lk_l hs hT hr ?_ 11 0 (by omega)
        intro a ea z ez
        rw [ev, ea, ez, nI_1, nI_1]
        exact ih'
theorem m_bands_l (h0 : σ 234 0 = nI (T 0)) (hR : rowR (σ 236) R) (hT : toldOk T) (hr : rowOk T R) (hK : K (nI (bN R (T 0))) σ) : ∀ d c, c + d = T 0 → b_X10_bands_20 K (d + 1) (nI (bN R c)) (bS R c) (nI c) σ := by
  have t12 := hT.1
  intro d
  induction d with
  | zero =>
    intro c hc
    have : c = T 0 := by omega
    subst this
    show br _ _ _
    refine br_t ?_ hK
    rw [h0]
    exact nI_le (Nat.le_refl _) (by omega)
  | succ d ih =>
    intro c hc
    have ih' := ih (c + 1) (by omega)
    unfold bS bN at ih'
    show br _ _ _
    refine br_f ?_ ?_
    · rw [h0]
      exact nI_ge (by omega) (by omega)
    · rw [br_iff (bt_test0 (by omega))]
      by_cases q : bt (bS R c) c = true
      · rw [br_F (fun z => z q)]
        rw [if_pos q, if_pos q] at ih'
        intro v ev
        rw [ev, nI_1]
        exact ih'
      · rw [br_T q]
        rw [if_neg q, if_neg q, ← it12 hT hr (by omega)] at ih'
        intro v ev w ew
        refine ⟨13, ?_⟩
        rw [ew, ev, nI_1]
        exact m_lk_l h0 hR hT hr ih' 12 0 (by omega)
end
theorem op_in : Op_in Inv := by
  intro σ x h
  obtain ⟨n, B, T, R, m, nx, U, kb, V, h⟩ := h
  have h : In σ n B T R m nx U kb V := h
  have h' : In (up σ 233 0 0) n B T R m nx U kb V := h.qm (by decide)
  obtain ⟨hT, hr, hR, hs, hB, e3, e31, e5, e51, e7, t12, t4, r30⟩ := h.e
  obtain ⟨-, -, hR', -, -, -, -, e5', e51', -⟩ := h'.e
  unfold wp_X9_in
  rw [c_isCup e31 (by omega)]
  by_cases q : vp_in x (T 1)
  · obtain ⟨b, hb, hb2, rfl⟩ := vin_of (by omega) q
    rw [br_T q, br_F (by decide)]
    refine ⟨_, c_in_l hs hT hr (by omega) (fun τ e => ?_) (R 0) 0 (by omega)⟩
    subst e
    rw [m_isCup e51' (by omega), br_T q, br_F (by decide)]
    exact ⟨_, m_in_l hR' hT hr (by omega) ⟨rfl, h'.inv⟩ (R 0) 0 (by omega)⟩
  · rw [br_F q, br_T rfl]
    intro τ e
    subst e
    rw [m_isCup e51' (by omega), br_F q, br_T rfl]
    exact ⟨rfl, h'.inv⟩
theorem op_bands : Op_bands Inv := by
  intro σ h
  obtain ⟨n, B, T, R, m, nx, U, kb, V, h⟩ := h
  have h : In σ n B T R m nx U kb V := h
  have h' : In (up σ 233 0 0) n B T R m nx U kb V := h.qm (by decide)
  obtain ⟨hT, hr, hR, hs, hB, e3, e31, e5, e51, e7, t12, t4, r30⟩ := h.e
  obtain ⟨-, -, hR', -, -, -, -, e5', e51', -⟩ := h'.e
  unfold wp_X9_bands
  rw [c_has e3 (by omega)]
  by_cases q : 0 < T 0
  · rw [br_T q, br_F (by decide)]
    refine ⟨_, c_bands_l hs e3 hT hr (fun τ e => ?_) (T 0) 0 (by omega)⟩
    subst e
    rw [m_has e5' (by omega), br_T q, br_F (by decide)]
    exact ⟨_, m_bands_l e5' hR' hT hr ⟨rfl, h'.inv⟩ (T 0) 0 (by omega)⟩
  · rw [br_F q, br_T rfl]
    intro τ e
    subst e
    rw [m_has e5' (by omega), br_F q, br_T rfl]
    exact ⟨rfl, h'.inv⟩
