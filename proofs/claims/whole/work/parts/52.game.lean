/-! GAME, TIEOF, FAIREST -/
theorem br_ite {c : Prop} [Decidable c] {K : Int32 → Sg → Prop} {a b : Int32} {τ : Sg} : br c (K a τ) (K b τ) = K (if c then a else b) τ := by
  by_cases h : c
  · rw [br_T h, if_pos h]
  · rw [br_F h, if_neg h]
theorem q_sum {T R : Nat → Nat} {c t g v : Nat} (h : cupOk T c) : qEh T R c t g v + qEg T R c t g v + (qSh T R c t g v + qSg T R c t g v + qSp T R c t g v) = v := by
  have e1 : qSh T R c t g v + qSg T R c t g v + qSp T R c t g v = qRe T R c t g v := s_sum h
  have e2 : qEh T R c t g v + qEg T R c t g v ≤ v := s_le
  have e3 : qRe T R c t g v = v - qEh T R c t g v - qEg T R c t g v := rfl
  omega
theorem qHas_le {T R : Nat → Nat} {c t g v w : Nat} (h : cupOk T c) : qHas T R c t g v w ≤ v := by
  have := q_sum (R := R) (t := t) (g := g) (v := v) h
  unfold qHas
  repeat' split
  all_goals omega
theorem qHad_le {T R : Nat → Nat} {c t w n : Nat} (h : cupOk T c) (hr : rowOk T R) (hn : n ≤ 4) : qHad T R c t w n ≤ 399996 := by
  have := su_bound (f := fun g => qHas T R c t g (ga R t g) w) (c := 99999) n (fun g _ => by
    have h1 := qHas_le (R := R) (t := t) (g := g) (v := ga R t g) (w := w) h
    have h2 : ga R t g < 100000 := hr.2.1 _
    show qHas T R c t g (ga R t g) w ≤ 99999
    omega)
  unfold qHad
  have h3 : 99999 * n ≤ 99999 * 4 := Nat.mul_le_mul_left _ hn
  omega
section
variable {σ : Sg} {T R : Nat → Nat} {c t g v w : Nat} {K : Int32 → Sg → Prop}
theorem c_isGame (hs : sea σ 55 R) (hr : rowOk T R) (ht : t < R 0) {y : Int32} : wp_X9_isGame (nI t) y σ K = br (vp_in y (rT R t 4)) (K 1 σ) (K 0 σ) := by
  have h30 := hr.1
  have h4 := (hr.2.2.1 t ht).2.2.2.2.2.1
  have es : σ 55 0 = nI (R 0) := hs.1
  have e60 : σ 60 t = nI (rT R t 4) := (hs.2.2 t ht).2.2.2.2.1
  unfold wp_X9_isGame
  rw [c_isTie es (by omega), br_T ((vin_I (by omega)).mpr ht), br_F (by decide), vin_T (by omega) (by decide), true_and, cl_I (by omega), e60, br2 (by omega)]
theorem c_noGame (hs : sea σ 55 R) (hr : rowOk T R) {x y : Int32} (hx : ¬ vp_in x (R 0)) : wp_X9_isGame x y σ K = K 0 σ := by
  have h30 := hr.1
  have es : σ 55 0 = nI (R 0) := hs.1
  unfold wp_X9_isGame
  rw [c_isTie es (by omega), br_F hx, br_T rfl]
def gV (T R : Nat → Nat) (t g : Nat) (z : Int32) : Int32 :=
  if z = 0 then nI (ga R t g) else if z = 1 then nI (gH R t g) else if z = 2 then nI (qEh T R (rT R t 0) t g (ga R t g)) else if z = 3 then nI (qEg T R (rT R t 0) t g (ga R t g)) else if z = 4 then nI (qRe T R (rT R t 0) t g (ga R t g)) else if z = 5 then nI (qSh T R (rT R t 0) t g (ga R t g)) else if z = 6 then nI (qSg T R (rT R t 0) t g (ga R t g)) else if z = 7 then nI (qSp T R (rT R t 0) t g (ga R t g)) else if z = 8 then nI (qLk T R (rT R t 0) t g (ga R t g)) else if z = 9 then nI (wo R t g) else -1
theorem c_gm (h : core σ T R) (ht : t < R 0) (hg : g < rT R t 4) {z : Int32} (hK : ∀ τ : Sg, Fr [179] σ τ → K (gV T R t g z) τ) : wp_X9_game (nI t) (nI g) z σ K := by
  have hs := h.2.2.2.2
  have hr := h.2.1
  have h30 := hr.1
  have h4 := (hr.2.2.1 t ht).2.2.2.2.2.1
  have hc := (hr.2.2.1 t ht).1
  have e1 : σ 56 t = nI (rT R t 0) := (hs.2.2 t ht).1
  have e6 : σ 61 (4 * t + g) = nI (ga R t g) := ((hs.2.2 t ht).2.2.2.2.2 g hg).1
  have ei : nI t * 4 + nI g = nI (4 * t + g) := by rw [L4, pk_mul, nI_add, Nat.mul_comm]
  unfold wp_X9_game
  rw [c_isGame hs hr ht, br_T ((vin_I (by omega)).mpr hg), br_F (by decide)]
  simp only [ei]
  simp (disch := omega) only [vin_T, cl_I, true_and, e6, e1]
  intro v ev
  subst ev
  refine c_sg h hc ht (by omega) (hr.2.1 _) (fun τ f s => ?_)
  have e7 : τ 62 (4 * t + g) = nI (wo R t g) := (((h.s f).2.2.2.2.2.2 t ht).2.2.2.2.2 g hg).2
  obtain ⟨a0, a1, a2, a3, a4, a5, a6, a7, a8⟩ := s
  rw [c_host (h.s f).2.2.2.2 hr ht (by omega), a2, a3, a4, a5, a6, a7, a8, e7]
  simp only [br_ite]
  exact hK τ f
theorem m_gm (h : core σ T R) (ht : t < R 0) (hg : g < rT R t 4) {z : Int32} (hK : ∀ τ : Sg, Qn σ τ → K (gV T R t g z) τ) : wp_X10_game (nI t) (nI g) z σ K := by
  have hr := h.2.1
  have h30 := hr.1
  have h4 := (hr.2.2.1 t ht).2.2.2.2.2.1
  have hc := (hr.2.2.1 t ht).1
  unfold wp_X10_game
  intro τ e
  have h2 : core τ T R := h.q (by rw [e]; exact Qn.z.1)
  have hR := h2.2.2.2.1
  rw [m_isTie (hR 0 (by omega)) (by omega), br_T ((vin_I (by omega)).mpr ht), br_F (by decide), m_games hR (by omega), wi (wi1 (by omega)), br_T ((vin_I (by omega)).mpr hg), br_F (by decide), m_gate hR (by omega) (by omega), show (0 : Int32) = nI 0 from rfl, m_tie hR (by omega)]
  refine m_lay h2 hc ht (by omega) (hr.2.1 _) (fun υ f s => ?_)
  obtain ⟨a0, a1, a2, a3, a4, a5, a6, a7, a8, a9⟩ := s
  rw [m_won (f.r hR) (by omega) (by omega), a0, a2, a3, a4, a5, a6, a7, a8, a9]
  simp only [br_ite]
  exact hK υ ((by rw [e]; exact Qn.z : Qn σ τ).tr (Qn.g f))
end
theorem op_game : Op_game Inv := by
  intro σ x y z h
  obtain ⟨n, B, T, R, m, nx, U, kb, V, h⟩ := h
  have h : In σ n B T R m nx U kb V := h
  have hco := h.2.2.1
  obtain ⟨hT, hr, hR, hs, hB, e3, e31, e5, e51, e7, t12, t4, r30⟩ := h.e
  by_cases q : vp_in x (R 0)
  · obtain ⟨t, ht, ht2, rfl⟩ := vin_of (by omega) q
    have h4 := (hr.2.2.1 t ht).2.2.2.2.2.1
    by_cases q2 : vp_in y (rT R t 4)
    · obtain ⟨g, hg, hg2, rfl⟩ := vin_of (by omega) q2
      refine c_gm hco ht hg (fun τ f => ?_)
      exact m_gm (hco.s f) ht hg (fun υ u => ⟨rfl, ((h.qn (Qn.s f)).qn u).inv⟩)
    · unfold wp_X9_game
      rw [c_isGame hs hr ht, br_F q2, br_T rfl]
      intro τ e
      have h2 := h.qn (τ := τ) (by rw [e]; exact Qn.z)
      have hR2 := h2.e.2.2.1
      rw [m_isTie (hR2 0 (by omega)) (by omega), br_T q, br_F (by decide), m_games hR2 (by omega), wi (wi1 (by omega)), br_F q2, br_T rfl]
      exact ⟨rfl, h2.inv⟩
  · unfold wp_X9_game
    rw [c_noGame hs hr q, br_T rfl]
    intro τ e
    have h2 := h.qn (τ := τ) (by rw [e]; exact Qn.z)
    have hR2 := h2.e.2.2.1
    rw [m_isTie (hR2 0 (by omega)) (by omega), br_F q, br_T rfl]
    exact ⟨rfl, h2.inv⟩
section
variable {σ : Sg} {T R : Nat → Nat} {c t g v w : Nat} {K : Int32 → Sg → Prop}
/-- what tieOf answers -/
def tV (T R : Nat → Nat) (t w : Nat) (d : Int32) : Int32 := if w < 5 then nI (rT R t w) else if w = 5 then d else if w = 6 then nI (su (ga R t) (rT R t 4)) else nI (qHad T R (rT R t 0) t (w - 7) (rT R t 4))
theorem c_to (h : core σ T R) (ht : t < R 0) (hw : w < 10) (hK : ∀ τ : Sg, Fr [179] σ τ → ∀ d : Int32, (de R t → d = nI (wnr R t)) → (¬ de R t → d = -2) → K (tV T R t w d) τ) : wp_X9_tieOf (nI t) (nI w) σ K := by
  have hs := h.2.2.2.2
  have hr := h.2.1
  have h30 := hr.1
  have h4 := (hr.2.2.1 t ht).2.2.2.2.2.1
  have hc := (hr.2.2.1 t ht).1
  have es : σ 55 0 = nI (R 0) := hs.1
  obtain ⟨f1, f2, f3, f4, f5, f6⟩ := hs.2.2 t ht
  have k1 : σ 56 t = nI (rT R t 0) := f1
  have k2 : σ 57 t = nI (rT R t 1) := f2
  have k3 : σ 58 t = nI (rT R t 2) := f3
  have k4 : σ 59 t = nI (rT R t 3) := f4
  have k5 : σ 60 t = nI (rT R t 4) := f5
  have d0 : ∃ d : Int32, (de R t → d = nI (wnr R t)) ∧ (¬ de R t → d = -2) := by
    by_cases q : de R t
    · exact ⟨_, fun _ => rfl, fun z => absurd q z⟩
    · exact ⟨_, fun z => absurd z q, fun _ => rfl⟩
  obtain ⟨d, hd1, hd2⟩ := d0
  have hK0 : ∀ v : Int32, v = tV T R t w d → K v σ := fun v e => by rw [e]; exact hK σ Fr.rf d hd1 hd2
  unfold wp_X9_tieOf
  rw [c_isTie es (by omega), br_T ((vin_I (by omega)).mpr ht), br_F (by decide), vin_T (by omega) (by decide), cl_I (by omega)]
  simp only [true_and, k1, k2, k3, k4, k5]
  have hw10 : w = 0 ∨ w = 1 ∨ w = 2 ∨ w = 3 ∨ w = 4 ∨ w = 5 ∨ w = 6 ∨ w = 7 ∨ w = 8 ∨ w = 9 := by omega
  rcases hw10 with rfl | rfl | rfl | rfl | rfl | rfl | rfl | rfl | rfl | rfl
  · simp (decide := true) only [br_True, br_False]; exact hK0 _ rfl
  · simp (decide := true) only [br_True, br_False]; exact hK0 _ rfl
  · simp (decide := true) only [br_True, br_False]; exact hK0 _ rfl
  · simp (decide := true) only [br_True, br_False]; exact hK0 _ rfl
  · simp (decide := true) only [br_True, br_False]; exact hK0 _ rfl
  · simp (decide := true) only [br_True, br_False]
    rw [c_win hs hr ht]
    refine ⟨fun q => hK0 _ ?_, fun q => hK0 _ ?_⟩
    · rw [← hd1 q]; rfl
    · rw [← hd2 q]; rfl
  · simp (decide := true) only [br_True, br_False]
    exact ⟨_, c_gates_l hs hr ht (hK0 _ rfl) (rT R t 4) 0 (by omega)⟩
  · simp (decide := true) only [br_True, br_False]
    exact c_hadT (w := 0) h hc ht (by omega) (fun τ f => hK τ f d hd1 hd2)
  · simp (decide := true) only [br_True, br_False]
    exact c_hadT (w := 1) h hc ht (by omega) (fun τ f => hK τ f d hd1 hd2)
  · simp (decide := true) only [br_True, br_False]
    exact c_hadT (w := 2) h hc ht (by omega) (fun τ f => hK τ f d hd1 hd2)
theorem m_to (h : core σ T R) (ht : t < R 0) (hw : w < 10) {d : Int32} (hd1 : de R t → d = nI (wnr R t)) (hd2 : ¬ de R t → d = -2) (hK : ∀ τ : Sg, Qn σ τ → K (tV T R t w d) τ) : wp_X10_tieOf (nI t) (nI w) σ K := by
  have hr := h.2.1
  have h30 := hr.1
  have h4 := (hr.2.2.1 t ht).2.2.2.2.2.1
  have hc := (hr.2.2.1 t ht).1
  unfold wp_X10_tieOf
  intro τ e
  have u : Qn σ τ := by rw [e]; exact Qn.z
  have h2 : core τ T R := h.q u.1
  have hR := h2.2.2.2.1
  have hK0 : ∀ v : Int32, v = tV T R t w d → K v τ := fun v e => by rw [e]; exact hK τ u
  rw [m_isTie (hR 0 (by omega)) (by omega), br_T ((vin_I (by omega)).mpr ht), br_F (by decide), wi (n := 10) (by decide), br_T ((vin_I (by omega)).mpr hw), br_F (by decide)]
  simp (disch := omega) only [L5, L6, nI_leI, nI_eq]
  refine ⟨fun q => ⟨fun q2 => ?_, fun q2 => ⟨fun q3 => ?_, fun q3 => ?_⟩⟩, fun q => ?_⟩
  · rw [m_dec hR hr ht]
    subst q2
    by_cases z : de R t
    · rw [br_T z, br_F (by decide), m_win hR hr ht, br_T z]
      refine hK0 _ ?_
      rw [← hd1 z]; rfl
    · rw [br_F z, br_T rfl]
      refine hK0 _ ?_
      rw [← hd2 z]; rfl
  · have : w = 6 := by omega
    subst this
    exact ⟨_, m_gates_l hR hr ht (hK0 _ rfl) (rT R t 4) 0 (by omega)⟩
  · rw [L0, m_tie hR (by omega), L7, pk_sub (by omega)]
    refine m_hadT h2 hc ht (by omega) (fun υ f => ?_)
    have := hK υ (u.tr (Qn.g f))
    unfold tV at this
    rw [if_neg (by omega), if_neg (by omega), if_neg (by omega)] at this
    exact this
  · rw [m_tie hR (by omega)]
    refine hK0 _ ?_
    unfold tV
    rw [if_pos (by omega)]
end
theorem op_tieOf : Op_tieOf Inv := by
  intro σ x y h
  obtain ⟨n, B, T, R, m, nx, U, kb, V, h⟩ := h
  have h : In σ n B T R m nx U kb V := h
  have hco := h.2.2.1
  obtain ⟨hT, hr, hR, hs, hB, e3, e31, e5, e51, e7, t12, t4, r30⟩ := h.e
  have es : σ 55 0 = nI (R 0) := hs.1
  by_cases q : vp_in x (R 0)
  · obtain ⟨t, ht, ht2, rfl⟩ := vin_of (by omega) q
    by_cases q2 : vp_in y 10
    · obtain ⟨w, hw, hw2, rfl⟩ := vin_of (by decide) q2
      refine c_to hco ht hw (fun τ f d d1 d2 => ?_)
      exact m_to (hco.s f) ht hw d1 d2 (fun υ u => ⟨rfl, ((h.qn (Qn.s f)).qn u).inv⟩)
    · have ne : ∀ k : Nat, k < 10 → ¬ y = nI k := fun k hk e => q2 (by rw [e]; exact (vin_I (by omega)).mpr hk)
      unfold wp_X9_tieOf
      rw [c_isTie es (by omega), br_T q, br_F (by decide), br_F (show ¬ y = 0 from ne 0 (by decide)), br_F (show ¬ y = 1 from ne 1 (by decide)), br_F (show ¬ y = 2 from ne 2 (by decide)), br_F (show ¬ y = 3 from ne 3 (by decide)), br_F (show ¬ y = 4 from ne 4 (by decide)), br_F (show ¬ y = 5 from ne 5 (by decide)), br_F (show ¬ y = 6 from ne 6 (by decide)), br_F (show ¬ y = 7 from ne 7 (by decide)), br_F (show ¬ y = 8 from ne 8 (by decide)), br_F (show ¬ y = 9 from ne 9 (by decide))]
      intro τ e
      have h2 := h.qn (τ := τ) (by rw [e]; exact Qn.z)
      have hR2 := h2.e.2.2.1
      rw [m_isTie (hR2 0 (by omega)) (by omega), br_T q, br_F (by decide), wi (n := 10) (by decide), br_F q2, br_T rfl]
      exact ⟨rfl, h2.inv⟩
  · unfold wp_X9_tieOf
    rw [c_isTie es (by omega), br_F q, br_T rfl]
    intro τ e
    have h2 := h.qn (τ := τ) (by rw [e]; exact Qn.z)
    have hR2 := h2.e.2.2.1
    rw [m_isTie (hR2 0 (by omega)) (by omega), br_F q, br_T rfl]
    exact ⟨rfl, h2.inv⟩
/-! fairest -/
theorem absI {a b : Nat} (ha : a < 2 ^ 30) (hb : b < 2 ^ 30) : (if 0 ≤ nI a - nI b then nI a - nI b else 0 - (nI a - nI b)) = nI ((a - b) + (b - a)) := by
  have h0 : (0 : Int32).toInt = 0 := rfl
  by_cases h : b ≤ a
  · rw [if_pos (by rw [Int32.le_iff_toInt_le, pk_sub_toInt ha hb, h0]; omega), pk_sub h]
    congr 1
    omega
  · rw [if_neg (by rw [Int32.le_iff_toInt_le, pk_sub_toInt ha hb, h0]; omega), show (a - b) + (b - a) = b - a by omega, ← pk_sub (by omega)]
    apply Int32.toBitVec_inj.mp
    simp only [Int32.toBitVec_sub]
    show 0#32 - _ = _
    simp [BitVec.neg_sub, BitVec.sub_eq_add_neg, BitVec.add_comm, BitVec.neg_add]
def fA (T R : Nat → Nat) (t c : Nat) : Nat := (qHad T R c t 0 (rT R t 4) - qHad T R c t 1 (rT R t 4)) + (qHad T R c t 1 (rT R t 4) - qHad T R c t 0 (rT R t 4))
/-- the fairest of the first n + 1 cups -/
def fB (T R : Nat → Nat) (t : Nat) : Nat → Nat
  | 0 => 0
  | n + 1 => if fA T R t (n + 1) < fA T R t (fB T R t n) then n + 1 else fB T R t n
section
variable {σ : Sg} {T R : Nat → Nat} {c t g v w : Nat} {K : Int32 → Sg → Prop}
theorem fA_le (hT : toldOk T) (hr : rowOk T R) (ht : t < R 0) (hc : c < T 1) : qHad T R c t 0 (rT R t 4) ≤ 399996 ∧ qHad T R c t 1 (rT R t 4) ≤ 399996 ∧ fA T R t c ≤ 399996 := by
  have h4 := (hr.2.2.1 t ht).2.2.2.2.2.1
  have a := qHad_le (t := t) (w := 0) (n := rT R t 4) (hT.2.2.2.2 c hc) hr h4
  have b := qHad_le (t := t) (w := 1) (n := rT R t 4) (hT.2.2.2.2 c hc) hr h4
  refine ⟨a, b, ?_⟩
  unfold fA
  omega
theorem fB_le (t : Nat) : ∀ n, fB T R t n ≤ n
  | 0 => Nat.le_refl _
  | n + 1 => by
    have := fB_le t n
    unfold fB
    split <;> omega
theorem c_fa_l (h : core σ T R) (ht : t < R 0) (hK : ∀ τ : Sg, Fr [179] σ τ → K (nI (fB T R t (T 1 - 1))) τ) : ∀ d c τ, c + 1 + d = T 1 → Fr [179] σ τ → b_X9_fairest_19 (nI t) K (d + 1) (nI (fB T R t c)) (nI (fA T R t (fB T R t c))) (nI (c + 1)) τ := by
  have t4 := h.1.2.1
  intro d
  induction d with
  | zero =>
    intro c τ hc f
    refine br_t ?_ ?_
    · rw [(h.s f).2.2.1.2.2.1]
      exact nI_le (by omega) (by omega)
    · rw [show c = T 1 - 1 by omega]
      exact hK τ f
  | succ d ih =>
    intro c τ hc f
    have b1 := fA_le h.1 h.2.1 ht (show c + 1 < T 1 by omega)
    have hb := fB_le (T := T) (R := R) t c
    have b2 := fA_le h.1 h.2.1 ht (show fB T R t c < T 1 by omega)
    refine br_f ?_ ?_
    · rw [(h.s f).2.2.1.2.2.1]
      exact nI_ge (by omega) (by omega)
    · refine c_hadT (w := 0) (h.s f) (by omega) ht (by omega) (fun υ f2 => ?_)
      refine c_hadT (w := 1) ((h.s f).s f2) (by omega) ht (by omega) (fun ω f3 => ?_)
      intro y ey
      rw [absI (by omega) (by omega)] at ey
      have ey : y = nI (fA T R t (c + 1)) := ey
      rw [ey, br_iff (nI_leI (by omega) (by omega)), nI_1]
      have ih' := ih (c + 1) ω (by omega) ((f.tr f2).tr f3)
      rw [show fB T R t (c + 1) = if fA T R t (c + 1) < fA T R t (fB T R t c) then c + 1 else fB T R t c from rfl] at ih'
      refine ⟨fun q z ez => ?_, fun q z ez => ?_⟩
      · rw [if_neg (by omega)] at ih'
        rw [ez]; exact ih'
      · rw [if_pos (by omega)] at ih'
        rw [ez]; exact ih'
theorem m_65 {B : Int32 → Int32 → Int32 → Sg → Prop} {a b : Nat} {y2 y3 y4 x : Int32} (ha : a < 2 ^ 30) (hb : b < 2 ^ 30) (h : b_X10_fairest_65 x B K y2 y3 y4 (nI ((a - b) + (b - a))) σ) : br (0 ≤ nI a - nI b) (b_X10_fairest_65 x B K y2 y3 y4 (nI a - nI b) σ) (b_X10_fairest_65 x B K y2 y3 y4 (0 - (nI a - nI b)) σ) := by
  rw [← absI ha hb] at h
  by_cases q : 0 ≤ nI a - nI b
  · rw [if_pos q] at h
    rw [br_T q]; exact h
  · rw [if_neg q] at h
    rw [br_F q]; exact h
theorem nm1 {n : Nat} (h : n < 2 ^ 31) : ¬ nI n = -1 := fun e => by
  have := congrArg Int32.toInt e
  rw [nI_toInt h] at this
  have h1 : (-1 : Int32).toInt = -1 := rfl
  rw [h1] at this
  omega
theorem m_fa_l (h : core σ T R) (ht : t < R 0) (hK : ∀ τ : Sg, Mg σ τ → K (nI (fB T R t (T 1 - 1))) τ) : ∀ d c τ, c + 1 + d = T 1 → Mg σ τ → b_X10_fairest_22 (nI t) K (d + 1) (nI (fB T R t c)) (nI (fA T R t (fB T R t c))) (nI (c + 1)) τ := by
  have t4 := h.1.2.1
  intro d
  induction d with
  | zero =>
    intro c τ hc f
    refine br_t ?_ ?_
    · rw [(h.g f).2.2.1.1 1 (by omega)]
      exact nI_le (by omega) (by omega)
    · rw [show c = T 1 - 1 by omega]
      exact hK τ f
  | succ d ih =>
    intro c τ hc f
    have b1 := fA_le h.1 h.2.1 ht (show c + 1 < T 1 by omega)
    have hb := fB_le (T := T) (R := R) t c
    have b2 := fA_le h.1 h.2.1 ht (show fB T R t c < T 1 by omega)
    refine br_f ?_ ?_
    · rw [(h.g f).2.2.1.1 1 (by omega)]
      exact nI_ge (by omega) (by omega)
    · refine m_hadT (w := 0) (h.g f) (by omega) ht (by omega) (fun υ f2 => ?_)
      refine m_hadT (w := 1) ((h.g f).g f2) (by omega) ht (by omega) (fun ω f3 => ?_)
      intro y ey
      rw [ey]
      refine m_65 (by omega) (by omega) ?_
      have ih' := ih (c + 1) ω (by omega) ((f.tr f2).tr f3)
      rw [show fB T R t (c + 1) = if fA T R t (c + 1) < fA T R t (fB T R t c) then c + 1 else fB T R t c from rfl] at ih'
      refine br_f (nm1 (by omega)) ?_
      show br (nI (fA T R t (fB T R t c)) ≤ nI (fA T R t (c + 1))) _ _
      rw [br_iff (nI_leI (by omega) (by omega)), nI_1]
      refine ⟨fun q z ez => ?_, fun q z ez => ?_⟩
      · rw [if_neg (by omega)] at ih'
        rw [ez]; exact ih'
      · rw [if_pos (by omega)] at ih'
        rw [ez]; exact ih'
end
theorem op_fairest : Op_fairest Inv := by
  intro σ x h
  obtain ⟨n, B, T, R, m, nx, U, kb, V, h⟩ := h
  have h : In σ n B T R m nx U kb V := h
  have hco := h.2.2.1
  obtain ⟨hT, hr, hR, hs, hB, e3, e31, e5, e51, e7, t12, t4, r30⟩ := h.e
  have es : σ 55 0 = nI (R 0) := hs.1
  unfold wp_X9_fairest
  rw [c_isTie es (by omega)]
  by_cases q : vp_in x (R 0)
  · obtain ⟨t, ht, ht2, rfl⟩ := vin_of (by omega) q
    have hc := (hr.2.2.1 t ht).1
    have b0 := fA_le hT hr ht (show 0 < T 1 by omega)
    rw [br_T q, br_F (by decide)]
    refine ⟨T 1 + 1, br_f ?_ ?_⟩
    · rw [e31]
      exact nI_ge (a := 0) (by omega) (by omega)
    · refine c_hadT (w := 0) (c := 0) hco (by omega) ht (by omega) (fun τ f => ?_)
      refine c_hadT (w := 1) (c := 0) (hco.s f) (by omega) ht (by omega) (fun τ' f' => ?_)
      intro y ey
      rw [absI (by omega) (by omega)] at ey
      have ey : y = nI (fA T R t 0) := ey
      refine br_f ?_ ?_
      · rw [ey, show (2147483647 : Int32) = nI 2147483647 from rfl]
        exact nI_ge (by omega) (by decide)
      · intro z ez
        rw [ez, ey]
        refine (show b_X9_fairest_19 (nI t) _ (T 1 - 1 + 1) (nI (fB T R t 0)) (nI (fA T R t (fB T R t 0))) (nI (0 + 1)) τ' from c_fa_l ((hco.s f).s f') ht ?_ (T 1 - 1) 0 τ' (by omega) Fr.rf) |> (fun z => by rw [show T 1 = T 1 - 1 + 1 by omega]; exact z)
        intro υ f'' τ2 e
        have u : Qn σ τ2 := (((Qn.s f).tr (Qn.s f')).tr (Qn.s f'')).tr (by rw [e]; exact Qn.z)
        have h2 := h.qn u
        have hR2 := h2.e.2.2.1
        have hc2 := h2.2.2.1
        rw [m_isTie (hR2 0 (by omega)) (by omega), br_T q, br_F (by decide)]
        refine ⟨T 1 + 1, br_f ?_ ?_⟩
        · rw [h2.e.2.2.2.2.2.2.2.2.1]
          exact nI_ge (a := 0) (by omega) (by omega)
        · refine m_hadT (w := 0) (c := 0) hc2 (by omega) ht (by omega) (fun ω g => ?_)
          refine m_hadT (w := 1) (c := 0) (hc2.g g) (by omega) ht (by omega) (fun ω' g' => ?_)
          intro y' ey'
          rw [ey']
          refine m_65 (by omega) (by omega) (br_t rfl ?_)
          intro z' ez'
          rw [ez']
          refine (show b_X10_fairest_22 (nI t) _ (T 1 - 1 + 1) (nI (fB T R t 0)) (nI (fA T R t (fB T R t 0))) (nI (0 + 1)) ω' from m_fa_l ((hc2.g g).g g') ht ?_ (T 1 - 1) 0 ω' (by omega) (Mg.rf _)) |> (fun z => by rw [show T 1 = T 1 - 1 + 1 by omega]; exact z)
          intro ω'' g''
          exact ⟨rfl, (((h2.qn (Qn.g g)).qn (Qn.g g')).qn (Qn.g g'')).inv⟩
  · rw [br_F q, br_T rfl]
    intro τ e
    have h2 := h.qn (τ := τ) (by rw [e]; exact Qn.z)
    have hR2 := h2.e.2.2.1
    rw [m_isTie (hR2 0 (by omega)) (by omega), br_F q, br_T rfl]
    exact ⟨rfl, h2.inv⟩
