/-! ALL, BALANCE, MARK, RANKED -/
section
variable {σ : Sg} {T R : Nat → Nat}
def aW (T R : Nat → Nat) (w b : Nat) : Nat := if w = 0 then aGa R b else if w = 1 then aEx T R b else if w = 2 then aAh T R b + aAg T R b else aGot T R b
theorem m_allL {K : Int32 → Sg → Prop} {w : Nat} (hw : w < 2 ^ 31) (h : mcore σ T R) (hl : lyd σ T R) (hK : K (nI (su (aW T R w) (T 0))) σ) : ∀ d n, n + d = T 0 → b_X10_all_54 (nI w) K (d + 1) (nI (su (aW T R w) n)) (nI n) σ := by
  have h12 := h.1.1
  intro d
  induction d with
  | zero =>
    intro n hn
    have : n = T 0 := by omega
    subst this
    show br _ _ _
    rw [h.2.2.1 0 (by omega)]
    exact br_t (nI_le (Nat.le_refl _) (by omega)) hK
  | succ d ih =>
    intro n hn
    obtain ⟨⟨c1, c2, c3, c4⟩, c5, -, -⟩ := hl.1 n (by omega)
    have nx := ih (n + 1) (by omega)
    have e : su (aW T R w) (n + 1) = su (aW T R w) n + aW T R w n := rfl
    show br _ _ _
    rw [h.2.2.1 0 (by omega)]
    refine br_f (nI_ge (by omega) (by omega)) ?_
    rw [vin_T (show n < 12 by omega) (by decide), cl_I (by omega), c1, c2, c3, c4, c5, L0, br_iff (nI_eq hw (by decide)), L1, br_iff (nI_eq hw (by decide)), L2, br_iff (nI_eq hw (by decide))]
    simp only [true_and, nI_add, forall_eq]
    rw [e] at nx
    unfold aW at nx ⊢
    refine ⟨fun q => ?_, fun q => ⟨fun q1 => ?_, fun q1 => ⟨fun q2 => ?_, fun q2 => ?_⟩⟩⟩
    · simp only [if_pos q] at nx ⊢; exact nx
    · simp only [if_neg q, if_pos q1] at nx ⊢; exact nx
    · simp only [if_neg q, if_neg q1, if_pos q2] at nx ⊢; exact nx
    · simp only [if_neg q, if_neg q1, if_neg q2] at nx ⊢; exact nx
theorem bal_q {τ : Sg} (h1 : ∀ k, ¬ (k = 233 ∨ (243 ≤ k ∧ k ≤ 255)) → τ k = σ k) (h2 : ∀ j, j ≠ 40 → (j < 18 ∨ 27 < j) → τ 233 j = σ 233 j) : Qn σ τ := ⟨⟨fun k hk => h1 k (by omega), fun k a b c => h1 k (by omega), h2 5 (by omega) (by omega), h2 9 (by omega) (by omega), h2 11 (by omega) (by omega), h2 12 (by omega) (by omega), by rw [h1 229 (by omega)], by rw [h1 229 (by omega)]⟩, fun k a b => h1 k (by omega)⟩
/-! MARK -/
def mkS (v : Int64) : Int64 := v ^^^ ((v.toUInt64 >>> ((Int32.toInt64 13).toUInt64 &&& Int64.toUInt64 63)).toInt64)
def mk (T R : Nat → Nat) : Nat → Int64
  | 0 => 17
  | n + 1 => mkS (mk T R n * 31 + Int32.toInt64 (bal T R n))
theorem c_mk {K : Int64 → Sg → Prop} (hT : T 0 ≤ 12) (e3 : σ 3 0 = nI (T 0)) (hb : ∀ b, b ≤ T 0 → σ 225 b = bal T R b) (hK : K (mk T R (T 0 + 1)) σ) : ∀ d n, n + d = T 0 + 1 → b_X9_mark_19 K (d + 1) (mk T R n) (nI n) σ := by
  intro d
  induction d with
  | zero =>
    intro n hn
    have : n = T 0 + 1 := by omega
    subst this
    exact br_t (by rw [e3]; exact nI_lt (by omega) (by omega)) hK
  | succ d ih =>
    intro n hn
    refine br_f (by rw [e3]; exact nI_nlt (by omega) (by omega)) ?_
    rw [vin_T (show n < 13 by omega) (by decide), cl_I (by omega), true_and, hb n (by omega)]
    intro v ev w ew u eu
    rw [ew, ev, eu, nI_1]
    exact ih (n + 1) (by omega)
theorem m_mk {K : Int64 → Sg → Prop} (hT : T 0 ≤ 12) (e5 : σ 234 0 = nI (T 0)) (hb : ∀ b, b ≤ T 0 → σ 255 b = bal T R b) (hK : K (mk T R (T 0 + 1)) σ) : ∀ d n, n + d = T 0 + 1 → b_X10_mark_24 K (d + 1) (mk T R n) (nI n) σ := by
  intro d
  induction d with
  | zero =>
    intro n hn
    have : n = T 0 + 1 := by omega
    subst this
    show br _ _ _
    rw [e5]
    exact br_t (nI_lt (by omega) (by omega)) hK
  | succ d ih =>
    intro n hn
    show br _ _ _
    rw [e5]
    refine br_f (nI_nlt (by omega) (by omega)) ?_
    rw [vin_T (show n < 13 by omega) (by decide), cl_I (by omega), true_and, hb n (by omega)]
    intro v ev w ew u eu
    rw [ew, ev, eu, nI_1]
    exact ih (n + 1) (by omega)
/-! RANKED -/
theorem sub_pos {a b : Nat} (ha : a < 2 ^ 30) (hb : b < 2 ^ 30) : 0 < nI a - nI b ↔ b < a := by
  rw [Int32.lt_iff_toInt_lt, pk_sub_toInt ha hb, show (0 : Int32).toInt = 0 from rfl]
  omega
theorem sub_eq0 {a b : Nat} (ha : a < 2 ^ 30) (hb : b < 2 ^ 30) : nI a - nI b = 0 ↔ a = b := by
  rw [← Int32.toInt_inj, pk_sub_toInt ha hb, show (0 : Int32).toInt = 0 from rfl]
  omega
def rk (T R : Nat → Nat) (c n : Nat) : Nat := su (fun o => if aHas T R c < aHas T R o ∨ (aHas T R o = aHas T R c ∧ o < c) then 1 else 0) n
def rkF (T R : Nat → Nat) (x : Int32) : Nat → Int32
  | 0 => -1
  | n + 1 => if nI (rk T R n (T 0)) = x then nI n else rkF T R x n
theorem c_rank {K : Int32 → Sg → Prop} {c : Nat} (hT : toldOk T) (hr : rowOk T R) (hl : led σ T R) (hc : c < T 0) (hK : K (nI (rk T R c (T 0))) σ) : wp_X3_rankOf (nI c) (nI (T 0)) σ K := by
  have h12 := hT.1
  have main : ∀ d n, n + d = T 0 → b_X3_rankOf_5 (nI c) (nI (T 0)) K (d + 1) (nI (rk T R c n)) (nI n) σ := by
    intro d
    induction d with
    | zero =>
      intro n hn
      have : n = T 0 := by omega
      subst this
      exact br_t (nI_le (Nat.le_refl _) (by omega)) hK
    | succ d ih =>
      intro n hn
      have nx := ih (n + 1) (by omega)
      have e : rk T R c (n + 1) = rk T R c n + (if aHas T R c < aHas T R n ∨ (aHas T R n = aHas T R c ∧ n < c) then 1 else 0) := rfl
      rw [e] at nx
      have b1 := b_Has hT hr n
      have b2 := b_Has hT hr c
      refine br_f (nI_ge (by omega) (by omega)) ?_
      rw [vin_T (show n < 12 by omega) (by decide), vin_T (show c < 12 by omega) (by decide), cl_I (by omega), cl_I (by omega), true_and, true_and]
      intro v ev
      have ev : v = nI (aHas T R n) - nI (aHas T R c) := by
        rw [ev]
        show σ (182 + n) 3 - σ (182 + c) 3 = _
        rw [(hl.1 n (by omega)).1, (hl.1 c hc).1]
      rw [ev, br_iff (sub_pos (by omega) (by omega)), br_iff (sub_eq0 (by omega) (by omega)), br_iff (nI_leI (show c < 2 ^ 31 by omega) (show n < 2 ^ 31 by omega))]
      simp only [forall_eq, nI_1]
      refine ⟨fun q => ?_, fun q => ⟨fun q1 => ⟨fun q2 => ?_, fun q2 => ?_⟩, fun q1 => ?_⟩⟩
      · rw [if_pos (Or.inl q)] at nx; exact nx
      · rw [if_neg (by omega)] at nx; exact nx
      · rw [if_pos (by omega)] at nx; exact nx
      · rw [if_neg (by omega)] at nx; exact nx
  exact ⟨_, main (T 0) 0 (by omega)⟩
theorem c_rkF {K : Int32 → Sg → Prop} {x : Int32} (hT : toldOk T) (hr : rowOk T R) (e3 : σ 3 0 = nI (T 0)) (hl : led σ T R) (hK : K (rkF T R x (T 0)) σ) : ∀ d n, n + d = T 0 → b_X9_ranked_25 x K (d + 1) (rkF T R x n) (nI n) σ := by
  have h12 := hT.1
  intro d
  induction d with
  | zero =>
    intro n hn
    have : n = T 0 := by omega
    subst this
    exact br_t (by rw [e3]; exact nI_le (Nat.le_refl _) (by omega)) hK
  | succ d ih =>
    intro n hn
    have nx := ih (n + 1) (by omega)
    refine br_f (by rw [e3]; exact nI_ge (by omega) (by omega)) ?_
    rw [e3]
    refine c_rank hT hr hl (by omega) ?_
    simp only [forall_eq, nI_1]
    simp only [rkF] at nx
    refine ⟨fun q => ?_, fun q => ?_⟩
    · rw [if_pos q] at nx; exact nx
    · rw [if_neg q] at nx; exact nx
theorem m_rank {B : Int32 → Int32 → Sg → Prop} {K : Int32 → Sg → Prop} {x y2 : Int32} {c : Nat} (hT : toldOk T) (hr : rowOk T R) (e5 : σ 234 0 = nI (T 0)) (hl : lyd σ T R) (hc : c < T 0) (hB : B (if nI (rk T R c (T 0)) = x then nI c else y2) (nI (c + 1)) σ) : ∀ d n, n + d = T 0 → b_X10_ranked_37 x B K (d + 1) y2 (nI c) (nI (rk T R c n)) (nI n) σ := by
  have h12 := hT.1
  intro d
  induction d with
  | zero =>
    intro n hn
    have : n = T 0 := by omega
    subst this
    show br _ _ _
    rw [e5]
    refine br_t (nI_le (Nat.le_refl _) (by omega)) ?_
    simp only [forall_eq, nI_1]
    refine ⟨fun q => ?_, fun q => ?_⟩
    · rw [if_pos q] at hB; exact hB
    · rw [if_neg q] at hB; exact hB
  | succ d ih =>
    intro n hn
    have nx := ih (n + 1) (by omega)
    have e : rk T R c (n + 1) = rk T R c n + (if aHas T R c < aHas T R n ∨ (aHas T R n = aHas T R c ∧ n < c) then 1 else 0) := rfl
    rw [e] at nx
    have b1 := b_Has hT hr n
    have b2 := b_Has hT hr c
    have m1 := (hl.1 n (by omega)).1
    have m2 := (hl.1 c hc).1
    show br _ _ _
    rw [e5]
    refine br_f (nI_ge (by omega) (by omega)) ?_
    rw [m_hasK (by omega) m1, m_hasK (by omega) m2, br_iff (nI_ltI (by omega) (by omega)), m_hasK (by omega) m1, m_hasK (by omega) m2, br_iff (nI_eq (by omega) (by omega)), br_iff (nI_leI (show c < 2 ^ 31 by omega) (show n < 2 ^ 31 by omega))]
    simp only [forall_eq, nI_1, Int32.add_zero]
    refine ⟨fun q => ?_, fun q => ⟨fun q1 => ⟨fun q2 => ?_, fun q2 => ?_⟩, fun q1 => ?_⟩⟩
    · rw [if_pos (Or.inl q)] at nx; exact nx
    · rw [if_neg (by omega)] at nx; exact nx
    · rw [if_pos (by omega)] at nx; exact nx
    · rw [if_neg (by omega)] at nx; exact nx
theorem m_rkF {K : Int32 → Sg → Prop} {x : Int32} (hT : toldOk T) (hr : rowOk T R) (e5 : σ 234 0 = nI (T 0)) (hl : lyd σ T R) (hK : K (rkF T R x (T 0)) σ) : ∀ d n, n + d = T 0 → b_X10_ranked_23 x K (d + 1) (rkF T R x n) (nI n) σ := by
  have h12 := hT.1
  intro d
  induction d with
  | zero =>
    intro n hn
    have : n = T 0 := by omega
    subst this
    show br _ _ _
    rw [e5]
    exact br_t (nI_le (Nat.le_refl _) (by omega)) hK
  | succ d ih =>
    intro n hn
    have nx := ih (n + 1) (by omega)
    show br _ _ _
    rw [e5]
    refine br_f (nI_ge (by omega) (by omega)) ⟨_, m_rank hT hr e5 hl (by omega) nx (T 0) 0 (by omega)⟩
end
theorem op_all : Op_all Inv := by
  intro σ x h
  obtain ⟨n, B, T, R, m, nx, U, kb, V, h⟩ := h
  have h : In σ n B T R m nx U kb V := h
  obtain ⟨hT, hr, hR, hs, hB, e3, e31, e5, e51, e7, t12, t4, r30⟩ := h.e
  unfold wp_X9_all
  rw [c_has e3 (by omega), L6, br2' (by decide)]
  have no : ¬ (0 < T 0 ∧ vp_in x 6) → wp_X10_all x σ (fun r' υ => -1 = r' ∧ Inv υ) := by
    intro q υ e
    have h2 := h.qn (τ := υ) (by rw [e]; exact Qn.z)
    rw [m_has h2.e.2.2.2.2.2.2.2.1 (by omega), wi (n := 6) (by decide)]
    refine ⟨fun q1 => br_f (by decide) ?_, fun q1 => br_t rfl ⟨rfl, h2.inv⟩⟩
    rw [br_F (fun q2 => q ⟨q1, q2⟩), br_T rfl]
    exact ⟨rfl, h2.inv⟩
  refine ⟨fun q => br_f (by decide) ⟨fun q3 => ?_, fun q3 => no (fun y => q3 y.2)⟩, fun q => br_t rfl (no (fun y => q y.1))⟩
  have q30 := q3
  obtain ⟨w, hw, hw2, rfl⟩ := vin_of (by decide) q3
  refine c_rk h (fun τ f hτ hl => ?_)
  rw [vin_T hw (by decide), cl_I (by omega), true_and]
  intro υ e
  have h2 := hτ.qn (τ := υ) (by rw [e]; exact Qn.z)
  rw [m_has h2.e.2.2.2.2.2.2.2.1 (by omega), br_T q, br_F (by decide), wi (n := 6) (by decide), br_T q30, br_F (by decide)]
  refine m_all h2.2.2.1.m (fun ω f2 l2 => ?_)
  have h3 := h2.qn f2.q
  obtain ⟨p0, p1, p2, p3, p4, p5, -⟩ := hl.2.2.2
  have lp : ∀ v, v = nI (su (aW T R w) (T 0)) → ∃ nf, b_X10_all_54 (nI w) (fun r' υ => v = r' ∧ Inv υ) nf 0 0 ω := fun v hv => ⟨_, m_allL (by omega) h3.2.2.1.m l2 ⟨hv, h3.inv⟩ (T 0) 0 (by omega)⟩
  rcases (show w = 0 ∨ w = 1 ∨ w = 2 ∨ w = 3 ∨ w = 4 ∨ w = 5 by omega) with rfl | rfl | rfl | rfl | rfl | rfl
  · exact br_f (by decide) (br_f (by decide) (lp _ (p0.trans (congrArg nI (all_Ga hT hr).symm))))
  · exact br_f (by decide) (br_f (by decide) (lp _ (p1.trans (congrArg nI (all_Ex hT hr).symm))))
  · exact br_f (by decide) (br_f (by decide) (lp _ (p2.trans (congrArg nI (all_Sh hT hr).symm))))
  · exact br_t rfl ⟨p3.trans l2.2.2.2.symm, h3.inv⟩
  · exact br_f (by decide) (br_f (by decide) (lp _ (p4.trans (congrArg nI (all_Got hT hr).symm))))
  · exact br_f (by decide) (br_t rfl (m_kept hT h3.e.2.2.2.2.2.2.2.2.1 l2.2.2.1 ⟨p5, h3.inv⟩))
theorem op_balance : Op_balance Inv := by
  intro σ x h
  obtain ⟨n, B, T, R, m, nx, U, kb, V, h⟩ := h
  have h : In σ n B T R m nx U kb V := h
  obtain ⟨hT, hr, hR, hs, hB, e3, e31, e5, e51, e7, t12, t4, r30⟩ := h.e
  unfold wp_X9_balance
  rw [c_has e3 (by omega), e3, br2L (by omega)]
  have no : ¬ (0 < T 0 ∧ vp_in x (T 0 + 1)) → wp_X10_balance x σ (fun r' υ => -2147483648 = r' ∧ Inv υ) := by
    intro q υ e
    have h2 := h.qn (τ := υ) (by rw [e]; exact Qn.z)
    rw [m_has h2.e.2.2.2.2.2.2.2.1 (by omega)]
    refine ⟨fun q1 => br_f (by decide) ?_, fun q1 => br_t rfl ⟨rfl, h2.inv⟩⟩
    simp only [wp_X10_clubs]
    rw [h2.e.2.2.2.2.2.2.2.1, wi (wi0 (n := T 0) (by omega)), br_F (fun q2 => q ⟨q1, q2⟩), br_T rfl]
    exact ⟨trivial, h2.inv⟩
  refine ⟨fun q => br_f (by decide) ⟨fun q3 => ?_, fun q3 => no (fun y => q3 y.2)⟩, fun q => br_t rfl (no (fun y => q y.1))⟩
  have q30 := q3
  obtain ⟨w, hw, hw2, rfl⟩ := vin_of (by omega) q3
  refine c_rk h (fun τ f hτ hl => ?_)
  rw [vin_T (show w < 13 by omega) (by decide), cl_I (by omega), true_and]
  intro υ e
  have h2 := hτ.qn (τ := υ) (by rw [e]; exact Qn.z)
  rw [m_has h2.e.2.2.2.2.2.2.2.1 (by omega), br_T q, br_F (by decide)]
  simp only [wp_X10_clubs]
  rw [h2.e.2.2.2.2.2.2.2.1, wi (wi0 (n := T 0) (by omega)), br_T q30, br_F (by decide)]
  refine m_bal h2.2.2.1.m (fun ω f1 f2 l2 => ?_)
  have h3 := h2.qn (bal_q f1 f2)
  rw [vin_T (show w < 13 by omega) (by decide), cl_I (by omega), true_and]
  exact ⟨(led_bal hT hr hl (by omega)).trans (l2 w (by omega)).symm, h3.inv⟩
theorem op_mark : Op_mark Inv := by
  intro σ h
  obtain ⟨n, B, T, R, m, nx, U, kb, V, h⟩ := h
  have h : In σ n B T R m nx U kb V := h
  obtain ⟨hT, hr, hR, hs, hB, e3, e31, e5, e51, e7, t12, t4, r30⟩ := h.e
  unfold wp_X9_mark
  rw [c_has e3 (by omega)]
  refine ⟨fun q => br_f (by decide) ?_, fun q => br_t rfl (fun υ e => ?_)⟩
  · refine c_rk h (fun τ f hτ hl => ⟨_, c_mk (T := T) (R := R) t12 hτ.e.2.2.2.2.2.1 (fun b hb => led_bal hT hr hl hb) (fun υ e => ?_) (T 0 + 1) 0 (by omega)⟩)
    have h2 := hτ.qn (τ := υ) (by rw [e]; exact Qn.z)
    rw [m_has h2.e.2.2.2.2.2.2.2.1 (by omega), br_T q, br_F (by decide)]
    refine m_bal h2.2.2.1.m (fun ω f1 f2 l2 => ?_)
    have h3 := h2.qn (bal_q f1 f2)
    exact ⟨_, m_mk (T := T) (R := R) t12 h3.e.2.2.2.2.2.2.2.1 l2 ⟨rfl, h3.inv⟩ (T 0 + 1) 0 (by omega)⟩
  · have h2 := h.qn (τ := υ) (by rw [e]; exact Qn.z)
    rw [m_has h2.e.2.2.2.2.2.2.2.1 (by omega), br_F q, br_T rfl]
    exact ⟨rfl, h2.inv⟩
theorem op_ranked : Op_ranked Inv := by
  intro σ x h
  obtain ⟨n, B, T, R, m, nx, U, kb, V, h⟩ := h
  have h : In σ n B T R m nx U kb V := h
  obtain ⟨hT, hr, hR, hs, hB, e3, e31, e5, e51, e7, t12, t4, r30⟩ := h.e
  unfold wp_X9_ranked
  rw [e3, br2' (by omega)]
  refine ⟨fun q => ?_, fun q υ e => ?_⟩
  · refine c_rk h (fun τ f hτ hl => ⟨_, c_rkF hT hr hτ.e.2.2.2.2.2.1 hl (fun υ e => ?_) (T 0) 0 (by omega)⟩)
    have h2 := hτ.qn (τ := υ) (by rw [e]; exact Qn.z)
    rw [m_isClub h2.e.2.2.2.2.2.2.2.1 (by omega), br_T q, br_F (by decide)]
    refine m_all h2.2.2.1.m (fun ω f2 l2 => ?_)
    have h3 := h2.qn f2.q
    exact ⟨_, m_rkF hT hr h3.e.2.2.2.2.2.2.2.1 l2 ⟨rfl, h3.inv⟩ (T 0) 0 (by omega)⟩
  · have h2 := h.qn (τ := υ) (by rw [e]; exact Qn.z)
    rw [m_isClub h2.e.2.2.2.2.2.2.2.1 (by omega), br_F q, br_T rfl]
    exact ⟨rfl, h2.inv⟩
