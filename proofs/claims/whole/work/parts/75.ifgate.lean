/-! IFGATE -/
def setG (R : Nat → Nat) (t g v : Nat) : Nat → Nat := fun k => if k = 1 + 13 * t + (5 + 2 * g) then v else R k
section
variable {σ : Sg} {T R : Nat → Nat} {t g v : Nat}
theorem setG_rT {t' w : Nat} (hg : g < 4) (hw : w < 13) (hw2 : w ≠ 5 + 2 * g ∨ t' ≠ t) : rT (setG R t g v) t' w = rT R t' w := by
  unfold rT setG
  exact if_neg (by omega)
theorem setG_0 : setG R t g v 0 = R 0 := if_neg (by omega)
theorem setG_ga {t' g' : Nat} (hg : g < 4) (hg' : g' < 4) : ga (setG R t g v) t' g' = if t' = t ∧ g' = g then v else ga R t' g' := by
  unfold ga rT setG
  by_cases q : t' = t ∧ g' = g
  · rw [if_pos q, if_pos (by omega)]
  · rw [if_neg q, if_neg (by omega)]
theorem setG_wo {t' g' : Nat} (hg : g < 4) (hg' : g' < 4) : wo (setG R t g v) t' g' = wo R t' g' := by
  unfold wo rT setG
  exact if_neg (by omega)
theorem setG_ok (hr : rowOk T R) (ht : t < R 0) (hg : g < 4) (hv : v < 100000) : rowOk T (setG R t g v) := by
  obtain ⟨a1, a2, a3, a4⟩ := hr
  refine ⟨by rw [setG_0]; exact a1, fun k => ?_, fun t' ht' => ?_, fun k hk => ?_⟩
  · unfold setG
    split
    · exact hv
    · exact a2 k
  · rw [setG_0] at ht'
    have e : ∀ w, w < 5 → rT (setG R t g v) t' w = rT R t' w := fun w hw => setG_rT hg (by omega) (by omega)
    obtain ⟨b0, b1, b2, b3, b4, b5, b6, b7, b8⟩ := a3 t' ht'
    have ecd : ∀ c r, cd (setG R t g v) c r = cd R c r := fun c r => by
      unfold cd setG
      exact if_neg (by omega)
    have ede : de (setG R t g v) t' ↔ de R t' := by
      unfold de
      rw [e 4 (by omega)]
      refine ⟨fun y => ⟨y.1, ?_⟩, fun y => ⟨y.1, ?_⟩⟩
      · have := y.2
        rw [setG_wo hg (by omega)] at this
        exact this
      · rw [setG_wo hg (by omega)]
        exact y.2
    unfold tieOk
    rw [e 0 (by omega), e 1 (by omega), e 2 (by omega), e 3 (by omega), e 4 (by omega), ede, ecd]
    exact ⟨b0, b1, b2, b3, b4, b5, fun i hi => by rw [setG_wo hg (by omega)]; exact b6 i hi, b7, b8⟩
  · unfold setG
    rw [if_neg (by omega)]
    exact a4 k hk
theorem setG_sea (hs : sea σ 55 R) (hr : rowOk T R) (ht : t < R 0) (hg : g < 4) : sea (up σ 61 (4 * t + g) (nI v)) 55 (setG R t g v) := by
  have h30 := hr.1
  obtain ⟨s1, s2, s3⟩ := hs
  refine ⟨by rw [up_o (by decide), setG_0]; exact s1, fun j hj => ?_, fun t' ht' => ?_⟩
  · rw [up_o (by decide), s2 j hj]
    unfold setG
    by_cases q : j < 24
    · rw [if_neg (by omega)]
    · simp [q]
  · rw [setG_0] at ht'
    have h4 := row4 hr t' ht'
    have e : ∀ w, w < 5 → rT (setG R t g v) t' w = rT R t' w := fun w hw => setG_rT hg (by omega) (by omega)
    obtain ⟨b1, b2, b3, b4, b5, b6⟩ := s3 t' ht'
    rw [e 0 (by omega), e 1 (by omega), e 2 (by omega), e 3 (by omega), e 4 (by omega)]
    refine ⟨by rw [up_o (by decide)]; exact b1, by rw [up_o (by decide)]; exact b2, by rw [up_o (by decide)]; exact b3, by rw [up_o (by decide)]; exact b4, by rw [up_o (by decide)]; exact b5, fun g' hg' => ⟨?_, ?_⟩⟩
    · rw [show 55 + 6 = 61 from rfl, up_r, setG_ga hg (by omega)]
      by_cases q : t' = t ∧ g' = g
      · rw [if_pos q, if_pos (by omega)]
      · rw [if_neg q, if_neg (by omega)]; exact (b6 g' hg').1
    · rw [up_o (by decide), setG_wo hg (by omega)]; exact (b6 g' hg').2
theorem c_lackS {K : Int32 → Sg → Prop} (hT : T 0 ≤ 12) (hl : led σ T R) (hK : K (nI (su (aLa T R) (T 0))) σ) : wp_X3_allLacks (nI (T 0)) σ K := by
  have main : ∀ d n, n + d = T 0 → b_X3_allLacks_4 (nI (T 0)) K (d + 1) (nI (su (aLa T R) n)) (nI n) σ := by
    intro d
    induction d with
    | zero =>
      intro n hn
      have : n = T 0 := by omega
      subst this
      exact br_t (nI_le (Nat.le_refl _) (by omega)) hK
    | succ d ih =>
      intro n hn
      have e8 : σ (181 + 1 + n) 8 = nI (aLa T R n) := (hl.1 n (by omega)).2.2.2.2.2.1
      refine br_f (nI_ge (by omega) (by omega)) ?_
      rw [vin_T (show n < 12 by omega) (by decide), cl_I (by omega), true_and, e8, nI_add]
      intro v ev w ew
      rw [ev, ew, nI_1]
      exact ih (n + 1) (by omega)
  exact ⟨_, main (T 0) 0 (by omega)⟩
theorem m_lackS {K : Int32 → Sg → Prop} {x1 x2 x3 : Int32} (hT : toldOk T) (hr : rowOk T R) (hB : ∀ k, k < 106 → σ 234 k = nI (T k)) (hC : ∀ b, b < T 0 → mC σ T R b) (hK : K (nI (su (aLa T R) (T 0))) σ) : ∀ d n, n + d = T 0 → b_X10_ifGate_94 x1 x2 x3 K (d + 1) (nI (su (aLa T R) n)) (nI n) σ := by
  have h12 := hT.1
  intro d
  induction d with
  | zero =>
    intro n hn
    have : n = T 0 := by omega
    subst this
    show br _ _ _
    rw [hB 0 (by omega)]
    exact br_t (nI_le (Nat.le_refl _) (by omega)) hK
  | succ d ih =>
    intro n hn
    show br _ _ _
    rw [hB 0 (by omega)]
    refine br_f (nI_ge (by omega) (by omega)) ?_
    rw [m_lacksK hT hr hB (by omega) (hC n (by omega)), nI_add]
    intro v ev w ew
    rw [ev, ew, nI_1]
    exact ih (n + 1) (by omega)
end
theorem op_ifGate : Op_ifGate Inv := by
  intro σ x y z h
  obtain ⟨n, B, T, R, m, nx, U, kb, V, h⟩ := h
  have h : In σ n B T R m nx U kb V := h
  have hco := h.2.2.1
  obtain ⟨hT, hr, hR, hs, hB, e3, e31, e5, e51, e7, t12, t4, r30⟩ := h.e
  have es : σ 55 0 = nI (R 0) := hs.1
  unfold wp_X9_ifGate
  by_cases q : vp_in x (R 0)
  · have q0 := q
    obtain ⟨t, ht, ht2, rfl⟩ := vin_of (by omega) q
    have h4 := row4 hr t ht
    rw [c_isGame hs hr ht]
    have no : ¬ (vp_in y (rT R t 4) ∧ vp_in z 100000) → wp_X10_ifGate (nI t) y z σ (fun r' υ => -1 = r' ∧ Inv υ) := by
      intro q2 υ e
      have h2 := h.qn (τ := υ) (by rw [e]; exact Qn.z)
      rw [m_isTie h2.e.2.2.2.2.2.2.2.2.2.1 (by omega), br_T q0, br_F (by decide), m_games h2.e.2.2.1 (by omega), wi (wi1 (by omega))]
      refine ⟨fun y1 => br_f (by decide) ?_, fun y1 => br_t rfl ⟨rfl, h2.inv⟩⟩
      rw [wi (n := 100000) (by decide), br_F (fun y2 => q2 ⟨y1, y2⟩), br_T rfl]
      exact ⟨rfl, h2.inv⟩
    refine ⟨fun q2 => br_f (by decide) ?_, fun q2 => br_t rfl (no (fun y => q2 y.1))⟩
    rw [c_isGate]
    refine ⟨fun q3 => br_f (by decide) ?_, fun q3 => br_t rfl (no (fun y => q3 y.2))⟩
    have q20 := q2
    have q30 := q3
    obtain ⟨g, hg, hg2, rfl⟩ := vin_of (by omega) q2
    obtain ⟨v, hv, hv2, rfl⟩ := vin_of (by decide) q3
    have hg4 : g < 4 := by omega
    have hr' := setG_ok (T := T) (t := t) (g := g) (v := v) hr ht hg4 hv
    intro a ea
    have ea : a = nI (4 * t + g) := by rw [ea, L4, pk_mul, nI_add, Nat.mul_comm]
    rw [ea, vin_T (show 4 * t + g < 120 by omega) (by decide), cl_I (by omega)]
    simp only [true_and]
    intro old eo τ1 e1
    have hcc : ccore τ1 T (setG R t g v) := ⟨hT, hr', bookR_congr hT hco.2.2.1 (by rw [e1, up_o (by decide)]) (by rw [e1, up_o (by decide)]) (fun k _ _ => by rw [e1, up_o (by omega)]), by rw [e1]; exact setG_sea hs hr ht hg4⟩
    refine c_all hcc (fun τ2 p1 p2 p3 => ?_)
    rw [show τ2 3 0 = nI (T 0) by rw [p1 3 (by omega), e1, up_o (by decide)]; exact e3]
    refine c_lackS t12 p2 (fun τ3 e3' τ4 e4 υ e => ?_)
    have r61 : τ4 61 = σ 61 := by
      funext j
      rw [e4, up_o (by decide), e3', up_r, p1 61 (by omega), e1, up_r, eo]
      by_cases y : j = 4 * t + g
      · rw [if_pos y, y]
      · rw [if_neg y, if_neg y]
    have o4 : ∀ k, (k < 179 ∨ 226 < k) → τ4 k = σ k := fun k hk => by
      by_cases y : k = 61
      · rw [y]; exact r61
      · rw [e4, up_o (by omega), e3', up_o y, p1 k hk, e1, up_o y]
    have z6 : τ4 180 6 = 0 := by rw [e4, up_s]
    have h1 : In τ4 n B T R m nx U kb V := h.q ⟨fun k hk => o4 k (by omega), fun k a b c => o4 k (by omega), by rw [o4 233 (by omega)], by rw [o4 233 (by omega)], by rw [o4 233 (by omega)], by rw [o4 233 (by omega)], by rw [o4 229 (by omega)], by rw [o4 229 (by omega)]⟩ (by rw [z6]; exact isZ_0) (fun y => by rw [z6] at y; exact absurd y (by decide))
    have h2 := h1.qn (τ := υ) (by rw [e]; exact Qn.z)
    rw [m_isTie h2.e.2.2.2.2.2.2.2.2.2.1 (by omega), br_T q0, br_F (by decide), m_games h2.e.2.2.1 (by omega), wi (wi1 (by omega)), br_T q20, br_F (by decide), wi (n := 100000) (by decide), br_T q30, br_F (by decide)]
    intro b eb
    have eb : b = nI (1 + 13 * t + (5 + 2 * g)) := by
      rw [eb, L1, L13, L5, L2, pk_mul, pk_mul, nI_add, nI_add, nI_add]
      congr 1
      omega
    rw [eb, vin_T (show 1 + 13 * t + (5 + 2 * g) < 415 by omega) (by decide), cl_I (by omega)]
    simp only [true_and]
    intro was ew υ1 u1
    have hm : mcore υ1 T (setG R t g v) := by
      refine ⟨hT, hr', by rw [u1, up_o (by decide)]; exact h2.e.2.2.2.2.1, fun k hk => ?_⟩
      rw [u1, up_r]
      unfold setG
      by_cases y : k = 1 + 13 * t + (5 + 2 * g)
      · rw [if_pos y, if_pos y]
      · rw [if_neg y, if_neg y]; exact h2.e.2.2.1 k hk
    refine m_all hm (fun υ2 f2 l2 υ3 u3 => ?_)
    have r237 : υ3 236 = υ 236 := by
      funext j
      rw [u3, up_r, f2.1 236 (by omega), u1, up_r, ew]
      by_cases y : j = 1 + 13 * t + (5 + 2 * g)
      · rw [if_pos y, y]
      · rw [if_neg y, if_neg y]
    have f3 : MF υ υ3 := ⟨fun k hk => by
      by_cases y : k = 236
      · rw [y]; exact r237
      · rw [u3, up_o y, f2.1 k hk, u1, up_o y], fun j j1 j2 => by rw [u3, up_o (by decide), f2.2 j j1 j2, u1, up_o (by decide)]⟩
    have h3 := h2.qn f3.q
    exact ⟨_, m_lackS hT hr' h3.e.2.2.2.2.1 (fun b hb => by
      have := (l2.1 b hb).1
      unfold mC at this ⊢
      rw [u3, up_o (by decide), up_o (by decide), up_o (by decide), up_o (by decide)]
      exact this) ⟨rfl, h3.inv⟩ (T 0) 0 (by omega)⟩
  · rw [c_noGame hs hr q]
    refine br_t rfl (fun υ e => ?_)
    have h2 := h.qn (τ := υ) (by rw [e]; exact Qn.z)
    rw [m_isTie h2.e.2.2.2.2.2.2.2.2.2.1 (by omega), br_F q, br_T rfl]
    exact ⟨rfl, h2.inv⟩
