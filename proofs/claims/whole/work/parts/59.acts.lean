/-! ACTS: prepare, forget; rows with a tie more, a game more, a round closed -/
section
variable {σ : Sg} {T R : Nat → Nat} {m : Nat} {U : Nat → Nat → Nat}
theorem m_prep {K : Sg → Prop} (hm : m ≤ 12) (hu : undoR σ m U) (hR : rowR (σ 236) R) (hK : ∀ τ : Sg, Fr [233, 237, 242] σ τ → (∀ j, j ≠ 5 → j ≠ 17 → τ 233 j = σ 233 j) → undoR τ (min (m + 1) 12) (hU m U R) → τ 233 17 = nI (if m = 12 then 1 else 0) → (m = 12 → ∀ k, k < 415 → τ 242 k = nI (U 0 k)) → K τ) : wp_X10_prepare σ K := by
  obtain ⟨u1, u2⟩ := hu
  have fin : ∀ (b : Nat) (τ : Sg), b = (if m = 12 then 1 else 0) → Fr [233, 242] σ τ → (∀ j, j ≠ 17 → τ 233 j = σ 233 j) → τ 233 17 = nI b → (m = 12 → ∀ k, k < 415 → τ 242 k = nI (U 0 k)) → b_X10_prepare_52 K τ := by
    intro b τ eb f1 f2 f3 f4
    refine m_rem hm (U := U) ⟨by rw [f2 5 (by decide)]; exact u1, fun i hi => by rw [f1 237 (by decide)]; exact u2 i hi⟩ (by rw [f1 236 (by decide)]; exact hR) (fun υ g1 g2 g3 => ?_)
    refine hK υ (fun k hk => ?_) (fun j a b => ?_) g3 ?_ (fun z k hk => ?_)
    · simp only [List.mem_cons, List.not_mem_nil, or_false, not_or] at hk
      rw [g1 k (by simp [hk.1, hk.2.1]), f1 k (by simp [hk.1, hk.2.2])]
    · rw [g2 j a, f2 j b]
    · rw [g2 17 (by decide), f3, eb]
    · rw [g1 242 (by decide)]; exact f4 z k hk
  unfold wp_X10_prepare b_X10_prepare_15
  rw [u1, L12, br_iff (nI_eq (by omega) (by decide))]
  refine ⟨fun q => ⟨isZ_1, fun τ e => ?_⟩, fun q => ⟨isZ_0, fun τ e => ?_⟩⟩
  · refine ⟨416, m_p20 (by rw [e, up_s]; rfl) (fun υ v1 v2 v3 => ?_) 415 0 τ (by omega) Fr.rf (fun j hj => by omega) (fun j hj => rfl)⟩
    refine fin 1 υ (by rw [if_pos q]) (fun k hk => ?_) (fun j hj => ?_) ?_ (fun z k hk => ?_)
    · simp only [List.mem_cons, List.not_mem_nil, or_false, not_or] at hk
      rw [v1 k (by simp [hk.2]), e, up_o hk.1]
    · rw [v1 233 (by decide), e, up_j hj]
    · rw [v1 233 (by decide), e, up_s]; rfl
    · rw [v2 k hk, e, up_o (by decide)]
      have := u2 0 (by omega) k hk
      rw [show (fun k => σ 237 (415 * 0 + k)) k = σ 237 k by simp] at this
      exact this
  · refine ⟨1, br_f ?_ (br_t ?_ ?_)⟩
    · decide
    · rw [e, up_s]
    · refine fin 0 τ (by rw [if_neg q]) (fun k hk => ?_) (fun j hj => ?_) ?_ (fun z => absurd z q)
      · simp only [List.mem_cons, List.not_mem_nil, or_false, not_or] at hk
        rw [e, up_o hk.1]
      · rw [e, up_j hj]
      · rw [e, up_s]; rfl
theorem m_forg {K : Sg → Prop} (hm : m ≤ 12) (hu : undoR σ (min (m + 1) 12) (hU m U R)) (h17 : σ 233 17 = nI (if m = 12 then 1 else 0)) (hel : m = 12 → ∀ k, k < 415 → σ 242 k = nI (U 0 k)) (hK : ∀ τ : Sg, Fr [233, 237] σ τ → (∀ j, j ≠ 5 → τ 233 j = σ 233 j) → undoR τ m U → K τ) : wp_X10_forgetIf 1 σ K := by
  obtain ⟨u1, u2⟩ := hu
  unfold wp_X10_forgetIf
  refine br_f (by decide) (fun τ e => ?_)
  rw [u1, L1, sub1 (by omega)] at e
  have e17 : τ 233 17 = nI (if m = 12 then 1 else 0) := by rw [e, up_j (by decide)]; exact h17
  rw [e17]
  by_cases q : m = 12
  · rw [if_pos q]
    refine br_f (by decide) ⟨4566, ?_⟩
    refine m_f26 (fun υ v1 v2 => ?_) 4565 τ (by omega) Fr.rf (fun j a b => by omega) (fun j hj => rfl)
    refine ⟨416, m_f54 (fun ω w1 w2 w3 => ?_) 415 0 υ (by omega) Fr.rf (fun j hj => by omega) (fun j hj => rfl)⟩
    intro ρ er
    refine hK ρ (fun k hk => ?_) (fun j hj => ?_) ⟨?_, fun i hi k hk => ?_⟩
    · simp only [List.mem_cons, List.not_mem_nil, or_false, not_or] at hk
      rw [er, up_o hk.1, w1 k (by simp [hk.2]), v1 k (by simp [hk.2]), e, up_o hk.1]
    · rw [er, up_j hj, w1 233 (by decide), v1 233 (by decide), e, up_j hj]
    · rw [er, up_s, q]; rfl
    · show ρ 237 (415 * i + k) = _
      rw [er, up_o (by decide)]
      by_cases z : i = 0
      · subst z
        rw [show 415 * 0 + k = k by omega, w2 k hk, v1 242 (by decide), e, up_o (by decide)]
        exact hel q k hk
      · rw [w3 (415 * i + k) (fun i' hi' => by omega), show 415 * i + k = (415 * (i - 1) + k) + 415 by omega, v2 (415 * (i - 1) + k) (by omega), e, up_o (by decide)]
        have := u2 (i - 1) (by omega) k hk
        unfold hU at this
        rw [if_neg (by omega), if_pos q, show i - 1 + 1 = i by omega] at this
        exact this
  · rw [if_neg q]
    refine br_t rfl (hK τ (fun k hk => ?_) (fun j hj => ?_) ⟨?_, fun i hi k hk => ?_⟩)
    · simp only [List.mem_cons, List.not_mem_nil, or_false, not_or] at hk
      rw [e, up_o hk.1]
    · rw [e, up_j hj]
    · rw [e, up_s]; congr 1; omega
    · show τ 237 (415 * i + k) = _
      rw [e, up_o (by decide)]
      have := u2 i (by omega) k hk
      unfold hU at this
      rw [if_neg (by omega), if_neg q] at this
      exact this
end
def addT (R : Nat → Nat) (c r a b : Nat) : Nat → Nat := fun k => if k = 0 then R 0 + 1 else if k < 1 + 13 * R 0 then R k else if 1 + 13 * R 0 + 13 ≤ k then R k else if k = 1 + 13 * R 0 then c else if k = 1 + 13 * R 0 + 1 then r else if k = 1 + 13 * R 0 + 2 then a else if k = 1 + 13 * R 0 + 3 then b else 0
def addG (R : Nat → Nat) (t v w : Nat) : Nat → Nat := fun k => if k = 1 + 13 * t + (5 + 2 * rT R t 4) then v else if k = 1 + 13 * t + (5 + 2 * rT R t 4 + 1) then w else if k = 1 + 13 * t + 4 then rT R t 4 + 1 else R k
def addC (R : Nat → Nat) (c r : Nat) : Nat → Nat := fun k => if k = 391 + 6 * c + r then 1 else R k
/-- a tie that stays as it is -/
theorem tie_congr {T R R' : Nat → Nat} {t : Nat} (hw : ∀ w, w < 13 → rT R' t w = rT R t w) (hcd : cd R' (rT R t 0) (rT R t 1) = 1 → cd R (rT R t 0) (rT R t 1) = 1 ∨ de R t) (h : tieOk T R t) : tieOk T R' t := by
  obtain ⟨k0, k1, k2, k3, k4, k5, k6, k7, k8⟩ := h
  have ewo : ∀ g, g < 4 → wo R' t g = wo R t g := fun g hg => hw _ (by omega)
  have ede : de R' t ↔ de R t := by
    unfold de
    rw [hw 4 (by omega)]
    constructor
    · rintro ⟨x, y⟩; exact ⟨x, by rw [← ewo _ (by omega)]; exact y⟩
    · rintro ⟨x, y⟩; exact ⟨x, by rw [ewo _ (by omega)]; exact y⟩
  unfold tieOk
  rw [hw 0 (by omega), hw 1 (by omega), hw 2 (by omega), hw 3 (by omega), hw 4 (by omega), ede]
  refine ⟨k0, k1, k2, k3, k4, k5, fun g hg => by rw [ewo g (by omega)]; exact k6 g hg, k7, fun z => ?_⟩
  rcases hcd z with y | y
  · exact k8 y
  · exact y
theorem addT_old {R : Nat → Nat} {c r a b t w : Nat} (ht : t < R 0) (hw : w < 13) : rT (addT R c r a b) t w = rT R t w := by
  unfold rT addT
  rw [if_neg (by omega), if_pos (by omega)]
theorem addT_new {R : Nat → Nat} {c r a b : Nat} : rT (addT R c r a b) (R 0) 0 = c ∧ rT (addT R c r a b) (R 0) 1 = r ∧ rT (addT R c r a b) (R 0) 2 = a ∧ rT (addT R c r a b) (R 0) 3 = b ∧ rT (addT R c r a b) (R 0) 4 = 0 := by
  unfold rT addT
  refine ⟨?_, ?_, ?_, ?_, ?_⟩
  · rw [if_neg (by omega), if_neg (by omega), if_neg (by omega), if_pos (by omega)]
  · rw [if_neg (by omega), if_neg (by omega), if_neg (by omega), if_neg (by omega), if_pos (by omega)]
  · rw [if_neg (by omega), if_neg (by omega), if_neg (by omega), if_neg (by omega), if_neg (by omega), if_pos (by omega)]
  · rw [if_neg (by omega), if_neg (by omega), if_neg (by omega), if_neg (by omega), if_neg (by omega), if_neg (by omega), if_pos (by omega)]
  · rw [if_neg (by omega), if_neg (by omega), if_neg (by omega), if_neg (by omega), if_neg (by omega), if_neg (by omega), if_neg (by omega)]
theorem addT_hi {R : Nat → Nat} {c r a b k : Nat} (h : R 0 < 30) (hk : 391 ≤ k) : addT R c r a b k = R k := by
  unfold addT
  rw [if_neg (by omega), if_neg (by omega), if_pos (by omega)]
def tOk (R : Nat → Nat) (c r a b : Nat) : Prop := a ≠ b ∧ R 0 < 30 ∧ ¬ cd R c r = 1 ∧ ¬ plN R c r a (R 0) ∧ ¬ plN R c r b (R 0) ∧ (r = 0 ∨ (cd R c (r - 1) = 1 ∧ wnN R c (r - 1) a (R 0) ∧ wnN R c (r - 1) b (R 0)))
theorem addT_ok {T R : Nat → Nat} {c r a b : Nat} (hT : toldOk T) (hr : rowOk T R) (hc : c < T 1) (hr' : r < 6) (ha : a < T 0) (hb : b < T 0) (h : tOk R c r a b) : rowOk T (addT R c r a b) := by
  obtain ⟨t1, t2, t3, -⟩ := h
  have h12 := hT.1
  have h4 := hT.2.1
  refine ⟨by show R 0 + 1 ≤ 30; omega, fun k => ?_, fun t ht => ?_, fun k hk => by rw [addT_hi t2 (by omega)]; exact hr.2.2.2 k hk⟩
  · have := hr.2.1 k
    unfold addT
    repeat' split
    all_goals omega
  · have ht : t < R 0 + 1 := ht
    have ecd : ∀ c' r', cd (addT R c r a b) c' r' = cd R c' r' := fun c' r' => addT_hi t2 (by omega)
    by_cases e : t = R 0
    · subst e
      obtain ⟨n0, n1, n2, n3, n4⟩ := addT_new (R := R) (c := c) (r := r) (a := a) (b := b)
      unfold tieOk
      rw [n0, n1, n2, n3, n4, ecd]
      exact ⟨hc, hr', ha, hb, t1, by omega, fun g hg => by omega, fun _ => by omega, fun z => absurd z t3⟩
    · exact tie_congr (fun w hw => addT_old (by omega) hw) (fun z => Or.inl (by rw [ecd] at z; exact z)) (hr.2.2.1 t (by omega))
theorem c_addT {σ : Sg} {K : Sg → Prop} {T R : Nat → Nat} {c r a b : Nat} (hs : sea σ 55 R) (hr : rowOk T R) (h30 : R 0 < 30) (hK : ∀ τ : Sg, (∀ k, k < 55 ∨ 60 < k → τ k = σ k) → sea τ 55 (addT R c r a b) → τ 55 0 = nI (R 0 + 1) → K τ) : wp_X6_addTie 55 (nI c) (nI r) (nI a) (nI b) σ K := by
  obtain ⟨e0, e1, e2⟩ := hs
  unfold wp_X6_addTie
  simp (disch := omega) only [forall_eq, up_s, up_j, up_o, e0, vin_T, cl_I, true_and, nI_1]
  obtain ⟨n0, n1, n2, n3, n4⟩ := addT_new (R := R) (c := c) (r := r) (a := a) (b := b)
  refine hK _ (fun k hk => ?_) ⟨?_, fun j hj => ?_, fun t ht => ?_⟩ up_s
  · simp (disch := omega) only [up_o]
  · rw [up_s]; rfl
  · simp (disch := omega) only [up_o, up_j]
    rw [e1 j hj]
    by_cases q : j < 24
    · rw [addT_hi h30 (by omega)]
    · simp [q]
  · have ht : t < R 0 + 1 := ht
    by_cases e : t = R 0
    · subst e
      rw [n0, n1, n2, n3, n4]
      simp (disch := omega) only [up_o, up_s]
      exact ⟨trivial, trivial, trivial, trivial, rfl, fun g hg => by omega⟩
    · have h4 := (hr.2.2.1 t (by omega)).2.2.2.2.2.1
      obtain ⟨f1, f2, f3, f4, f5, f6⟩ := e2 t (by omega)
      rw [addT_old (by omega) (by omega), addT_old (by omega) (by omega), addT_old (by omega) (by omega), addT_old (by omega) (by omega), addT_old (by omega) (by omega)]
      simp (disch := omega) only [up_o, up_j]
      refine ⟨f1, f2, f3, f4, f5, fun g hg => ?_⟩
      have g1 : ga (addT R c r a b) t g = ga R t g := addT_old (by omega) (by omega)
      have g2 : wo (addT R c r a b) t g = wo R t g := addT_old (by omega) (by omega)
      rw [g1, g2]
      exact f6 g hg
