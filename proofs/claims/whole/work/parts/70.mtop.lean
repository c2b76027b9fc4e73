/-! THE REFERENCE'S reckoning: who is topped up; the whole; balances -/
section
variable {σ : Sg} {T R : Nat → Nat}
/-- what each club has of all -/
def mC (σ : Sg) (T R : Nat → Nat) (b : Nat) : Prop := σ 243 b = nI (aEx T R b) ∧ σ 244 b = nI (aAh T R b) ∧ σ 245 b = nI (aAg T R b) ∧ σ 246 b = nI (aGot T R b)
theorem m_hasK {K : Int32 → Sg → Prop} {b : Nat} (hb : b < 12) (h : mC σ T R b) : wp_X10_has (nI b) σ K = K (nI (aHas T R b)) σ := by
  obtain ⟨h1, h2, h3, h4⟩ := h
  unfold wp_X10_has
  rw [vin_T hb (by decide), cl_I (by omega), h1, h2, h3, h4, nI_add, nI_add, nI_add]
  simp only [true_and]
  rfl
theorem m_lacksK {K : Int32 → Sg → Prop} {b : Nat} (hT : toldOk T) (hr : rowOk T R) (hB : ∀ k, k < 106 → σ 234 k = nI (T k)) (hb : b < 12) (h : mC σ T R b) : wp_X10_lacks (nI b) σ K = K (nI (aLa T R b)) σ := by
  have bH := b_Has hT hr b
  have bg : tB T b 2 < 100000 := hT.2.2.1 _
  unfold wp_X10_lacks
  rw [L2, m_club hB hb (by decide), m_hasK hb h, br_iff (nI_leI (by omega) (by omega)), m_club hB hb (by decide), m_hasK hb h]
  unfold aLa
  by_cases q : tB T b 2 ≤ aHas T R b
  · rw [br_T q, show tB T b 2 - aHas T R b = 0 by omega]; rfl
  · rw [br_F q, pk_sub (by omega)]
theorem m_kept {K : Int32 → Sg → Prop} (hT : toldOk T) (h1 : σ 234 1 = nI (T 1)) (h : ∀ c, c < T 1 → σ 253 c = nI (pOn T R c 6)) (hK : K (nI (aKe T R)) σ) : wp_X10_allKept σ K := by
  have h4 := hT.2.1
  have main : ∀ d c, c + d = T 1 → b_X10_allKept_4 K (d + 1) (nI (su (fun c => pOn T R c 6) c)) (nI c) σ := by
    intro d
    induction d with
    | zero =>
      intro c hc
      have : c = T 1 := by omega
      subst this
      refine br_t ?_ hK
      rw [h1]; exact nI_le (Nat.le_refl _) (by omega)
    | succ d ih =>
      intro c hc
      refine br_f ?_ ?_
      · rw [h1]; exact nI_ge (by omega) (by omega)
      · rw [vin_T (by omega) (by decide), cl_I (by omega), true_and, h c (by omega), nI_add]
        intro v ev w ew
        rw [ev, ew, nI_1]
        exact ih (c + 1) (by omega)
  exact ⟨_, main (T 1) 0 (by omega)⟩
/-- how many are topped up -/
def cnz (P : Nat → Nat) (n : Nat) : Nat := su (fun b => if P b = 0 then 0 else 1) n
theorem cnz_up {P : Nat → Nat} {p v n : Nat} (hp : p < n) (h0 : P p = 0) (hv : v ≠ 0) : cnz (tUp P p v) n = cnz P n + 1 := by
  have e : cnz (tUp P p v) n = su (fun b => (if P b = 0 then 0 else 1) + (if p = b then 1 else 0)) n := by
    refine su_congr n (fun b _ => ?_)
    unfold tUp
    by_cases q : b = p
    · subst q
      rw [if_pos rfl, if_neg hv, if_pos h0, if_pos rfl]
    · rw [if_neg q, if_neg (show ¬ p = b from fun z => q z.symm)]
      rfl
  rw [e, su_add, su_one, if_pos hp]
  rfl
theorem cnz_le {P : Nat → Nat} (n : Nat) : cnz P n ≤ n := by
  have := su_bound (f := fun b => if P b = 0 then 0 else 1) (c := 1) n (fun i _ => by show (if _ then 0 else 1) ≤ 1; split <;> omega)
  unfold cnz
  omega
theorem m_pick {B : Int32 → Int32 → Sg → Prop} {K : Sg → Prop} {P : Nat → Nat} {lf : Int32} (h : mcore σ T R) (hC : ∀ b, b < T 0 → mC σ T R b) (hP : ∀ b, b < T 0 → σ 254 b = nI (P b)) (bP : ∀ b, P b < 100000) (hK : br (fd (tPick T R P (T 0)) = -1) (b_X10_top_109 B K lf (fd (tPick T R P (T 0))) σ) (wp_X10_lacks (fd (tPick T R P (T 0))) σ <| fun r93_ τ93 => (wp_X10_less lf r93_ τ93 <| fun r96_ τ96 => (vp_in (fd (tPick T R P (T 0))) 12 ∧ (∀ τ99 : Sg, τ99 = up τ96 254 (fd (tPick T R P (T 0))).toNatClampNeg r96_ → (vp_in (fd (tPick T R P (T 0))) 12 ∧ (∀ v108 : Int32, v108 = lf - (τ99 254 (fd (tPick T R P (T 0))).toNatClampNeg) → (b_X10_top_109 B K v108 (fd (tPick T R P (T 0))) τ99)))))))) : b_X10_top_24 B K (T 0 + 1) lf (-1) 0 σ := by
  have h12 := h.1.1
  have hT := h.1
  have main : ∀ d n, n + d = T 0 → b_X10_top_24 B K (d + 1) lf (fd (tPick T R P n)) (nI n) σ := by
    intro d
    induction d with
    | zero =>
      intro n hn
      have : n = T 0 := by omega
      subst this
      show br _ _ _
      rw [h.2.2.1 0 (by omega)]
      exact br_t (nI_le (Nat.le_refl _) (by omega)) hK
    | succ d ih =>
      intro n hn
      have bl := b_La (R := R) hT n
      have bp := bP n
      have hle := tPick_le (T := T) (R := R) P n
      have nx := ih (n + 1) (by omega)
      have no : ¬ ((0 < aLa T R n ∧ P n = 0) ∧ (tPick T R P n = 0 ∨ aLa T R n < aLa T R (tPick T R P n - 1))) → ∀ v : Int32, v = nI n + 1 → b_X10_top_24 B K (d + 1) lf (fd (tPick T R P n)) v σ := by
        intro q v ev
        rw [ev, nI_1]
        simp only [tPick] at nx
        rw [if_neg q] at nx
        exact nx
      have yes : ((0 < aLa T R n ∧ P n = 0) ∧ (tPick T R P n = 0 ∨ aLa T R n < aLa T R (tPick T R P n - 1))) → ∀ v : Int32, v = nI n + 1 → b_X10_top_24 B K (d + 1) lf (nI n) v σ := by
        intro q v ev
        rw [ev, nI_1]
        simp only [tPick] at nx
        rw [if_pos q, fd_s] at nx
        exact nx
      show br _ _ _
      rw [h.2.2.1 0 (by omega)]
      refine br_f (nI_ge (by omega) (by omega)) ?_
      rw [m_lacksK hT h.2.1 h.2.2.1 (by omega) (hC n (by omega)), vin_T (show n < 12 by omega) (by decide), cl_I (by omega), hP n (by omega), true_and, L0, br_iff (nI_leI (by omega) (by decide)), br_iff (nI_eq (by omega) (by decide))]
      refine ⟨fun q => no (fun z => by omega), fun q => ⟨fun q2 => ?_, fun q2 => no (fun z => by omega)⟩⟩
      rw [br_iff (fd_m (by omega))]
      refine ⟨fun q3 => yes ⟨⟨by omega, by omega⟩, Or.inl q3⟩, fun q3 => ?_⟩
      have ef : fd (tPick T R P n) = nI (tPick T R P n - 1) := if_neg q3
      have bl2 := b_La (R := R) hT (tPick T R P n - 1)
      rw [m_lacksK hT h.2.1 h.2.2.1 (by omega) (hC n (by omega))]
      have key : wp_X10_lacks (fd (tPick T R P n)) σ = wp_X10_lacks (nI (tPick T R P n - 1)) σ := by rw [ef]
      rw [key, m_lacksK hT h.2.1 h.2.2.1 (by omega) (hC (tPick T R P n - 1) (by omega)), br_iff (nI_leI (by omega) (by omega))]
      exact ⟨fun q4 => no (fun z => by rcases z.2 with y | y <;> omega), fun q4 => yes ⟨⟨by omega, by omega⟩, Or.inr (by omega)⟩⟩
  exact main (T 0) 0 (by omega)
theorem m_top {K : Sg → Prop} (h : mcore σ T R) (hC : ∀ b, b < T 0 → mC σ T R b) (hk : ∀ c, c < T 1 → σ 253 c = nI (pOn T R c 6)) (h0 : ∀ b, b < 12 → σ 254 b = 0) (hK : ∀ τ : Sg, (∀ k, k ≠ 254 → τ k = σ k) → (∀ b, b < 12 → τ 254 b = nI (aTop T R b)) → K τ) : wp_X10_top σ K := by
  have h12 := h.1.1
  have hT := h.1
  have bK := b_Ke h.1 h.2.1
  have stop : ∀ i τ, i ≤ T 0 → (∀ k, k ≠ 254 → τ k = σ k) → (∀ b, b < 12 → τ 254 b = nI ((tRun T R i).2 b)) → tStep T R (tRun T R i) = tRun T R i → K τ := by
    intro i τ hi f1 f3 q
    have e := tRun_fix q (T 0 - i)
    rw [show i + (T 0 - i) = T 0 by omega] at e
    refine hK τ f1 (fun b hb => ?_)
    rw [f3 b hb]
    unfold aTop
    rw [e]
  have main : ∀ d i τ, i + d = T 0 → 0 < (tRun T R i).1 → cnz (tRun T R i).2 (T 0) = i → (∀ k, k ≠ 254 → τ k = σ k) → (∀ b, b < 12 → τ 254 b = nI ((tRun T R i).2 b)) → b_X10_top_15 K (d + 2) (nI (tRun T R i).1) 1 τ := by
    intro d
    induction d with
    | zero =>
      intro i τ hi hpos hcn f1 f3
      have : i = T 0 := by omega
      subst this
      -- none is left
      have hz : tPick T R (tRun T R (T 0)).2 (T 0) = 0 := by
        apply Classical.byContradiction
        intro q
        have hle := tPick_le (T := T) (R := R) (tRun T R (T 0)).2 (T 0)
        have := cnz_up (P := (tRun T R (T 0)).2) (p := tPick T R (tRun T R (T 0)).2 (T 0) - 1) (v := 1) (n := T 0) (by omega) (tPick_p _ _ q).2 (by decide)
        have := cnz_le (P := tUp (tRun T R (T 0)).2 (tPick T R (tRun T R (T 0)).2 (T 0) - 1) 1) (T 0)
        omega
      have st := stop (T 0) τ (Nat.le_refl _) f1 f3 (by unfold tStep; rw [if_pos (Or.inr hz)])
      have hm : mcore τ T R := h.of (f1 234 (by decide)) (f1 236 (by decide))
      refine br_f (by decide) ⟨_, m_pick hm (fun b hb => ?_) (fun b hb => f3 b (by omega)) (tRun_b hT _) ?_⟩
      · have := hC b hb
        unfold mC at this ⊢
        rw [f1 243 (by decide), f1 244 (by decide), f1 245 (by decide), f1 246 (by decide)]
        exact this
      · rw [hz]
        refine br_t rfl (br_t rfl (br_t rfl st))
    | succ d ih =>
      intro i τ hi hpos hcn f1 f3
      have hm : mcore τ T R := h.of (f1 234 (by decide)) (f1 236 (by decide))
      have hC' : ∀ b, b < T 0 → mC τ T R b := fun b hb => by
        have := hC b hb
        unfold mC at this ⊢
        rw [f1 243 (by decide), f1 244 (by decide), f1 245 (by decide), f1 246 (by decide)]
        exact this
      have bl := tRun_le (T := T) (R := R) i
      have hle := tPick_le (T := T) (R := R) (tRun T R i).2 (T 0)
      have hpp := tPick_p (T := T) (R := R) (tRun T R i).2 (T 0)
      refine br_f (by decide) ⟨_, m_pick hm hC' (fun b hb => f3 b (by omega)) (tRun_b hT _) ?_⟩
      rw [br_iff (fd_m (by omega))]
      refine ⟨fun q2 => ?_, fun q2 => ?_⟩
      · have st := stop i τ (by omega) f1 f3 (by unfold tStep; rw [if_pos (Or.inr q2)])
        rw [q2]
        exact br_t rfl (br_t rfl st)
      · obtain ⟨pl, pz⟩ := hpp q2
        have e : tRun T R (i + 1) = ((tRun T R i).1 - min (tRun T R i).1 (aLa T R (tPick T R (tRun T R i).2 (T 0) - 1)), tUp (tRun T R i).2 (tPick T R (tRun T R i).2 (T 0) - 1) (min (tRun T R i).1 (aLa T R (tPick T R (tRun T R i).2 (T 0) - 1)))) := by
          show tStep T R (tRun T R i) = _
          unfold tStep
          rw [if_neg (by omega)]
        have hfd : fd (tPick T R (tRun T R i).2 (T 0)) = nI (tPick T R (tRun T R i).2 (T 0) - 1) := if_neg q2
        rw [hfd]
        have hp12 : tPick T R (tRun T R i).2 (T 0) - 1 < T 0 := by omega
        have bla := b_La (R := R) hT (tPick T R (tRun T R i).2 (T 0) - 1)
        have ihn := ih (i + 1)
        have stn := stop (i + 1)
        rw [e] at ihn stn
        generalize tPick T R (tRun T R i).2 (T 0) - 1 = p at *
        rw [m_lacksK hT h.2.1 hm.2.2.1 (by omega) (hC' p hp12), m_less (by omega) (by omega), vin_T (show p < 12 by omega) (by decide), cl_I (by omega), true_and]
        intro υ eu
        rw [true_and]
        intro y ey
        rw [eu, up_s, pk_sub (Nat.min_le_left _ _)] at ey
        rw [ey]
        have g1 : ∀ k, k ≠ 254 → υ k = σ k := fun k hk => by rw [eu, up_o hk]; exact f1 k hk
        have g3 : ∀ b, b < 12 → υ 254 b = nI (tUp (tRun T R i).2 p (min (tRun T R i).1 (aLa T R p)) b) := fun b hb => by
          unfold tUp
          by_cases z : b = p
          · subst z; rw [eu, up_s, if_pos rfl]
          · rw [eu, up_j z, if_neg z]; exact f3 b hb
        have hcn' := cnz_up (n := T 0) (v := min (tRun T R i).1 (aLa T R p)) hp12 pz (by omega)
        unfold b_X10_top_109
        refine br_f (fun z => nm1' (n := p) (by omega) z.symm) ?_
        rw [L0, br_iff (nI_leI (by omega) (by decide)), ← L0]
        refine ⟨fun z => br_t rfl (stn υ (by omega) g1 g3 ?_), fun z => ihn υ (by omega) ?_ (by rw [hcn', hcn]) g1 g3⟩
        · unfold tStep
          rw [if_pos (Or.inl (by omega))]
        · show 0 < (tRun T R i).1 - _
          omega
  unfold wp_X10_top
  refine m_kept hT (h.2.2.1 1 (by omega)) hk ?_
  have z0 : ∀ b, b < 12 → σ 254 b = nI ((tRun T R 0).2 b) := h0
  rw [L0, br_iff (nI_leI (by omega) (by decide)), ← L0]
  refine ⟨fun q => ⟨1, br_t rfl (stop 0 σ (by omega) (fun _ _ => rfl) z0 ?_)⟩, fun q => ⟨_, main (T 0) 0 σ (by omega) (by show 0 < aKe T R; omega) ?_ (fun _ _ => rfl) z0⟩⟩
  · unfold tStep
    rw [if_pos (Or.inl (show (tRun T R 0).1 = 0 by show aKe T R = 0; omega))]
  · exact su_zero (T 0) (fun b _ => rfl)
end
