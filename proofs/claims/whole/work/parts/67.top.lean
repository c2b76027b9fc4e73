/-! THE LEDGER: what each has and lacks, who is topped up; the whole -/
/-- c cups are settled -/
def sAl (σ τ : Sg) (T R : Nat → Nat) (c : Nat) : Prop := LF σ τ ∧ (∀ b, b < 12 → ∀ j, j ≠ 7 → τ (182 + b) j = σ (182 + b) j) ∧ τ 224 = σ 224 ∧ (∀ d, d < 4 → ∀ j, j ≠ 0 → τ (195 + d) j = σ (195 + d) j) ∧ (∀ d, d < c → τ (195 + d) 0 = nI (pOn T R d 6)) ∧ (∀ k, 6 * c ≤ k → k < 24 → τ (200 + k) = σ (200 + k)) ∧ (∀ d, d < c → ∀ s, s < 6 → ledP τ T R d s) ∧ (∀ b, b < 12 → τ (182 + b) 7 = nI (su (fun d => gC T R b d 6) c)) ∧ (∀ j, j < 4 → τ 226 j = σ 226 j) ∧ τ 226 4 = nI (su (fun d => su (fun s => pE T R d s * pM T R d s) 6) c) ∧ τ 226 5 = nI (su (fun d => pOn T R d 6) c)
section
variable {σ : Sg} {T R : Nat → Nat} {K : Sg → Prop}
theorem c_cups (h : ccore σ T R) (hl : lgA σ T R (R 0) 0 (R 0)) (hK : ∀ τ : Sg, sAl σ τ T R (T 1) → ∃ nf, b_X3_reckonAll_90 K nf 0 τ) : ∀ d c τ, c + d = T 1 → sAl σ τ T R c → b_X3_reckonAll_64 K (d + 1) (nI c) τ := by
  have h4 := h.1.2.1
  intro d
  induction d with
  | zero =>
    intro c τ hc hs
    have : c = T 1 := by omega
    subst this
    refine br_t ?_ (hK τ hs)
    rw [hs.1 3 (by omega), h.2.2.1.2.2.1]
    exact nI_le (Nat.le_refl _) (by omega)
  | succ d ih =>
    intro c τ hc hs
    have hck := h.l hs.1
    obtain ⟨a1, a2, a3, a4, a5, a6, a7, a8, a9, a10, a11⟩ := hs
    refine br_f ?_ ?_
    · rw [a1 3 (by omega), h.2.2.1.2.2.1]; exact nI_ge (by omega) (by omega)
    · refine c_settle (G0 := fun b => su (fun d => gC T R b d 6) c) (S0 := su (fun d => su (fun s => pE T R d s * pM T R d s) 6) c) (S5 := su (fun d => pOn T R d 6) c) hck (by omega) (fun k k1 k2 => ?_) a8 a10 a11 (fun υ f g1 g2 g3 g4 g5 v ev => ?_)
      · have := hl.2.2.1 k (by omega)
        unfold lgP at this ⊢
        rw [a6 k k1 (by omega)]
        exact this
      · rw [ev, nI_1]
        obtain ⟨f1, f2, f3, f4, f5, f6, f7⟩ := f
        refine ih (c + 1) υ (by omega) ⟨a1.tr f1, fun b hb j hj => by rw [f2 b hb j hj]; exact a2 b hb j hj, by rw [f3]; exact a3, fun d hd j hj => ?_, fun d hd => ?_, fun k k1 k2 => by rw [f6 k k2 (by omega)]; exact a6 k (by omega) k2, fun d hd s hs => ?_, g2, fun j hj => by rw [f7 j hj]; exact a9 j hj, g3, g4⟩
        · by_cases q : d = c
          · subst q; rw [f5 j hj]; exact a4 d hd j hj
          · rw [f4 d hd q]; exact a4 d hd j hj
        · by_cases q : d = c
          · subst q; exact g5
          · rw [f4 d (by omega) q]; exact a5 d (by omega)
        · by_cases q : d = c
          · subst q; exact g1 s hs
          · have := a7 d (by omega) s hs
            unfold ledP at this ⊢
            rw [f6 (6 * d + s) (by omega) (by omega)]
            exact this
/-- n clubs are summed up -/
def sUp (σ τ : Sg) (T R : Nat → Nat) (n : Nat) : Prop := LF σ τ ∧ (∀ b, b < 12 → ∀ j, j ≠ 3 → j ≠ 8 → τ (182 + b) j = σ (182 + b) j) ∧ (∀ k, 194 ≤ k → k ≠ 225 → τ k = σ k) ∧ ∀ b, b < n → τ (182 + b) 3 = nI (aHas T R b) ∧ τ (182 + b) 8 = nI (aLa T R b) ∧ τ 225 b = nI (aHas T R b) - nI (aGa R b)
theorem c_sums (h : ccore σ T R) (hl : ∀ b, b < T 0 → σ (182 + b) 4 = nI (aEx T R b) ∧ σ (182 + b) 5 = nI (aAh T R b) ∧ σ (182 + b) 6 = nI (aAg T R b) ∧ σ (182 + b) 7 = nI (aGot T R b) ∧ σ 224 b = nI (aGa R b)) (hK : ∀ τ : Sg, sUp σ τ T R (T 0) → ∀ υ : Sg, υ = up τ 225 (T 0) (τ 226 3 - τ 226 4) → wp_X3_topUp (nI (T 0)) υ (fun ω => ∀ ω' : Sg, ω' = up ω 180 6 1 → K ω')) : ∀ d n τ, n + d = T 0 → sUp σ τ T R n → b_X3_reckonAll_90 K (d + 1) (nI n) τ := by
  have h12 := h.1.1
  intro d
  induction d with
  | zero =>
    intro n τ hn hs
    have : n = T 0 := by omega
    subst this
    have e3 : τ 3 0 = nI (T 0) := by rw [hs.1 3 (by omega)]; exact h.2.2.1.2.1
    refine br_t (by rw [e3]; exact nI_le (Nat.le_refl _) (by omega)) ?_
    rw [e3, vin_T (by omega) (by decide), cl_I (by omega), true_and]
    intro υ e
    rw [show υ 3 0 = nI (T 0) by rw [e, up_o (by omega)]; exact e3]
    exact hK τ hs υ e
  | succ d ih =>
    intro n τ hn hs
    have hck := h.l hs.1
    have e3 : τ 3 0 = nI (T 0) := hck.2.2.1.2.1
    obtain ⟨a1, a2, a3, a4⟩ := hs
    obtain ⟨l4, l5, l6, l7, l24⟩ := hl n (by omega)
    have bH := b_Has h.1 h.2.1 n
    have eg : τ (5 + n) 2 = nI (tB T n 2) := hck.2.2.1.2.2.2.1 n (by omega) 2 (by omega)
    have bg : tB T n 2 < 100000 := h.1.2.2.1 _
    refine br_f (by rw [e3]; exact nI_ge (by omega) (by omega)) ?_
    unfold wp_X3_sumUp
    simp (disch := omega) only [vin_T, cl_I, true_and]
    intro τ1 e1 τ2 e2 τ3 e3' v ev
    rw [ev, nI_1]
    have e1 : τ1 = up τ (182 + n) 3 (nI (aHas T R n)) := by
      rw [e1]
      show up τ (182 + n) 3 (τ (182 + n) 4 + τ (182 + n) 5 + τ (182 + n) 6 + τ (182 + n) 7) = _
      rw [a2 n (by omega) 4 (by decide) (by decide), a2 n (by omega) 5 (by decide) (by decide), a2 n (by omega) 6 (by decide) (by decide), a2 n (by omega) 7 (by decide) (by decide), l4, l5, l6, l7, nI_add, nI_add, nI_add]
      rfl
    have e2 : τ2 = up τ1 (182 + n) 8 (nI (aLa T R n)) := by
      rw [e2]
      show up τ1 (182 + n) 8 (if (0 : Int32) < τ1 (5 + n) 2 - τ1 (182 + n) 3 then τ1 (5 + n) 2 - τ1 (182 + n) 3 else (0 : Int32)) = _
      rw [e1, up_s, up_o (by omega), eg, tsubI (by omega) (by omega)]
      rfl
    have e3' : τ3 = up τ2 225 n (nI (aHas T R n) - nI (aGa R n)) := by
      rw [e3']
      show up τ2 225 n (τ2 (182 + n) 3 - τ2 224 n) = _
      rw [e2, up_j (by decide), up_o (show 224 ≠ 182 + n by omega), e1, up_s, up_o (by omega), a3 224 (by omega) (by omega), l24]
    have o : ∀ k, k ≠ 182 + n → k ≠ 225 → τ3 k = τ k := fun k k1 k2 => by rw [e3', up_o k2, e2, up_o k1, e1, up_o k1]
    refine ih (n + 1) τ3 (by omega) ⟨fun k hk => by rw [o k (by omega) (by omega)]; exact a1 k hk, fun b hb j j3 j8 => ?_, fun k k1 k2 => by rw [o k (by omega) k2]; exact a3 k k1 k2, fun b hb => ?_⟩
    · by_cases q : b = n
      · subst q
        rw [e3', up_o (by omega), e2, up_j j8, e1, up_j j3]; exact a2 b hb j j3 j8
      · rw [o _ (by omega) (by omega)]; exact a2 b hb j j3 j8
    · by_cases q : b = n
      · subst q
        refine ⟨?_, ?_, ?_⟩
        · rw [e3', up_o (by omega), e2, up_j (by decide), e1, up_s]
        · rw [e3', up_o (by omega), e2, up_s]
        · rw [e3', up_s]
      · obtain ⟨c1, c2, c3⟩ := a4 b (by omega)
        refine ⟨by rw [o _ (by omega) (by omega)]; exact c1, by rw [o _ (by omega) (by omega)]; exact c2, ?_⟩
        rw [e3', up_j q, e2, up_o (by omega), e1, up_o (by omega)]; exact c3
/-- found: none, or a club -/
def fd (p : Nat) : Int32 := if p = 0 then -1 else nI (p - 1)
theorem fd_0 : fd 0 = -1 := rfl
theorem fd_s (n : Nat) : fd (n + 1) = nI n := rfl
theorem fd_m {p : Nat} (hp : p < 2 ^ 31) : fd p = -1 ↔ p = 0 := by
  constructor
  · intro h
    apply Classical.byContradiction
    intro q
    unfold fd at h
    rw [if_neg q] at h
    exact nm1' (n := p - 1) (by omega) h.symm
  · intro h; subst h; rfl
theorem tPick_le (P : Nat → Nat) : ∀ n, tPick T R P n ≤ n
  | 0 => Nat.le_refl _
  | n + 1 => by
    have := tPick_le P n
    simp only [tPick]
    split <;> omega
theorem tPick_p (P : Nat → Nat) : ∀ n, tPick T R P n ≠ 0 → 0 < aLa T R (tPick T R P n - 1) ∧ P (tPick T R P n - 1) = 0
  | 0, h => absurd rfl h
  | n + 1, h => by
    have ih := tPick_p P n
    simp only [tPick] at h ⊢
    split
    · rename_i q; exact q.1
    · rename_i q; rw [if_neg q] at h; exact ih h
theorem c_pick (h12 : T 0 ≤ 12) (hT : toldOk T) {P : Nat → Nat} {x : Int32} (h8 : ∀ b, b < T 0 → σ (182 + b) 8 = nI (aLa T R b)) (hx : ∀ b, b < T 0 → (bt x b = true ↔ P b ≠ 0)) {K : Int32 → Sg → Prop} (hK : K (fd (tPick T R P (T 0))) σ) : wp_X3_leastLacking (nI (T 0)) x σ K := by
  have main : ∀ d n, n + d = T 0 → b_X3_leastLacking_5 (nI (T 0)) x K (d + 1) (fd (tPick T R P n)) (nI n) σ := by
    intro d
    induction d with
    | zero =>
      intro n hn
      have : n = T 0 := by omega
      subst this
      exact br_t (nI_le (Nat.le_refl _) (by omega)) hK
    | succ d ih =>
      intro n hn
      have hn12 : n < 12 := by omega
      have bl := b_La (R := R) hT n
      have hle := tPick_le (T := T) (R := R) P n
      have nx := ih (n + 1) (by omega)
      refine br_f (nI_ge (by omega) (by omega)) ?_
      rw [vin_T (by omega) (by decide), cl_I (by omega), true_and, show 181 + 1 + n = 182 + n from rfl, h8 n (by omega), L0, br_iff (nI_leI (by omega) (by decide)), ← L0, br_iff (bt_test0 (by omega)), br_iff (not_congr (hx n (by omega)))]
      have no : ¬ ((0 < aLa T R n ∧ P n = 0) ∧ (tPick T R P n = 0 ∨ aLa T R n < aLa T R (tPick T R P n - 1))) → ∀ v : Int32, v = nI n + 1 → b_X3_leastLacking_5 (nI (T 0)) x K (d + 1) (fd (tPick T R P n)) v σ := by
        intro q v ev
        rw [ev, nI_1]
        simp only [tPick] at nx
        rw [if_neg q] at nx
        exact nx
      have yes : ((0 < aLa T R n ∧ P n = 0) ∧ (tPick T R P n = 0 ∨ aLa T R n < aLa T R (tPick T R P n - 1))) → ∀ v : Int32, v = nI n + 1 → b_X3_leastLacking_5 (nI (T 0)) x K (d + 1) (nI n) v σ := by
        intro q v ev
        rw [ev, nI_1]
        simp only [tPick] at nx
        rw [if_pos q, fd_s] at nx
        exact nx
      refine ⟨fun q => ?_, fun q => ⟨fun q2 => ?_, fun q2 => ?_⟩⟩
      · exact br_t rfl (no (fun z => by omega))
      · refine br_f (by decide) ?_
        rw [br_iff (fd_m (by omega))]
        refine ⟨fun q3 => yes ⟨⟨by omega, by omega⟩, Or.inl q3⟩, fun q3 => ?_⟩
        have ef : fd (tPick T R P n) = nI (tPick T R P n - 1) := if_neg q3
        have bl2 := b_La (R := R) hT (tPick T R P n - 1)
        have nx' := no
        have h8' := h8 (tPick T R P n - 1) (by omega)
        rw [vin_T (by omega) (by decide), cl_I (by omega), true_and, ef, vin_T (by omega) (by decide), cl_I (by omega), true_and, show 181 + 1 + n = 182 + n from rfl, show 181 + 1 + (tPick T R P n - 1) = 182 + (tPick T R P n - 1) from rfl, h8 n (by omega), h8', br_iff (nI_leI (by omega) (by omega))]
        refine ⟨fun q4 => ?_, fun q4 => yes ⟨⟨by omega, by omega⟩, Or.inr (by omega)⟩⟩
        rw [← ef]
        exact no (fun z => by rcases z.2 with y | y <;> omega)
      · exact br_t rfl (no (fun z => by omega))
  exact ⟨_, main (T 0) 0 (by omega)⟩
/-- nothing more to do: all later steps are the same -/
theorem tRun_fix {n : Nat} (h : tStep T R (tRun T R n) = tRun T R n) : ∀ d, tRun T R (n + d) = tRun T R n
  | 0 => rfl
  | d + 1 => by
    show tStep T R (tRun T R (n + d)) = _
    rw [tRun_fix h d, h]
theorem tRun_le (n : Nat) : (tRun T R n).1 ≤ aKe T R := by
  induction n with
  | zero => exact Nat.le_refl _
  | succ n ih =>
    show (tStep T R (tRun T R n)).1 ≤ _
    unfold tStep
    split
    · exact ih
    · show (tRun T R n).1 - _ ≤ _
      omega
theorem tRun_in (n : Nat) : ∀ b, (tRun T R n).2 b ≠ 0 → b < T 0 := by
  induction n with
  | zero => intro b h; exact absurd rfl h
  | succ n ih =>
    intro b
    have hle := tPick_le (T := T) (R := R) (tRun T R n).2 (T 0)
    show (tStep T R (tRun T R n)).2 b ≠ 0 → _
    unfold tStep
    split
    · exact ih b
    · rename_i q
      show tUp _ _ _ b ≠ 0 → _
      unfold tUp
      split
      · intro _; omega
      · exact ih b
theorem tRun_b (hT : toldOk T) (n : Nat) : ∀ b, (tRun T R n).2 b < 100000 := by
  induction n with
  | zero => intro b; show 0 < 100000; omega
  | succ n ih =>
    intro b
    show (tStep T R (tRun T R n)).2 b < _
    unfold tStep
    split
    · exact ih b
    · show tUp _ _ _ b < _
      unfold tUp
      have := b_La (R := R) hT (tPick T R (tRun T R n).2 (T 0) - 1)
      split
      · omega
      · exact ih b
theorem c_top (hT : toldOk T) (hr : rowOk T R) (h8 : ∀ b, b < T 0 → σ (182 + b) 8 = nI (aLa T R b)) (h9 : ∀ b, b < 12 → σ (182 + b) 9 = 0) (h5 : σ 226 5 = nI (aKe T R)) (hK : ∀ τ : Sg, (∀ k, ¬ (182 ≤ k ∧ k < 194) → τ k = σ k) → (∀ b, b < 12 → ∀ j, j ≠ 9 → τ (182 + b) j = σ (182 + b) j) → (∀ b, b < 12 → τ (182 + b) 9 = nI (aTop T R b)) → K τ) : wp_X3_topUp (nI (T 0)) σ K := by
  have h12 := hT.1
  have bK := b_Ke hT hr
  have main : ∀ d i τ (x : Int32), i + d = T 0 → (∀ k, ¬ (182 ≤ k ∧ k < 194) → τ k = σ k) → (∀ b, b < 12 → ∀ j, j ≠ 9 → τ (182 + b) j = σ (182 + b) j) → (∀ b, b < 12 → τ (182 + b) 9 = nI ((tRun T R i).2 b)) → (∀ b, b < 32 → (bt x b = true ↔ (tRun T R i).2 b ≠ 0)) → b_X3_topUp_12 (nI (T 0)) K (d + 1) (nI (tRun T R i).1) x (nI i) τ := by
    intro d
    induction d with
    | zero =>
      intro i τ x hi f1 f2 f3 f4
      have : i = T 0 := by omega
      subst this
      exact br_t (nI_le (Nat.le_refl _) (by omega)) (hK τ f1 f2 f3)
    | succ d ih =>
      intro i τ x hi f1 f2 f3 f4
      have bl := tRun_le (T := T) (R := R) i
      refine br_f (nI_ge (by omega) (by omega)) ?_
      rw [L0, br_iff (nI_leI (by omega) (by decide))]
      have stop : tStep T R (tRun T R i) = tRun T R i → K τ := fun q => by
        have e := tRun_fix q (T 0 - i)
        rw [show i + (T 0 - i) = T 0 by omega] at e
        refine hK τ f1 f2 (fun b hb => ?_)
        rw [f3 b hb]
        unfold aTop
        rw [e]
      refine ⟨fun q => stop (by unfold tStep; rw [if_pos (Or.inl (by omega))]), fun q => ?_⟩
      refine c_pick (P := (tRun T R i).2) h12 hT (fun b hb => by rw [f2 b (by omega) 8 (by decide)]; exact h8 b hb) (fun b hb => f4 b (by omega)) ?_
      have hle := tPick_le (T := T) (R := R) (tRun T R i).2 (T 0)
      have hpp := tPick_p (T := T) (R := R) (tRun T R i).2 (T 0)
      rw [br_iff (fd_m (by omega))]
      refine ⟨fun q2 => ?_, fun q2 => ?_⟩
      · intro v ev
        rw [ev, nI_1]
        have e : tRun T R (i + 1) = tRun T R i := by
          show tStep T R (tRun T R i) = _
          unfold tStep
          rw [if_pos (Or.inr q2)]
        have := ih (i + 1) τ x (by omega) f1 f2 (by rw [e]; exact f3) (by rw [e]; exact f4)
        rw [e] at this
        exact this
      · obtain ⟨pl, pz⟩ := hpp q2
        have e : tRun T R (i + 1) = ((tRun T R i).1 - min (tRun T R i).1 (aLa T R (tPick T R (tRun T R i).2 (T 0) - 1)), tUp (tRun T R i).2 (tPick T R (tRun T R i).2 (T 0) - 1) (min (tRun T R i).1 (aLa T R (tPick T R (tRun T R i).2 (T 0) - 1)))) := by
          show tStep T R (tRun T R i) = _
          unfold tStep
          rw [if_neg (by omega)]
        rw [show fd (tPick T R (tRun T R i).2 (T 0)) = nI (tPick T R (tRun T R i).2 (T 0) - 1) from if_neg q2]
        have hp12 : tPick T R (tRun T R i).2 (T 0) - 1 < T 0 := by omega
        have bla := b_La (R := R) hT (tPick T R (tRun T R i).2 (T 0) - 1)
        have ihn := ih (i + 1)
        rw [e] at ihn
        generalize tPick T R (tRun T R i).2 (T 0) - 1 = p at *
        have e8 : τ (182 + p) 8 = nI (aLa T R p) := by rw [f2 p (by omega) 8 (by decide)]; exact h8 p hp12
        intro x' ex
        simp (disch := omega) only [vin_T, cl_I, true_and]
        intro υ eu y ey v ev
        have eu : υ = up τ (182 + p) 9 (nI (min (tRun T R i).1 (aLa T R p))) := by
          rw [eu]
          show up τ (182 + p) 9 (if τ (182 + p) 8 < nI (tRun T R i).1 then τ (182 + p) 8 else nI (tRun T R i).1) = _
          rw [e8, minI (by omega) (by omega), Nat.min_comm]
        have ey : y = nI ((tRun T R i).1 - min (tRun T R i).1 (aLa T R p)) := by
          rw [ey]
          show nI (tRun T R i).1 - υ (182 + p) 9 = _
          rw [eu, up_s, pk_sub (Nat.min_le_left _ _)]
        rw [ey, ev, nI_1]
        refine ihn υ x' (by omega) (fun k hk => by rw [eu, up_o (by omega)]; exact f1 k hk) (fun b hb j hj => ?_) (fun b hb => ?_) (fun b hb => ?_)
        · by_cases z : b = p
          · subst z; rw [eu, up_j hj]; exact f2 b hb j hj
          · rw [eu, up_o (by omega)]; exact f2 b hb j hj
        · show _ = nI (tUp _ _ _ b)
          unfold tUp
          by_cases z : b = p
          · subst z; rw [eu, up_s, if_pos rfl]
          · rw [eu, up_o (by omega), if_neg z]; exact f3 b hb
        · show _ ↔ tUp _ _ _ b ≠ 0
          rw [ex, bt_or, bt_sh p (by omega) b hb, Bool.or_eq_true, f4 b hb, decide_eq_true_eq]
          unfold tUp
          by_cases z : b = p
          · rw [if_pos z]
            have : min (tRun T R i).1 (aLa T R p) ≠ 0 := by omega
            exact ⟨fun _ => this, fun _ => Or.inr z⟩
          · rw [if_neg z]
            exact ⟨fun y => y.resolve_right z, Or.inl⟩
  unfold wp_X3_topUp
  intro v ev
  rw [ev, h5]
  refine ⟨_, main (T 0) 0 σ 0 (by omega) (fun _ _ => rfl) (fun _ _ _ _ => rfl) h9 (fun b hb => ?_)⟩
  rw [bt_0]
  exact ⟨fun z => absurd z (by decide), fun z => absurd rfl z⟩
theorem c_all (h : ccore σ T R) (hK : ∀ τ : Sg, LF σ τ → led τ T R → τ 180 6 = 1 → K τ) : wp_X3_reckonAll σ K := by
  have h12 := h.1.1
  have h4 := h.1.2.1
  unfold wp_X3_reckonAll
  refine c_clear (fun τ0 f0 z1 z2 z3 z4 z5 => ?_)
  have hc0 := h.l f0
  refine ⟨_, c_ties hc0 (fun τ1 f1 l1 => ?_) (R 0) 0 τ0 (by omega) (LF.rf τ0) (lgA_0 z1 z2 z3 z4 z5)⟩
  have hc1 := hc0.l f1
  refine ⟨_, c_cups hc1 l1 (fun τ2 s2 => ?_) (T 1) 0 τ1 (by omega) ⟨LF.rf τ1, fun _ _ _ _ => rfl, rfl, fun _ _ _ _ => rfl, fun d hd => by omega, fun _ _ _ => rfl, fun d hd => by omega, fun b hb => (l1.1 b hb).2.2.2.2.2.2.1, fun _ _ => rfl, l1.2.2.2.2.2.2.2.1, l1.2.2.2.2.2.2.2.2⟩⟩
  obtain ⟨a1, a2, a3, a4, a5, a6, a7, a8, a9, a10, a11⟩ := s2
  have hc2 := hc1.l a1
  refine ⟨_, c_sums hc2 (fun b hb => ?_) (fun τ3 s3 τ4 e4 => ?_) (T 0) 0 τ2 (by omega) ⟨LF.rf τ2, fun _ _ _ _ _ => rfl, fun _ _ _ => rfl, fun b hb => by omega⟩⟩
  · obtain ⟨b4, b5, b6, b10, b11, b24, b7, b9⟩ := l1.1 b (by omega)
    exact ⟨by rw [a2 b (by omega) 4 (by decide)]; exact b4, by rw [a2 b (by omega) 5 (by decide)]; exact b5, by rw [a2 b (by omega) 6 (by decide)]; exact b6, a8 b (by omega), by rw [a3]; exact b24⟩
  · obtain ⟨u1, u2, u3, u4⟩ := s3
    have o4 : ∀ k, k ≠ 225 → τ4 k = τ3 k := fun k hk => by rw [e4, up_o hk]
    have x3 : τ3 226 = τ2 226 := u3 226 (by omega) (by omega)
    refine c_top h.1 h.2.1 (fun b hb => by rw [o4 _ (by omega)]; exact (u4 b hb).2.1) (fun b hb => ?_) (by rw [o4 226 (by omega), x3]; exact a11) (fun τ5 v1 v2 v3 τ6 e6 => ?_)
    · rw [o4 _ (by omega), u2 b hb 9 (by decide) (by decide), a2 b hb 9 (by decide)]
      exact (l1.1 b hb).2.2.2.2.2.2.2
    · have o6 : ∀ k, k ≠ 180 → τ6 k = τ5 k := fun k hk => by rw [e6, up_o hk]
      have oL : ∀ k, 194 ≤ k → k ≠ 225 → τ6 k = τ2 k := fun k k1 k2 => by rw [o6 k (by omega), v1 k (by omega), o4 k k2, u3 k k1 k2]
      have oC : ∀ b, b < 12 → ∀ j, j ≠ 3 → j ≠ 7 → j ≠ 8 → j ≠ 9 → τ6 (182 + b) j = τ1 (182 + b) j := fun b hb j j3 j7 j8 j9 => by
        rw [o6 _ (by omega), v2 b hb j j9, o4 _ (by omega), u2 b hb j j3 j8, a2 b hb j j7]
      have oU : ∀ b, b < 12 → ∀ j, j ≠ 9 → τ6 (182 + b) j = τ3 (182 + b) j := fun b hb j j9 => by
        rw [o6 _ (by omega), v2 b hb j j9, o4 _ (by omega)]
      have o225 : τ6 225 = τ4 225 := by rw [o6 _ (by omega), v1 225 (by omega)]
      refine hK τ6 (fun k hk => ?_) ⟨fun b hb => ?_, fun c hc r hr => ?_, fun c hc => ?_, ?_⟩ (by rw [e6, up_s])
      · rw [o6 k (by omega), v1 k (by omega), o4 k (by omega), u1 k hk, a1 k hk, f1 k hk, f0 k hk]
      · obtain ⟨b4, b5, b6, b10, b11, b24, b7, b9⟩ := l1.1 b (by omega)
        obtain ⟨c1, c2, c3⟩ := u4 b hb
        refine ⟨?_, ?_, ?_, ?_, ?_, ?_, ?_, ?_, ?_, ?_⟩
        · rw [oU b (by omega) 3 (by decide)]; exact c1
        · rw [oC b (by omega) 4 (by decide) (by decide) (by decide) (by decide)]; exact b4
        · rw [oC b (by omega) 5 (by decide) (by decide) (by decide) (by decide)]; exact b5
        · rw [oC b (by omega) 6 (by decide) (by decide) (by decide) (by decide)]; exact b6
        · rw [oU b (by omega) 7 (by decide), u2 b (by omega) 7 (by decide) (by decide)]; exact a8 b (by omega)
        · rw [oU b (by omega) 8 (by decide)]; exact c2
        · rw [o6 _ (by omega)]; exact v3 b (by omega)
        · rw [oC b (by omega) 10 (by decide) (by decide) (by decide) (by decide)]; exact b10
        · rw [oC b (by omega) 11 (by decide) (by decide) (by decide) (by decide)]; exact b11
        · rw [o225, e4, up_j (by omega)]; exact c3
      · have := a7 c hc r hr
        unfold ledP at this ⊢
        rw [oL _ (by omega) (by omega)]
        exact this
      · obtain ⟨d1, d2⟩ := l1.2.1 c (by omega)
        unfold ledU
        rw [oL _ (by omega) (by omega)]
        exact ⟨a5 c hc, by rw [a4 c (by omega) 1 (by decide)]; exact d1, by rw [a4 c (by omega) 2 (by decide)]; exact d2⟩
      · obtain ⟨d0, d1, d2, d3, -, -⟩ := l1.2.2.2
        unfold ledT
        rw [oL 226 (by omega) (by omega), o225, e4, up_s, x3, a9 0 (by omega), a9 1 (by omega), a9 2 (by omega), a9 3 (by omega)]
        refine ⟨d0, d1, d2, d3, a10, a11, ?_⟩
        rw [d3, a10]; rfl
end
/-- reckon: the ledger is right behind it -/
theorem c_rk {σ : Sg} {n : Nat} {B T R : Nat → Nat} {m nx : Nat} {U : Nat → Nat → Nat} {kb : Nat → Nat} {V : Nat → Nat → Nat} {K : Sg → Prop} (h : In σ n B T R m nx U kb V) (hK : ∀ τ : Sg, LF σ τ → In τ n B T R m nx U kb V → led τ T R → K τ) : wp_X9_reckon σ K := by
  unfold wp_X9_reckon
  refine ⟨fun q => ?_, fun q => ?_⟩
  · refine c_all h.2.2.1.c (fun τ f hl h6 => hK τ f (h.q ?_ (by rw [h6]; exact isZ_1) (fun _ => hl)) hl)
    exact ⟨fun k hk => f k (by omega), fun k a b c => f k (by omega), by rw [f 233 (by omega)], by rw [f 233 (by omega)], by rw [f 233 (by omega)], by rw [f 233 (by omega)], by rw [f 229 (by omega)], by rw [f 229 (by omega)]⟩
  · exact hK σ (LF.rf σ) h (h.2.2.2.2.2.1.2.2 (h.2.2.2.2.2.1.2.1.resolve_left q))
