/-! DEEDS, read by both -/
noncomputable def nmS (B : Nat → Nat) (n : Nat) (p : Nat × Nat) (E : Nat → Nat) (at' : Nat) : Nat → (Nat × Nat) × (Nat → Nat)
  | 0 => (p, E)
  | i + 1 => (nS B n 0 100000 (nmS B n p E at' i).1, tUp (nmS B n p E at' i).2 (at' + i) (nV B n 0 100000 (nmS B n p E at' i).1))
noncomputable def wonS (B : Nat → Nat) (n at' : Nat) (q : (Nat × Nat) × (Nat → Nat)) : (Nat × Nat) × (Nat → Nat) := ic (wB B n 2 q.1) (wS B n 2 q.1, tUp q.2 at' 0) (ic (wB B n 11 q.1) (wS B n 11 q.1, tUp q.2 at' 1) (ic (wB B n 12 q.1) (wS B n 12 q.1, tUp q.2 at' 2) (ic (q.1.1 = 0) ((1, q.1.2), q.2) q)))
noncomputable def deedS (B : Nat → Nat) (n s : Nat) (E : Nat → Nat) (m : Nat) : (Nat × Nat) × (Nat → Nat) :=
  ic (wm B n 9 s) (nmS B n (0, nx B n s) (tUp E (5 * m) 0) (5 * m + 1) 4) (ic (wm B n 10 s) (wonS B n (5 * m + 3) (nmS B n (0, nx B n s) (tUp E (5 * m) 1) (5 * m + 1) 2)) (ic (wm B n 13 s) (nmS B n (0, nx B n s) (tUp E (5 * m) 2) (5 * m + 1) 2) ((1, s), E)))
section
variable {B E : Nat → Nat} {n s at' : Nat} {p : Nat × Nat}
theorem nmS_bad {i : Nat} (h : (nmS B n p E at' i).1.1 ≠ 0) : ∀ d, (nmS B n p E at' (i + d)).1 = (nmS B n p E at' i).1
  | 0 => rfl
  | d + 1 => by
    have ih := nmS_bad h d
    show nS B n 0 100000 (nmS B n p E at' (i + d)).1 = _
    rw [ih, nS_bad h]
theorem nmS_E : ∀ i j, ¬ (at' ≤ j ∧ j < at' + i) → (nmS B n p E at' i).2 j = E j
  | 0, _, _ => rfl
  | i + 1, j, h => by
    show tUp _ (at' + i) _ j = _
    rw [tUp_n (by omega)]
    exact nmS_E i j (by omega)
theorem nmS_p (hp : p.2 ≤ n) : ∀ i, (nmS B n p E at' i).1.1 = 0 → p.1 = 0 ∧ p.2 ≤ (nmS B n p E at' i).1.2 ∧ (nmS B n p E at' i).1.2 ≤ n ∧ (St B n p.2 → St B n (nmS B n p E at' i).1.2)
  | 0, h => ⟨h, Nat.le_refl _, hp, fun z => z⟩
  | i + 1, h => by
    have h : (nS B n 0 100000 (nmS B n p E at' i).1).1 = 0 := h
    obtain ⟨z, -⟩ := nS_p h
    obtain ⟨a1, a2, a3, a4⟩ := nmS_p hp i z
    obtain ⟨b1, b2, b3, b4, b5⟩ := nS_q h a3
    exact ⟨a1, Nat.le_trans a2 b4, b5.1, fun _ => b5⟩
/-- two signs a number, but for the last -/
theorem nmS_l (hp : p.2 ≤ n) : ∀ i, (nmS B n p E at' (i + 1)).1.1 = 0 → p.2 + 2 * i ≤ (nmS B n p E at' i).1.2 ∧ kk B n (nmS B n p E at' i).1.2 = 3
  | 0, h => by
    have h : (nS B n 0 100000 (nmS B n p E at' 0).1).1 = 0 := h
    obtain ⟨-, o, -⟩ := nS_p h
    exact ⟨by show p.2 + 0 ≤ p.2; omega, o.1⟩
  | i + 1, h => by
    have h : (nS B n 0 100000 (nmS B n p E at' (i + 1)).1).1 = 0 := h
    obtain ⟨z, o, -⟩ := nS_p h
    obtain ⟨c1, c2⟩ := nmS_l hp i z
    have z' : (nS B n 0 100000 (nmS B n p E at' i).1).1 = 0 := z
    obtain ⟨y, -, e, -⟩ := nS_p z'
    obtain ⟨-, -, a3, -⟩ := nmS_p (E := E) (at' := at') hp i y
    have ee : (nmS B n p E at' (i + 1)).1.2 = nx B n (nmS B n p E at' i).1.2 := by
      show (nS B n 0 100000 (nmS B n p E at' i).1).2 = _
      rw [e]
    rw [ee] at o ⊢
    have g := nx_gt a3 c2 o.1
    have eb := (en_b (B := B) a3).2.2 (by
      apply Classical.byContradiction
      intro w
      rw [kk_ge w] at c2
      omega)
    exact ⟨by omega, o.1⟩
theorem nmS_l2 (hp : p.2 ≤ n) {i : Nat} (h : (nmS B n p E at' (i + 1)).1.1 = 0) : p.2 + 2 * i + 1 ≤ (nmS B n p E at' (i + 1)).1.2 := by
  obtain ⟨c1, c2⟩ := nmS_l hp i h
  have h' : (nS B n 0 100000 (nmS B n p E at' i).1).1 = 0 := h
  obtain ⟨y, -, e, -⟩ := nS_p h'
  obtain ⟨-, -, a3, -⟩ := nmS_p (E := E) (at' := at') hp i y
  have ee : (nmS B n p E at' (i + 1)).1.2 = nx B n (nmS B n p E at' i).1.2 := by
    show (nS B n 0 100000 (nmS B n p E at' i).1).2 = _
    rw [e]
  rw [ee]
  have g := nx_ge (B := B) a3
  have eb := (en_b (B := B) a3).2.2 (by
    apply Classical.byContradiction
    intro w
    rw [kk_ge w] at c2
    omega)
  omega
theorem wonS_p {q : (Nat × Nat) × (Nat → Nat)} (hp : q.1.2 ≤ n) (h : (wonS B n at' q).1.1 = 0) : q.1.1 = 0 ∧ q.1.2 ≤ (wonS B n at' q).1.2 ∧ St B n (wonS B n at' q).1.2 ∧ ∃ v, v ≤ 2 ∧ (wonS B n at' q).2 = tUp q.2 at' v := by
  unfold wonS at h ⊢
  have go : ∀ i v, v ≤ 2 → wB B n i q.1 → q.1.1 = 0 ∧ q.1.2 ≤ (wS B n i q.1).2 ∧ St B n (wS B n i q.1).2 ∧ ∃ v', v' ≤ 2 ∧ tUp q.2 at' v = tUp q.2 at' v' := fun i v hv w => by
    rw [show wS B n i q.1 = (0, nx B n q.1.2) from ic_t w]
    exact ⟨w.1, nx_mono hp, nx_St hp, v, hv, rfl⟩
  by_cases w : wB B n 2 q.1
  · rw [ic_t w]; exact go 2 0 (by decide) w
  · rw [ic_f w] at h ⊢
    by_cases w1 : wB B n 11 q.1
    · rw [ic_t w1]; exact go 11 1 (by decide) w1
    · rw [ic_f w1] at h ⊢
      by_cases w2 : wB B n 12 q.1
      · rw [ic_t w2]; exact go 12 2 (by decide) w2
      · rw [ic_f w2] at h
        by_cases z : q.1.1 = 0
        · rw [ic_t z] at h; exact absurd h (by show ¬ (1 : Nat) = 0; decide)
        · rw [ic_f z] at h; exact absurd h z
theorem deed_post {m : Nat} (hs : s ≤ n) (h : (deedS B n s E m).1.1 = 0) : s + 8 ≤ (deedS B n s E m).1.2 ∧ St B n (deedS B n s E m).1.2 := by
  have hsn := nx_St (B := B) hs
  have wl' : ∀ i, i < 14 → wm B n i s → s + wl i ≤ nx B n s := fun i hi w => by
    have := nx_ge (B := B) hs
    have := w.2.1
    have := (w_tab i hi).1
    omega
  unfold deedS at h ⊢
  by_cases w : wm B n 9 s
  · have l := wl' 9 (by decide) w
    have l : s + 3 ≤ nx B n s := l
    rw [ic_t w] at h ⊢
    have b1 := nmS_l2 (p := (0, nx B n s)) hsn.1 h
    have b1 : nx B n s + 7 ≤ (nmS B n (0, nx B n s) (tUp E (5 * m) 0) (5 * m + 1) 4).1.2 := b1
    exact ⟨by omega, (nmS_p (p := (0, nx B n s)) hsn.1 4 h).2.2.2 hsn⟩
  · rw [ic_f w] at h ⊢
    by_cases w1 : wm B n 10 s
    · have l := wl' 10 (by decide) w1
      have l : s + 4 ≤ nx B n s := l
      rw [ic_t w1] at h ⊢
      have hp2 : (nmS B n (0, nx B n s) (tUp E (5 * m) 1) (5 * m + 1) 2).1.2 ≤ n ∨ (nmS B n (0, nx B n s) (tUp E (5 * m) 1) (5 * m + 1) 2).1.1 ≠ 0 := by
        by_cases z : (nmS B n (0, nx B n s) (tUp E (5 * m) 1) (5 * m + 1) 2).1.1 = 0
        · exact Or.inl (nmS_p (p := (0, nx B n s)) hsn.1 2 z).2.2.1
        · exact Or.inr z
      have hz : (nmS B n (0, nx B n s) (tUp E (5 * m) 1) (5 * m + 1) 2).1.1 = 0 := by
        apply Classical.byContradiction
        intro z
        unfold wonS at h
        rw [ic_f (fun y => z y.1), ic_f (fun y => z y.1), ic_f (fun y => z y.1), ic_f z] at h
        exact z h
      obtain ⟨-, a2, a3, a4⟩ := nmS_p (p := (0, nx B n s)) hsn.1 2 hz
      have b1 := nmS_l2 (p := (0, nx B n s)) hsn.1 hz
      have b1 : nx B n s + 3 ≤ _ := b1
      -- the word behind them
      generalize nmS B n (0, nx B n s) (tUp E (5 * m) 1) (5 * m + 1) 2 = q at *
      have wl2 : ∀ i, i < 14 → wB B n i q.1 → q.1.2 + 3 ≤ nx B n q.1.2 := fun i hi w => wm_nx a3 hi w.2
      obtain ⟨c1, c2, c3, -⟩ := wonS_p a3 h
      refine ⟨?_, c3⟩
      unfold wonS at h ⊢
      by_cases v : wB B n 2 q.1
      · have := wl2 2 (by decide) v
        rw [ic_t v]
        show s + 8 ≤ (wS B n 2 q.1).2
        rw [show wS B n 2 q.1 = (0, nx B n q.1.2) from ic_t v]
        show s + 8 ≤ nx B n q.1.2
        omega
      · rw [ic_f v] at h ⊢
        by_cases v1 : wB B n 11 q.1
        · have := wl2 11 (by decide) v1
          rw [ic_t v1]
          show s + 8 ≤ (wS B n 11 q.1).2
          rw [show wS B n 11 q.1 = (0, nx B n q.1.2) from ic_t v1]
          show s + 8 ≤ nx B n q.1.2
          omega
        · rw [ic_f v1] at h ⊢
          by_cases v2 : wB B n 12 q.1
          · have := wl2 12 (by decide) v2
            rw [ic_t v2]
            show s + 8 ≤ (wS B n 12 q.1).2
            rw [show wS B n 12 q.1 = (0, nx B n q.1.2) from ic_t v2]
            show s + 8 ≤ nx B n q.1.2
            omega
          · rw [ic_f v2, ic_t hz] at h
            exact absurd h (by show ¬ (1 : Nat) = 0; decide)
    · rw [ic_f w1] at h ⊢
      by_cases w2 : wm B n 13 s
      · have l := wl' 13 (by decide) w2
        have l : s + 5 ≤ nx B n s := l
        rw [ic_t w2] at h ⊢
        have b1 := nmS_l2 (p := (0, nx B n s)) hsn.1 h
        have b1 : nx B n s + 3 ≤ (nmS B n (0, nx B n s) (tUp E (5 * m) 2) (5 * m + 1) 2).1.2 := b1
        exact ⟨by omega, (nmS_p (p := (0, nx B n s)) hsn.1 2 h).2.2.2 hsn⟩
      · rw [ic_f w2] at h
        exact absurd h (by show ¬ (1 : Nat) = 0; decide)
end
/-! the deeds that are told -/
def na (x : Nat) : Nat := if x = 0 then 4 else if x = 1 then 3 else 2
def er (f : Nat → Int32) (E : Nat → Nat) (m : Nat) : Prop := ∀ d, d < m → f (5 * d) = nI (E (5 * d)) ∧ E (5 * d) ≤ 2 ∧ ∀ j, 1 ≤ j → j ≤ na (E (5 * d)) → f (5 * d + j) = nI (E (5 * d + j))
theorem er_s {f g : Nat → Int32} {E E' : Nat → Nat} {m : Nat} (h : er f E m) (h1 : ∀ j, j < 5 * m → g j = f j ∧ E' j = E j) (h2 : g (5 * m) = nI (E' (5 * m)) ∧ E' (5 * m) ≤ 2 ∧ ∀ j, 1 ≤ j → j ≤ na (E' (5 * m)) → g (5 * m + j) = nI (E' (5 * m + j))) : er g E' (m + 1) := by
  intro d hd
  by_cases q : d = m
  · rw [q]; exact h2
  · obtain ⟨a1, a2, a3⟩ := h d (by omega)
    have na4 : na (E (5 * d)) ≤ 4 := by unfold na; split; omega; split <;> omega
    rw [(h1 (5 * d) (by omega)).1, (h1 (5 * d) (by omega)).2]
    exact ⟨a1, a2, fun j j1 j2 => by rw [(h1 (5 * d + j) (by omega)).1, (h1 (5 * d + j) (by omega)).2]; exact a3 j j1 j2⟩
theorem er_f {f g : Nat → Int32} {E : Nat → Nat} {m : Nat} (h : er f E m) (e : g = f) : er g E m := by rw [e]; exact h
section
variable {σ τ : Sg} {B E : Nat → Nat} {n s : Nat} {K : Int32 → Sg → Prop}
theorem c_nums {at' k : Nat} {τ0 : Nat → Int32} (ha : at' + k ≤ 335) (hsE : τ 54 = τ0) (h : cgood σ τ B n s) (hy : ∀ υ : Sg, (nmS B n (0, s) E at' k).1.1 = 0 → cgood σ υ B n (nmS B n (0, s) E at' k).1.2 → (∀ k, k ≠ 1 → k ≠ 54 → υ k = τ k) → (∀ j, at' ≤ j → j < at' + k → υ 54 j = nI ((nmS B n (0, s) E at' k).2 j)) → (∀ j, ¬ (at' ≤ j ∧ j < at' + k) → υ 54 j = τ0 j) → K 1 υ) (hn : ∀ υ : Sg, (nmS B n (0, s) E at' k).1.1 ≠ 0 → cbad σ υ (nmS B n (0, s) E at' k).1 → K 0 υ) : wp_X1_readNumbers (nI at') (nI k) τ K := by
  have main : ∀ d i υ, i + d = k → (nmS B n (0, s) E at' i).1.1 = 0 → cgood σ υ B n (nmS B n (0, s) E at' i).1.2 → (∀ k, k ≠ 1 → k ≠ 54 → υ k = τ k) → (∀ j, at' ≤ j → j < at' + i → υ 54 j = nI ((nmS B n (0, s) E at' i).2 j)) → (∀ j, ¬ (at' ≤ j ∧ j < at' + i) → υ 54 j = τ0 j) → b_X1_readNumbers_2 (nI at') (nI k) K (d + 1) (nI i) υ := by
    intro d
    induction d with
    | zero =>
      intro i υ hi z g f r1 r2
      have : i = k := by omega
      subst this
      exact br_t (nI_le (Nat.le_refl _) (by omega)) (hy υ z g f r1 r2)
    | succ d ih =>
      intro i υ hi z g f r1 r2
      have nb := fun (hh : (nmS B n (0, s) E at' (i + 1)).1.1 ≠ 0) => nmS_bad hh d
      have e1 : nmS B n (0, s) E at' (i + 1) = (nS B n 0 100000 (nmS B n (0, s) E at' i).1, tUp (nmS B n (0, s) E at' i).2 (at' + i) (nV B n 0 100000 (nmS B n (0, s) E at' i).1)) := rfl
      have nx' := ih (i + 1)
      refine br_f (nI_ge (by omega) (by omega)) ?_
      rw [nI_add]
      rw [show k = i + 1 + d by omega] at hn
      generalize nmS B n (0, s) E at' i = qi at *
      obtain ⟨⟨x0, si'⟩, Ei⟩ := qi
      have z : x0 = 0 := z
      subst z
      refine c_N (lo := 0) (hi := 100000) (a := at' + i) g (by omega) (by decide) (by omega) (fun v h => bd_0 h) (fun v h => bd_4 (a := 99999) h (by decide)) (fun o υ1 g1 f1 q1 => br_f (by decide) ?_) (fun o υ1 b => br_t rfl ?_)
      · intro v ev
        rw [ev, nI_1]
        have e2 : nmS B n (0, s) E at' (i + 1) = ((0, nx B n si'), tUp Ei (at' + i) (dv B n si')) := by rw [e1]; show (nS B n 0 100000 (0, si'), tUp Ei (at' + i) (nV B n 0 100000 (0, si'))) = _; rw [nS_ok o, nV_ok o]
        rw [e2] at nx'
        refine nx' υ1 (by omega) rfl g1 (fun k a b => by rw [f1 k a b, f k a b]) (fun j j1 j2 => ?_) (fun j hj => ?_)
        · rw [q1 j]
          show _ = nI (tUp Ei (at' + i) (dv B n si') j)
          by_cases w : j = at' + i
          · rw [if_pos w, w, tUp_s]
          · rw [if_neg w, tUp_n w]; exact r1 j j1 (by omega)
        · rw [q1 j, if_neg (by omega)]; exact r2 j (by omega)
      · have e2 : (nmS B n (0, s) E at' (i + 1)).1 = (nF B n si', si') := by rw [e1]; exact nS_no o
        have hb : (nmS B n (0, s) E at' (i + 1)).1.1 ≠ 0 := by rw [e2]; exact nF_0
        have e3 := nb hb
        exact hn υ1 (by rw [e3]; exact hb) (by rw [e3, e2]; exact b)
  exact ⟨_, main k 0 τ (by omega) rfl h (fun _ _ _ => rfl) (fun j a b => by omega) (fun j _ => by rw [hsE])⟩
theorem c_won {at' : Nat} (ha : at' < 335) (h : cgood σ τ B n s) (hy : ∀ υ : Sg, (wonS B n at' ((0, s), E)).1.1 = 0 → cgood σ υ B n (wonS B n at' ((0, s), E)).1.2 → (∀ k, k ≠ 1 → k ≠ 54 → υ k = τ k) → υ 54 at' = nI ((wonS B n at' ((0, s), E)).2 at') → (∀ j, j ≠ at' → υ 54 j = τ 54 j) → K 1 υ) (hn : ∀ υ : Sg, (wonS B n at' ((0, s), E)).1.1 ≠ 0 → cbad σ υ (wonS B n at' ((0, s), E)).1 → K 0 υ) : wp_X1_readWon (nI at') τ K := by
  unfold wonS at hy hn
  have ok : ∀ (υ ω : Sg) (v i : Nat) (x : Int32), x = nI v → wm B n i s → cgood σ υ B n (nx B n s) → (∀ k, k ≠ 1 → k ≠ 54 → υ k = τ k) → (∀ j, j ≠ at' → υ 54 j = τ 54 j) → ω = up υ 54 at' x → (∀ ω : Sg, (wS B n i (0, s)).1 = 0 → cgood σ ω B n (wS B n i (0, s)).2 → (∀ k, k ≠ 1 → k ≠ 54 → ω k = τ k) → ω 54 at' = nI (tUp E at' v at') → (∀ j, j ≠ at' → ω 54 j = τ 54 j) → K 1 ω) → K 1 ω := by
    intro υ ω v i x hx w g f f2 e hh
    rw [wS_t w] at hh
    refine hh ω rfl (by rw [e]; exact g.u (by omega)) (fun k a b => by rw [e, up_o b]; exact f k a b) (by rw [e, up_s, hx, tUp_s]) (fun j hj => by rw [e, up_j hj]; exact f2 j hj)
  unfold wp_X1_readWon
  rw [vin_T ha (by decide), cl_I (by omega)]
  simp only [true_and]
  refine c_W h (by decide) (fun w υ g f => br_f (by decide) (fun ω e => ?_)) (fun w => br_t rfl ?_)
  · rw [ic_t (show wB B n 2 (0, s) from ⟨rfl, w⟩)] at hy
    exact ok υ ω 0 2 0 rfl w g (fun k a _ => f k a) (fun j _ => by rw [f 54 (by decide)]) e hy
  · rw [ic_f (show ¬ wB B n 2 (0, s) from fun z => w z.2)] at hy hn
    refine c_W h (by decide) (fun w1 υ g f => br_f (by decide) (fun ω e => ?_)) (fun w1 => br_t rfl ?_)
    · rw [ic_t (show wB B n 11 (0, s) from ⟨rfl, w1⟩)] at hy
      exact ok υ ω 1 11 1 rfl w1 g (fun k a _ => f k a) (fun j _ => by rw [f 54 (by decide)]) e hy
    · rw [ic_f (show ¬ wB B n 11 (0, s) from fun z => w1 z.2)] at hy hn
      intro τ1 e1
      have g1 : cgood σ τ1 B n s := by rw [e1]; exact h.u (by omega)
      refine c_W g1 (by decide) (fun w2 υ g f => br_f (by decide) ?_) (fun w2 => br_t rfl ?_)
      · rw [ic_t (show wB B n 12 (0, s) from ⟨rfl, w2⟩)] at hy
        have hy : ∀ ω : Sg, (wS B n 12 (0, s)).1 = 0 → cgood σ ω B n (wS B n 12 (0, s)).2 → (∀ k, k ≠ 1 → k ≠ 54 → ω k = τ k) → ω 54 at' = nI (tUp E at' 2 at') → (∀ j, j ≠ at' → ω 54 j = τ 54 j) → K 1 ω := hy
        rw [wS_t w2] at hy
        exact hy υ rfl g (fun k a b => by rw [f k a, e1, up_o b]) (by rw [f 54 (by decide), e1, up_s, tUp_s]; rfl) (fun j hj => by rw [f 54 (by decide), e1, up_j hj])
      · rw [ic_f (show ¬ wB B n 12 (0, s) from fun z => w2 z.2), ic_t (show ((0, s) : Nat × Nat).1 = 0 from rfl)] at hn
        exact c_R g1 rfl (fun υ b => br_t rfl (hn υ (show (1 : Nat) ≠ 0 by decide) b))
end
