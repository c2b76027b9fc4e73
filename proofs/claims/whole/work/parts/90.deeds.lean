/-! DEEDS, read by both: a deed, all -/
section
variable {σ τ : Sg} {B E : Nat → Nat} {n s : Nat}
theorem na_0 : na 0 = 4 := rfl
theorem na_1 : na 1 = 3 := rfl
theorem na_2 : na 2 = 2 := rfl
theorem c_deed {K : Int32 → Sg → Prop} {m : Nat} (h : cgood σ τ B n s) (hm : 5 * m + 5 ≤ 335) (he : er (τ 54) E m) (hy : ∀ υ : Sg, (deedS B n s E m).1.1 = 0 → cgood σ υ B n (deedS B n s E m).1.2 → (∀ k, k ≠ 1 → k ≠ 54 → υ k = τ k) → er (υ 54) (deedS B n s E m).2 (m + 1) → K 1 υ) (hn : ∀ υ : Sg, (deedS B n s E m).1.1 ≠ 0 → cbad σ υ (deedS B n s E m).1 → K 0 υ) : wp_X1_readDeed (nI (5 * m)) τ K := by
  unfold deedS at hy hn
  unfold wp_X1_readDeed
  rw [vin_T (show 5 * m < 335 by omega) (by decide), cl_I (by omega), nI_1]
  simp only [true_and]
  refine c_W h (by decide) (fun w υ g f => br_f (by decide) (fun τ1 e1 => ?_)) (fun w => br_t rfl ?_)
  · rw [ic_t w] at hy hn
    have g1 : cgood σ τ1 B n (nx B n s) := by rw [e1]; exact g.u (by omega)
    have f1 : ∀ k, k ≠ 1 → k ≠ 54 → τ1 k = τ k := fun k a b => by rw [e1, up_o b, f k a]
    refine c_nums (E := tUp E (5 * m) 0) (k := 4) (by omega) rfl g1 (fun υ2 z g2 f2 r1 r2 => ⟨isZ_1, hy υ2 z g2 (fun k a b => by rw [f2 k a b, f1 k a b]) (er_s he (fun j hj => ⟨?_, ?_⟩) ⟨?_, ?_, fun j j1 j2 => ?_⟩)⟩) (fun υ2 z b => ⟨isZ_0, hn υ2 z b⟩)
    · rw [r2 j (by omega), e1, up_j (by omega), f 54 (by decide)]
    · rw [nmS_E 4 j (by omega), tUp_n (by omega)]
    · rw [nmS_E 4 _ (by omega), tUp_s, r2 _ (by omega), e1, up_s]; rfl
    · rw [nmS_E 4 _ (by omega), tUp_s]; omega
    · rw [nmS_E 4 (5 * m) (by omega), tUp_s, na_0] at j2
      exact r1 _ (by omega) (by omega)
  · rw [ic_f w] at hy hn
    refine c_W h (by decide) (fun w1 υ g f => br_f (by decide) (fun τ1 e1 => ?_)) (fun w1 => br_t rfl ?_)
    · rw [ic_t w1] at hy hn
      have g1 : cgood σ τ1 B n (nx B n s) := by rw [e1]; exact g.u (by omega)
      have f1 : ∀ k, k ≠ 1 → k ≠ 54 → τ1 k = τ k := fun k a b => by rw [e1, up_o b, f k a]
      refine c_nums (E := tUp E (5 * m) 1) (k := 2) (by omega) rfl g1 (fun υ2 z g2 f2 r1 r2 => br_f (by decide) ?_) (fun υ2 z b => br_t rfl (hn υ2 ?_ ?_))
      · have e3 := fun j hj => nmS_E (B := B) (n := n) (p := (0, nx B n s)) (E := tUp E (5 * m) 1) (at' := 5 * m + 1) 2 j hj
        generalize nmS B n (0, nx B n s) (tUp E (5 * m) 1) (5 * m + 1) 2 = qi at *
        obtain ⟨⟨x0, s2⟩, E2⟩ := qi
        have z : x0 = 0 := z
        subst z
        rw [L3, nI_add]
        refine c_won (E := E2) (by omega) g2 (fun υ3 z3 g3 f3 q1 q2 => br_f (by decide) (hy υ3 z3 g3 (fun k a b => by rw [f3 k a b, f2 k a b, f1 k a b]) ?_)) (fun υ3 z3 b => br_t rfl (hn υ3 z3 b))
        obtain ⟨-, -, -, v, hv, ev⟩ := wonS_p (q := ((0, s2), E2)) (at' := 5 * m + 3) (B := B) (n := n) g2.2.1.2.1.1 z3
        rw [ev] at q1 ⊢
        have q1 : υ3 54 (5 * m + 3) = nI (tUp E2 (5 * m + 3) v (5 * m + 3)) := q1
        show er (υ3 54) (tUp E2 (5 * m + 3) v) (m + 1)
        have e3 : ∀ j, ¬ (5 * m + 1 ≤ j ∧ j < 5 * m + 1 + 2) → E2 j = tUp E (5 * m) 1 j := e3
        have r1 : ∀ j, 5 * m + 1 ≤ j → j < 5 * m + 1 + 2 → υ2 54 j = nI (E2 j) := r1
        refine er_s he (fun j hj => ⟨?_, ?_⟩) ⟨?_, ?_, fun j j1 j2 => ?_⟩
        · rw [q2 j (by omega), r2 j (by omega), e1, up_j (by omega), f 54 (by decide)]
        · rw [tUp_n (by omega), e3 j (by omega), tUp_n (by omega)]
        · rw [tUp_n (by omega), e3 _ (by omega), tUp_s, q2 _ (by omega), r2 _ (by omega), e1, up_s]; rfl
        · rw [tUp_n (by omega), e3 _ (by omega), tUp_s]; omega
        · rw [tUp_n (by omega), e3 (5 * m) (by omega), tUp_s, na_1] at j2
          by_cases y : j = 3
          · rw [y]; exact q1
          · rw [tUp_n (by omega), q2 _ (by omega)]; exact r1 _ (by omega) (by omega)
      · unfold wonS
        rw [ic_f (fun y => z y.1), ic_f (fun y => z y.1), ic_f (fun y => z y.1), ic_f z]; exact z
      · unfold wonS
        rw [ic_f (fun y => z y.1), ic_f (fun y => z y.1), ic_f (fun y => z y.1), ic_f z]; exact b
    · rw [ic_f w1] at hy hn
      refine c_W h (by decide) (fun w2 υ g f => br_f (by decide) (fun τ1 e1 => ?_)) (fun w2 => br_t rfl ?_)
      · rw [ic_t w2] at hy hn
        have g1 : cgood σ τ1 B n (nx B n s) := by rw [e1]; exact g.u (by omega)
        have f1 : ∀ k, k ≠ 1 → k ≠ 54 → τ1 k = τ k := fun k a b => by rw [e1, up_o b, f k a]
        refine c_nums (E := tUp E (5 * m) 2) (k := 2) (by omega) rfl g1 (fun υ2 z g2 f2 r1 r2 => ⟨isZ_1, hy υ2 z g2 (fun k a b => by rw [f2 k a b, f1 k a b]) (er_s he (fun j hj => ⟨?_, ?_⟩) ⟨?_, ?_, fun j j1 j2 => ?_⟩)⟩) (fun υ2 z b => ⟨isZ_0, hn υ2 z b⟩)
        · rw [r2 j (by omega), e1, up_j (by omega), f 54 (by decide)]
        · rw [nmS_E 2 j (by omega), tUp_n (by omega)]
        · rw [nmS_E 2 _ (by omega), tUp_s, r2 _ (by omega), e1, up_s]; rfl
        · rw [nmS_E 2 _ (by omega), tUp_s]; omega
        · rw [nmS_E 2 (5 * m) (by omega), tUp_s, na_2] at j2
          exact r1 _ (by omega) (by omega)
      · rw [ic_f w2] at hn
        exact c_R h rfl (fun υ b => ⟨isZ_0, hn υ (show (1 : Nat) ≠ 0 by decide) b⟩)
/-! the reference's -/
theorem m_rWon {K : Sg → Prop} {at' : Nat} {q : (Nat × Nat) × (Nat → Nat)} (ht : mtp σ B n) (h : mst σ τ B n q.1) (ha : at' < 500) (hK : ∀ υ : Sg, mst σ υ B n (wonS B n at' q).1 → ((wonS B n at' q).1.1 = 0 → υ 241 at' = nI ((wonS B n at' q).2 at') ∧ ∀ j, j ≠ at' → υ 241 j = τ 241 j) → υ 233 15 = τ 233 15 → K υ) : wp_X10_readWon (nI at') τ K := by
  unfold wonS at hK
  have ok : ∀ (υ ω : Sg) (v i : Nat) (x : Int32), x = nI v → mst σ υ B n (wS B n i q.1) → (∀ j, υ 241 j = τ 241 j) → υ 233 15 = τ 233 15 → ω = up υ 241 at' x → (∀ ω : Sg, mst σ ω B n (wS B n i q.1) → ((wS B n i q.1).1 = 0 → ω 241 at' = nI (tUp q.2 at' v at') ∧ ∀ j, j ≠ at' → ω 241 j = τ 241 j) → ω 233 15 = τ 233 15 → K ω) → K ω := by
    intro υ ω v i x hx mm k1 k2 e hh
    exact hh ω (by rw [e]; exact mm.u (Or.inr rfl)) (fun _ => ⟨by rw [e, up_s, hx, tUp_s], fun j hj => by rw [e, up_j hj, k1 j]⟩) (by rw [e, up_o (by decide), k2])
  unfold wp_X10_readWon
  rw [vin_T ha (by decide), cl_I (by omega)]
  simp only [true_and]
  refine m_W ht h (by decide) (fun w υ m1 k1 _ => br_f (by decide) (fun ω e => ?_)) (fun w υ m1 k1 r1 => br_t rfl ?_)
  · rw [ic_t w] at hK
    exact ok υ ω 0 2 0 rfl m1 (fun j => by rw [k1.1 241 (by decide)]) k1.2 e hK
  · rw [ic_f w] at hK
    refine m_W ht m1 (by decide) (fun w1 υ1 m2 k2 _ => br_f (by decide) (fun ω e => ?_)) (fun w1 υ1 m2 k2 r2 => br_t rfl ?_)
    · rw [ic_t w1] at hK
      exact ok υ1 ω 1 11 1 rfl m2 (fun j => by rw [k2.1 241 (by decide), k1.1 241 (by decide)]) (k2.2.trans k1.2) e hK
    · rw [ic_f w1] at hK
      refine m_W ht m2 (by decide) (fun w2 υ2 m3 k3 _ => br_f (by decide) (fun ω e => ?_)) (fun w2 υ2 m3 k3 r3 => br_t rfl ?_)
      · rw [ic_t w2] at hK
        exact ok υ2 ω 2 12 2 rfl m3 (fun j => by rw [k3.1 241 (by decide), k2.1 241 (by decide), k1.1 241 (by decide)]) (k3.2.trans (k2.2.trans k1.2)) e hK
      · rw [ic_f w2] at hK
        by_cases z : q.1.1 = 0
        · rw [ic_t z] at hK
          obtain ⟨⟨x0, s2⟩, E2⟩ := q
          have z : x0 = 0 := z
          subst z
          exact m_X m3 rfl (by decide) (r3 rfl) (fun υ3 m4 k4 => hK υ3 m4 (fun y => absurd y (by show ¬ (1 : Nat) = 0; decide)) (k4.2.trans (k3.2.trans (k2.2.trans k1.2))))
        · rw [ic_f z] at hK
          exact m_XB m3 z (hK υ2 m3 (fun y => absurd y z) (k3.2.trans (k2.2.trans k1.2)))
theorem m_nums {K : Sg → Prop} {y k : Nat} {x : Int32} {p : Nat × Nat} (ht : mtp σ B n) (hb : y + k < 500) (hK : ∀ υ : Sg, mst σ υ B n (nmS B n p E (y + 1) k).1 → ((nmS B n p E (y + 1) k).1.1 = 0 → (∀ j, y + 1 ≤ j → j < y + 1 + k → υ 241 j = nI ((nmS B n p E (y + 1) k).2 j)) ∧ ∀ j, ¬ (y + 1 ≤ j ∧ j < y + 1 + k) → υ 241 j = τ 241 j) → υ 233 15 = τ 233 15 → br (x = 1) (wp_X10_readWon (nI y + 3) υ <| fun τ120 => b_X10_readDeed_123 K τ120) (b_X10_readDeed_123 K υ)) : ∀ d i υ, i + d = k → mst σ υ B n (nmS B n p E (y + 1) i).1 → ((nmS B n p E (y + 1) i).1.1 = 0 → (∀ j, y + 1 ≤ j → j < y + 1 + i → υ 241 j = nI ((nmS B n p E (y + 1) i).2 j)) ∧ ∀ j, ¬ (y + 1 ≤ j ∧ j < y + 1 + i) → υ 241 j = τ 241 j) → υ 233 15 = τ 233 15 → b_X10_readDeed_83 K (d + 1) (nI y) x (nI k) (nI (i + 1)) υ := by
  intro d
  induction d with
  | zero =>
    intro i υ hi m r k15
    have : i = k := by omega
    subst this
    exact br_t (nI_lt (by omega) (by omega)) (hK υ m r k15)
  | succ d ih =>
    intro i υ hi m r k15
    refine br_f (nI_nlt (by omega) (by omega)) (m_N (lo := 0) (hi := 100000) ht m (fun v hv => bx_0 (a := 99999) hv (by decide)) (fun υ1 m1 k1 => ?_))
    rw [nI_add, vin_T (show y + (i + 1) < 500 by omega) (by decide), cl_I (by omega), true_and]
    intro υ2 e2 v ev
    rw [ev, nI_1]
    refine ih (i + 1) υ2 (by omega) (by rw [e2]; exact m1.u (Or.inr rfl)) (fun z => ?_) (by rw [e2, up_o (by decide), k1.2, k15])
    have z' : (nS B n 0 100000 (nmS B n p E (y + 1) i).1).1 = 0 := z
    obtain ⟨r1, r2⟩ := r (nS_p z').1
    refine ⟨fun j j1 j2 => ?_, fun j hj => ?_⟩
    · show _ = nI (tUp (nmS B n p E (y + 1) i).2 (y + 1 + i) (nV B n 0 100000 (nmS B n p E (y + 1) i).1) j)
      rw [e2, up_r]
      by_cases w : j = y + (i + 1)
      · rw [if_pos w, show j = y + 1 + i by omega, tUp_s]
      · rw [if_neg w, tUp_n (by omega), k1.1 241 (by decide)]; exact r1 j j1 (by omega)
    · rw [e2, up_j (by omega), k1.1 241 (by decide)]; exact r2 j (by omega)
theorem m_deed {K : Sg → Prop} {m : Nat} (ht : mtp σ B n) (h : mst σ τ B n (0, s)) (hm : 5 * m + 5 < 500) (he : er (τ 241) E m) (h15 : τ 233 15 = nI m) (hK : ∀ υ : Sg, mst σ υ B n (deedS B n s E m).1 → ((deedS B n s E m).1.1 = 0 → er (υ 241) (deedS B n s E m).2 (m + 1) ∧ υ 233 15 = nI (m + 1)) → K υ) : wp_X10_readDeed τ K := by
  unfold deedS at hK
  have fin : ∀ (υ : Sg) (p : Nat × Nat) (E' : Nat → Nat), mst σ υ B n p → υ 233 15 = nI m → (p.1 = 0 → er (υ 241) E' (m + 1)) → (∀ υ : Sg, mst σ υ B n p → (p.1 = 0 → er (υ 241) E' (m + 1) ∧ υ 233 15 = nI (m + 1)) → K υ) → b_X10_readDeed_123 K υ := by
    intro υ p E' mm h15' hee hk ω e
    rw [h15', nI_1] at e
    refine hk ω ?_ (fun z => ⟨er_f (hee z) (by rw [e, up_o (by decide)]), by rw [e, up_s]⟩)
    obtain ⟨a1, a2, a3, a4⟩ := mm
    have o : ∀ j, j ≠ 15 → ω 233 j = υ 233 j := fun j hj => by rw [e, up_j hj]
    exact ⟨⟨fun k b c d => by rw [e, up_o b]; exact a1.1 k b c d, fun j hj => by rw [o j (by omega)]; exact a1.2 j hj⟩, by rw [o 10 (by decide)]; exact a2, by rw [o 13 (by decide), o 11 (by decide), o 12 (by decide)]; exact a3, by rw [o 13 (by decide), o 11 (by decide), o 12 (by decide)]; exact a4⟩
  -- a sort is taken
  have srt : ∀ (υ : Sg) (x k : Nat), x ≤ 2 → (k = if x = 0 then 4 else 2) → mst σ υ B n (0, nx B n s) → (∀ j, υ 241 j = τ 241 j) → υ 233 15 = nI m → (∀ υ : Sg, mst σ υ B n (nmS B n (0, nx B n s) (tUp E (5 * m) x) (5 * m + 1) k).1 → ((nmS B n (0, nx B n s) (tUp E (5 * m) x) (5 * m + 1) k).1.1 = 0 → (∀ j, 5 * m + 1 ≤ j → j < 5 * m + 1 + k → υ 241 j = nI ((nmS B n (0, nx B n s) (tUp E (5 * m) x) (5 * m + 1) k).2 j)) ∧ υ 241 (5 * m) = nI x ∧ ∀ j, j < 5 * m → υ 241 j = τ 241 j) → υ 233 15 = nI m → br (nI x = 1) (wp_X10_readWon (nI (5 * m) + 3) υ <| fun τ120 => b_X10_readDeed_123 K τ120) (b_X10_readDeed_123 K υ)) → b_X10_readDeed_47 K (nI (5 * m)) (nI x) υ := by
    intro υ x k hx hk mm e242 e15 hh
    refine br_f (fun z => nm1' (n := x) (by omega) z.symm) ?_
    rw [vin_T (show 5 * m < 500 by omega) (by decide), cl_I (by omega), true_and]
    intro υ1 e1
    have m1 : mst σ υ1 B n (0, nx B n s) := by rw [e1]; exact mm.u (Or.inr rfl)
    have go : ∃ nf, b_X10_readDeed_83 K nf (nI (5 * m)) (nI x) (nI k) 1 υ1 := by
      refine ⟨_, m_nums (τ := υ1) (E := tUp E (5 * m) x) (p := (0, nx B n s)) ht (show 5 * m + k < 500 by rw [hk]; split <;> omega) (fun υ2 m2 r2 k2 => hh υ2 m2 (fun z => ?_) (by rw [k2, e1, up_o (by decide)]; exact e15)) k 0 υ1 (by omega) m1 (fun _ => ⟨fun j a b => by omega, fun j _ => rfl⟩) rfl⟩
      obtain ⟨a1, a2⟩ := r2 z
      exact ⟨a1, by rw [a2 _ (by omega), e1, up_s], fun j hj => by rw [a2 j (by omega), e1, up_j (by omega), e242 j]⟩
    rw [L0, br_iff (nI_eq (by omega) (by decide))]
    by_cases q : x = 0
    · rw [br_T q]
      rw [hk, if_pos q] at go
      exact go
    · rw [br_F q]
      rw [hk, if_neg q] at go
      exact go
  unfold wp_X10_readDeed
  intro v ev
  have ev : v = nI (5 * m) := by rw [ev, h15, L5, pk_mul]
  rw [ev]
  refine m_W ht h (by decide) (fun w υ m1 k1 _ => br_f (by decide) ?_) (fun w υ m1 k1 r1 => br_t rfl ?_)
  · rw [ic_t w.2] at hK
    rw [wS_t w.2] at m1
    refine srt υ 0 4 (by decide) rfl m1 (fun j => by rw [k1.1 241 (by decide)]) (k1.2.trans h15) (fun υ2 m2 r2 k2 => br_f (by decide) (fin υ2 _ _ m2 k2 (fun z => ?_) hK))
    obtain ⟨a1, a2, a3⟩ := r2 z
    refine er_s he (fun j hj => ⟨a3 j hj, ?_⟩) ⟨?_, ?_, fun j j1 j2 => ?_⟩
    · rw [nmS_E 4 j (by omega), tUp_n (by omega)]
    · rw [nmS_E 4 _ (by omega), tUp_s, a2]
    · rw [nmS_E 4 _ (by omega), tUp_s]; omega
    · rw [nmS_E 4 (5 * m) (by omega), tUp_s, na_0] at j2
      exact a1 _ (by omega) (by omega)
  · rw [ic_f (fun z => w ⟨rfl, z⟩)] at hK
    refine m_W ht m1 (by decide) (fun w1 υ1 m2 k2 _ => br_f (by decide) ?_) (fun w1 υ1 m2 k2 r2 => br_t rfl ?_)
    · rw [ic_t w1.2] at hK
      rw [wS_t w1.2] at m2
      refine srt υ1 1 2 (by decide) rfl m2 (fun j => by rw [k2.1 241 (by decide), k1.1 241 (by decide)]) (k2.2.trans (k1.2.trans h15)) (fun υ2 m3 r3 k3 => br_t rfl ?_)
      have e3 := fun j hj => nmS_E (B := B) (n := n) (p := (0, nx B n s)) (E := tUp E (5 * m) 1) (at' := 5 * m + 1) 2 j hj
      generalize nmS B n (0, nx B n s) (tUp E (5 * m) 1) (5 * m + 1) 2 = qi at *
      rw [L3, nI_add]
      refine m_rWon (q := qi) ht m3 (by omega) (fun υ3 m4 r4 k4 => fin υ3 _ _ m4 (k4.trans k3) (fun z => ?_) hK)
      obtain ⟨b1, b2⟩ := r4 z
      have z2 : qi.1.1 = 0 := by
        apply Classical.byContradiction
        intro y
        unfold wonS at z
        rw [ic_f (fun u => y u.1), ic_f (fun u => y u.1), ic_f (fun u => y u.1), ic_f y] at z
        exact y z
      obtain ⟨a1, a2, a3⟩ := r3 z2
      have hle : qi.1.2 ≤ n := by
        obtain ⟨rd, r1', -, r3'⟩ := m3.2.1
        rw [← r3' z2]
        exact ex_le r1'
      obtain ⟨-, -, -, v, hv, ev'⟩ := wonS_p hle z
      rw [ev'] at b1 ⊢
      refine er_s he (fun j hj => ⟨?_, ?_⟩) ⟨?_, ?_, fun j j1 j2 => ?_⟩
      · rw [b2 j (by omega)]; exact a3 j hj
      · rw [tUp_n (by omega), e3 j (by omega), tUp_n (by omega)]
      · rw [tUp_n (by omega), e3 _ (by omega), tUp_s, b2 _ (by omega), a2]
      · rw [tUp_n (by omega), e3 _ (by omega), tUp_s]; omega
      · rw [tUp_n (by omega), e3 (5 * m) (by omega), tUp_s, na_1] at j2
        by_cases y : j = 3
        · rw [y]; exact b1
        · rw [tUp_n (by omega), b2 _ (by omega)]; exact a1 _ (by omega) (by omega)
    · rw [ic_f (fun z => w1 ⟨rfl, z⟩)] at hK
      refine m_W ht m2 (by decide) (fun w2 υ2 m3 k3 _ => br_f (by decide) ?_) (fun w2 υ2 m3 k3 r3 => br_t rfl ?_)
      · rw [ic_t w2.2] at hK
        rw [wS_t w2.2] at m3
        refine srt υ2 2 2 (by decide) rfl m3 (fun j => by rw [k3.1 241 (by decide), k2.1 241 (by decide), k1.1 241 (by decide)]) (k3.2.trans (k2.2.trans (k1.2.trans h15))) (fun υ3 m4 r4 k4 => br_f (by decide) (fin υ3 _ _ m4 k4 (fun z => ?_) hK))
        obtain ⟨a1, a2, a3⟩ := r4 z
        refine er_s he (fun j hj => ⟨a3 j hj, ?_⟩) ⟨?_, ?_, fun j j1 j2 => ?_⟩
        · rw [nmS_E 2 j (by omega), tUp_n (by omega)]
        · rw [nmS_E 2 _ (by omega), tUp_s, a2]
        · rw [nmS_E 2 _ (by omega), tUp_s]; omega
        · rw [nmS_E 2 (5 * m) (by omega), tUp_s, na_2] at j2
          exact a1 _ (by omega) (by omega)
      · rw [ic_f (fun z => w2 ⟨rfl, z⟩)] at hK
        refine br_t rfl (m_X m3 rfl (by decide) (r3 rfl) (fun υ3 m4 k4 => hK υ3 m4 (fun z => absurd z (by show ¬ (1 : Nat) = 0; decide))))
end
/-! all deeds -/
noncomputable def dsS (B : Nat → Nat) (n : Nat) : Nat → Nat → Nat → (Nat → Nat) → Nat × ((Nat × Nat) × (Nat → Nat))
  | 0, m, s, E => (m, ((1, s), E))
  | f + 1, m, s, E => ic ((deedS B n s E m).1.1 = 0) (ic ((deedS B n s E m).1.2 < n ∧ B (deedS B n s E m).1.2 = 59) (dsS B n f (m + 1) (nx B n (deedS B n s E m).1.2) (deedS B n s E m).2) (m + 1, ic ((deedS B n s E m).1.2 < n) ((1, (deedS B n s E m).1.2), (deedS B n s E m).2) (deedS B n s E m))) (m, deedS B n s E m)
section
variable {σ : Sg} {B : Nat → Nat} {n : Nat}
theorem dsS_s {f m s : Nat} {E : Nat → Nat} : dsS B n (f + 1) m s E = ic ((deedS B n s E m).1.1 = 0) (ic ((deedS B n s E m).1.2 < n ∧ B (deedS B n s E m).1.2 = 59) (dsS B n f (m + 1) (nx B n (deedS B n s E m).1.2) (deedS B n s E m).2) (m + 1, ic ((deedS B n s E m).1.2 < n) ((1, (deedS B n s E m).1.2), (deedS B n s E m).2) (deedS B n s E m))) (m, deedS B n s E m) := rfl
def Dres (σ : Sg) (B : Nat → Nat) (n : Nat) (K : Int32 → Sg → Prop) (r : Nat × ((Nat × Nat) × (Nat → Nat))) : Prop := (r.2.1.1 = 0 → ∀ υ : Sg, cgood σ υ B n r.2.1.2 → er (υ 54) r.2.2 r.1 → r.1 ≤ 67 → υ 53 2 = nI r.1 → K 1 υ) ∧ (r.2.1.1 ≠ 0 → ∀ υ : Sg, cbad σ υ r.2.1 → K 0 υ)
theorem Dres.b {K : Int32 → Sg → Prop} {r : Nat × ((Nat × Nat) × (Nat → Nat))} {p : Nat × Nat} {υ : Sg} (h : Dres σ B n K r) (e : r.2.1 = p) (hp : p.1 ≠ 0) (b : cbad σ υ p) : K 0 υ := h.2 (by rw [e]; exact hp) υ (by rw [e]; exact b)
theorem c_deedsL {K : Int32 → Sg → Prop} (hn : n ≤ 600) : ∀ f m s τ E, n < s + f → St B n s → 9 * m ≤ s → cgood σ τ B n s → er (τ 54) E m → τ 53 2 = nI m → Dres σ B n K (dsS B n f m s E) → b_X1_readDeeds_14 K (f + 1) 1 τ := by
  intro f
  induction f with
  | zero => intro m s τ E h1 h2; exact absurd h2.1 (by omega)
  | succ f ih =>
    intro m s τ E hf hs hm hg he h53 hR
    have hsn := hs.1
    rw [dsS_s] at hR
    refine br_f (by rw [h53]; exact nI_ge (b := 67) (by omega) (by decide)) (br_f (by decide) ?_)
    rw [h53, L5, pk_mul, Nat.mul_comm m 5]
    refine c_deed hg (by omega) he (fun υ z g1 f1 e1 => br_f (by decide) ?_) (fun υ z b => br_t rfl ?_)
    · obtain ⟨p2, p3⟩ := deed_post hsn z
      rw [ic_t z] at hR
      have h53' : υ 53 2 = nI m := by rw [f1 53 (by decide) (by decide)]; exact h53
      refine c_sep g1.2.1 (fun q υ2 c1 c2 τ1 t1 => ?_) (fun q τ1 t1 => ?_)
      · rw [ic_t q] at hR
        rw [c1.1 53 (by decide), h53', nI_1] at t1
        have ng := nx_ge (B := B) p3.1
        have eb := (en_b (B := B) p3.1).2.2 q.1
        have g2 : cgood σ τ1 B n (nx B n (deedS B n s E m).1.2) := by rw [t1]; exact (g1.c c1 c2).u (by omega)
        exact ih (m + 1) _ τ1 _ (by omega) (nx_St p3.1) (by omega) g2 (er_f e1 (by rw [t1, up_o (by decide), c1.1 54 (by decide)])) (by rw [t1, up_s]) hR
      · rw [ic_f q] at hR
        rw [h53', nI_1] at t1
        have g2 : cgood σ τ1 B n (deedS B n s E m).1.2 := by rw [t1]; exact g1.u (by omega)
        have e2 := er_f e1 (show τ1 54 = υ 54 by rw [t1, up_o (by decide)])
        have h53'' : τ1 53 2 = nI (m + 1) := by rw [t1, up_s]
        generalize deedS B n s E m = qq at *
        have fin : b_X1_readDeeds_63 K 0 τ1 := by
          unfold b_X1_readDeeds_63
          have h3 := g2.2.1.2.2.1
          by_cases z1 : qq.1.2 < n
          · rw [ic_t z1] at hR
            refine br_f ?_ (c_R g2 rfl (fun υ b => br_t rfl (hR.b rfl (show (1 : Nat) ≠ 0 by decide) b)))
            rw [h3, kk_lt z1]
            have := kd_r (B qq.1.2)
            exact fun y => by have := nI_m (b := 0) y (by omega) (by decide); omega
          · rw [ic_f z1] at hR
            exact br_t (by rw [h3, kk_ge z1]; rfl) (br_t rfl (hR.1 z τ1 g2 e2 (by show m + 1 ≤ 67; omega) h53''))
        exact ⟨fun _ => fin, fun _ => br_t rfl fin⟩
    · rw [ic_f z] at hR
      exact hR.b rfl z b
def Fres (σ : Sg) (B : Nat → Nat) (n : Nat) (K : Int32 → Sg → Prop) (r : Nat × ((Nat × Nat) × (Nat → Nat))) : Prop := ∀ υ : Sg, mst σ υ B n r.2.1 → (r.2.1.1 = 0 → er (υ 241) r.2.2 r.1 ∧ υ 233 15 = nI r.1) → b_X10_deeds_57 K υ
theorem m_deedsL {K : Int32 → Sg → Prop} (ht : mtp σ B n) : ∀ f m s τ E, n < s + f → St B n s → 9 * m ≤ s → mst σ τ B n (deedS B n s E m).1 → ((deedS B n s E m).1.1 = 0 → er (τ 241) (deedS B n s E m).2 (m + 1) ∧ τ 233 15 = nI (m + 1)) → Fres σ B n K (dsS B n f m s E) → b_X10_deeds_18 K f τ := by
  have hn := ht.1
  intro f
  induction f with
  | zero => intro m s τ E h1 h2; exact absurd h2.1 (by omega)
  | succ f ih =>
    intro m s τ E hf hs hm9 hm hd hR
    have hsn := hs.1
    rw [dsS_s] at hR
    show wp_X10_takes 59 τ _
    by_cases z : (deedS B n s E m).1.1 = 0
    · obtain ⟨p2, p3⟩ := deed_post hsn z
      rw [ic_t z] at hR
      obtain ⟨he, h15⟩ := hd z
      generalize hqq : deedS B n s E m = qq at *
      obtain ⟨⟨x0, s1⟩, E1⟩ := qq
      have z : x0 = 0 := z
      subst z
      have p2 : s + 8 ≤ s1 := p2
      have p3 : St B n s1 := p3
      refine m_T ht hm (fun q υ m1 k1 => br_f (by decide) ?_) (fun q υ m1 k1 => br_t rfl ?_)
      · have q' : s1 < n ∧ B s1 = 59 := q.2
        rw [ic_t (show (((0, s1), E1) : (Nat × Nat) × (Nat → Nat)).1.2 < n ∧ B (((0, s1), E1) : (Nat × Nat) × (Nat → Nat)).1.2 = 59 from q')] at hR
        have ng := nx_ge (B := B) p3.1
        have eb := (en_b (B := B) p3.1).2.2 q'.1
        have hns := nx_St (B := B) p3.1
        have hb := hns.1
        refine m_deed (m := m + 1) ht m1 (by omega) (er_f he (k1.1 241 (by decide))) (k1.2.trans h15) (fun υ2 m2 d2 => ?_)
        exact ih (m + 1) (nx B n s1) υ2 E1 (by omega) hns (by omega) m2 d2 hR
      · have q' : ¬ (s1 < n ∧ B s1 = 59) := fun y => q ⟨rfl, y⟩
        rw [ic_f (show ¬ ((((0, s1), E1) : (Nat × Nat) × (Nat → Nat)).1.2 < n ∧ B (((0, s1), E1) : (Nat × Nat) × (Nat → Nat)).1.2 = 59) from q')] at hR
        have g1 := (m1.2.2.1 rfl).1
        refine br_f (by rw [g1]; decide) ?_
        refine m_E ht m1 (fun y υ2 m2 k2 r2 => br_t rfl ?_) (fun y υ2 m2 k2 r2 => br_f (by decide) ?_)
        · rw [ic_t (show (((0, s1), E1) : (Nat × Nat) × (Nat → Nat)).1.2 < n from y)] at hR
          exact m_X m2 rfl (by decide) r2 (fun υ3 m3 k3 => hR υ3 m3 (fun w => absurd w (by show ¬ (1 : Nat) = 0; decide)))
        · rw [ic_f (show ¬ (((0, s1), E1) : (Nat × Nat) × (Nat → Nat)).1.2 < n from y)] at hR
          exact hR υ2 m2 (fun _ => ⟨er_f he (by rw [k2.1 241 (by decide), k1.1 241 (by decide)]), k2.2.trans (k1.2.trans h15)⟩)
    · rw [ic_f z] at hR
      refine m_T ht hm (fun q => absurd q.1 z) (fun q υ m1 k1 => br_t rfl ?_)
      exact br_t (m1.2.2.2 z).1 (hR υ m1 (fun w => absurd w z))
end
