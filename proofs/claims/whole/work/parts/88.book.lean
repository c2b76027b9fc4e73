/-! book() -/
section
variable {σ : Sg} {B : Nat → Nat} {n : Nat}
theorem c_rew {K : Sg → Prop} (h : tp σ B n) (hK : ∀ υ : Sg, (∀ k, k ≠ 1 → υ k = σ k) → υ 1 1 = σ 1 1 → ct υ B n (ex B n 1 0) → υ 1 5 = 0 → υ 1 6 = -1 → K υ) : wp_X4_rewind σ K := by
  intro τ1 e1 τ2 e2 τ3 e3
  have o : ∀ k, k ≠ 1 → τ3 k = σ k := fun k hk => by rw [e3, up_o hk, e2, up_o hk, e1, up_o hk]
  have o1 : τ3 1 1 = σ 1 1 := by rw [e3, up_j (by decide), e2, up_j (by decide), e1, up_j (by decide)]
  have h3 : tp τ3 B n := ⟨h.1, by rw [o1]; exact h.2.1, by rw [o 2 (by decide)]; exact h.2.2⟩
  refine c_step (p := 0) h3 (by rw [e3, up_s]; rfl) (Nat.zero_le _) (fun υ c1 c2 => hK υ (fun k hk => by rw [c1.1 k hk]; exact o k hk) (by rw [c1.2 1 (by decide) (by decide) (by decide)]; exact o1) c2 ?_ ?_)
  · rw [c1.2 5 (by decide) (by decide) (by decide), e3, up_j (by decide), e2, up_j (by decide), e1, up_s]
  · rw [c1.2 6 (by decide) (by decide) (by decide), e3, up_j (by decide), e2, up_s]
theorem m_b155 {K : Int32 → Sg → Prop} {y1 : Int32} (hK : ∀ τ : Sg, (∀ k, k ≠ 236 → k ≠ 233 → k ≠ 239 → τ k = σ k) → (∀ j, j ≠ 5 → τ 233 j = σ 233 j) → τ 233 5 = 0 → (∀ k, k < 415 → τ 236 k = 0) → (∀ k, k < 2 → τ 239 k = 0) → K y1 τ) : ∀ d y τ, y + d = 415 → (∀ k, k ≠ 236 → τ k = σ k) → (∀ k, k < y → τ 236 k = 0) → b_X10_book_155 K (d + 1) y1 (nI y) τ := by
  intro d
  induction d with
  | zero =>
    intro y τ hy f g
    have : y = 415 := by omega
    subst this
    refine br_t (by decide) (fun τ1 e1 τ2 e2 τ3 e3 => hK τ3 (fun k a b c => by rw [e3, up_o c, e2, up_o c, e1, up_o b]; exact f k a) (fun j hj => by rw [e3, up_o (by decide), e2, up_o (by decide), e1, up_j hj, f 233 (by decide)]) (by rw [e3, up_o (by decide), e2, up_o (by decide), e1, up_s]) (fun k hk => by rw [e3, up_o (by decide), e2, up_o (by decide), e1, up_o (by decide)]; exact g k hk) (fun k hk => ?_))
    rcases (show k = 0 ∨ k = 1 by omega) with rfl | rfl
    · rw [e3, up_j (by decide), e2, up_s]
    · rw [e3, up_s]
  | succ d ih =>
    intro y τ hy f g
    refine br_f (nI_ge (b := 415) (by omega) (by decide)) ?_
    rw [vin_T (show y < 415 by omega) (by decide), cl_I (by omega), true_and]
    intro τ1 e1 v ev
    rw [ev, nI_1]
    refine ih (y + 1) τ1 (by omega) (fun k hk => by rw [e1, up_o hk]; exact f k hk) (fun k hk => ?_)
    rw [e1, up_r]
    by_cases z : k = y
    · rw [if_pos z]
    · rw [if_neg z]; exact g k (by omega)
theorem m_b129 {K : Int32 → Sg → Prop} {y1 : Int32} (hK : ∀ τ : Sg, (∀ k, k ≠ 234 → τ k = σ k) → (∀ k, k < 106 → τ 234 k = σ 235 k) → ∃ nf, b_X10_book_155 K nf y1 0 τ) : ∀ d y τ, y + d = 106 → (∀ k, k ≠ 234 → τ k = σ k) → (∀ k, k < y → τ 234 k = σ 235 k) → b_X10_book_129 K (d + 1) y1 (nI y) τ := by
  intro d
  induction d with
  | zero =>
    intro y τ hy f g
    have : y = 106 := by omega
    subst this
    exact br_t (by decide) (hK τ f g)
  | succ d ih =>
    intro y τ hy f g
    refine br_f (nI_ge (b := 106) (by omega) (by decide)) ?_
    rw [vin_T (show y < 106 by omega) (by decide), cl_I (by omega), true_and, true_and]
    intro τ1 e1 v ev
    rw [ev, nI_1]
    refine ih (y + 1) τ1 (by omega) (fun k hk => by rw [e1, up_o hk]; exact f k hk) (fun k hk => ?_)
    rw [e1, up_r]
    by_cases z : k = y
    · rw [if_pos z, z, f 235 (by decide)]
    · rw [if_neg z]; exact g k (by omega)
theorem m_b11 {K : Int32 → Sg → Prop} (hK : ∀ τ : Sg, (∀ k, k ≠ 235 → τ k = σ k) → md τ (fun _ => 0) → wp_X10_readLine τ (fun τ33 => ∃ nf, b_X10_book_36 K nf 1 τ33)) : ∀ d y τ, y + d = 106 → (∀ k, k ≠ 235 → τ k = σ k) → (∀ k, k < y → τ 235 k = 0) → b_X10_book_11 K (d + 1) (nI y) τ := by
  intro d
  induction d with
  | zero =>
    intro y τ hy f g
    have : y = 106 := by omega
    subst this
    exact br_t (by decide) (hK τ f g)
  | succ d ih =>
    intro y τ hy f g
    refine br_f (nI_ge (b := 106) (by omega) (by decide)) ?_
    rw [vin_T (show y < 106 by omega) (by decide), cl_I (by omega), true_and]
    intro τ1 e1 v ev
    rw [ev, nI_1]
    refine ih (y + 1) τ1 (by omega) (fun k hk => by rw [e1, up_o hk]; exact f k hk) (fun k hk => ?_)
    rw [e1, up_r]
    by_cases z : k = y
    · rw [if_pos z]
    · rw [if_neg z]; exact g k (by omega)
theorem m_btx {K : Sg → Prop} (hn : mtp σ B n) (hK : ∀ τ : Sg, (∀ k, k ≠ 233 → τ k = σ k) → mst σ τ B n (0, ex B n 1 0) → (∀ j, ¬ (10 ≤ j ∧ j ≤ 13) → τ 233 j = σ 233 j) → K τ) : wp_X10_beginText σ K := by
  intro τ1 e1 τ2 e2 τ3 e3 τ4 e4
  have o : ∀ k, k ≠ 233 → τ4 k = σ k := fun k hk => by rw [e4, up_o hk, e3, up_o hk, e2, up_o hk, e1, up_o hk]
  have oj : ∀ j, ¬ (10 ≤ j ∧ j ≤ 13) → τ4 233 j = σ 233 j := fun j hj => by rw [e4, up_j (by omega), e3, up_j (by omega), e2, up_j (by omega), e1, up_j (by omega)]
  refine hK τ4 o ⟨⟨fun k a _ _ => o k a, fun j hj => oj j (by omega)⟩, ⟨0, Nat.zero_le _, ?_, fun _ => rfl⟩, fun _ => ⟨?_, ?_, ?_⟩, fun z => absurd rfl z⟩ oj
  · rw [e4, up_j (by decide), e3, up_j (by decide), e2, up_j (by decide), e1, up_s]; rfl
  · rw [e4, up_j (by decide), e3, up_j (by decide), e2, up_s]
  · rw [e4, up_j (by decide), e3, up_s]
  · rw [e4, up_s]
theorem dOk_0 : dOk (fun _ => 0) := ⟨⟨by show 0 ≤ 12; omega, by show 0 ≤ 4; omega, fun k => by show 0 < 100000; omega, fun c hc => absurd hc (by show ¬ c < 0; omega), fun c hc => absurd hc (by show ¬ c < 0; omega)⟩, fun k _ => rfl⟩
end
theorem op_book : Op_book Inv := by
  intro σ h
  obtain ⟨n, B, T, R, m, nx, U, kb, V, h⟩ := h
  have h : In σ n B T R m nx U kb V := h
  have hco := h.2.2.1
  have htp := h.1
  have hn6 := htp.1
  have t1 : tp σ B n := ⟨htp.1, htp.2.1, fun i hi => ⟨(htp.2.2.2 i hi).1, (htp.2.2.2 i hi).2.1⟩⟩
  have s0 : St B n (ex B n 1 0) := ex_St (Nat.zero_le _)
  -- the reference, from a store that the class left
  have mdl : ∀ (τ : Sg) (v : Int32), (∀ k, k = 233 ∨ k = 240 → τ k = σ k) → (∀ (υ : Sg) (y : Int32), mst (up τ 233 0 0) υ B n (bkS B n (n + 1) 0 (ex B n 1 0) (fun _ => 0)).2.1 → ((bkS B n (n + 1) 0 (ex B n 1 0) (fun _ => 0)).2.1.1 = 0 → md υ (bkS B n (n + 1) 0 (ex B n 1 0) (fun _ => 0)).2.2 ∧ y = nI (bkS B n (n + 1) 0 (ex B n 1 0) (fun _ => 0)).1) → b_X10_book_113 (fun r' υ => v = r' ∧ Inv υ) y υ) → wp_X10_book τ (fun r' υ => v = r' ∧ Inv υ) := by
    intro τ v hτ hK τ1 e1
    have ht1 : mtp τ1 B n := ⟨htp.1, by rw [e1, up_j (by decide), hτ 233 (Or.inl rfl)]; exact htp.2.2.1, fun i hi => ⟨(htp.2.2.2 i hi).1, by rw [e1, up_o (by decide), hτ 240 (Or.inr rfl)]; exact (htp.2.2.2 i hi).2.2⟩⟩
    rw [← e1] at hK
    refine m_btx ht1 (fun τ2 o2 m2 _ => ⟨_, m_b11 (fun τ3 f3 d3 => ?_) 106 0 τ2 (by omega) (fun _ _ => rfl) (fun k hk => by omega)⟩)
    have m3 : mst τ1 τ3 B n (0, ex B n 1 0) := by
      have e234 : τ3 233 = τ2 233 := f3 233 (by decide)
      obtain ⟨a1, a2, a3, a4⟩ := m2
      exact ⟨⟨fun k b c d => by rw [f3 k c]; exact a1.1 k b c d, fun j hj => by rw [e234]; exact a1.2 j hj⟩, by rw [e234]; exact a2, by rw [e234]; exact a3, by rw [e234]; exact a4⟩
    refine m_rLine ht1 m3 s0.1 d3 dOk_0 (fun υ m4 d4 => ⟨_, m_bookL ht1 (n + 1) 0 (ex B n 1 0) υ (fun _ => 0) (by omega) s0 dOk_0 m4 d4 hK⟩)
  unfold wp_X9_book wp_X0_readBook
  refine c_clr5 (fun τ1 f1 d1 τ2 e2 => ?_)
  have o2 : ∀ k, ¬ (27 ≤ k ∧ k ≤ 54) → τ2 k = σ k := fun k hk => by rw [e2, up_o (by omega), f1 k (by omega)]
  have tp2 : tp τ2 B n := ⟨t1.1, by rw [o2 1 (by omega)]; exact t1.2.1, by rw [o2 2 (by omega)]; exact t1.2.2⟩
  have d2 : dr τ2 (fun _ => 0) := dr_fr d1 dOk_0 (fun k a b => by rw [e2, up_o (by omega)])
  refine c_rew tp2 (fun τ3 f3 f31 c3 f35 f36 => ⟨_, c_bookL hn6 (n + 1) 0 (ex B n 1 0) τ3 (fun _ => 0) (by omega) s0 (by omega) ⟨⟨fun k hk => by rw [f3 k (by omega), o2 k (by omega)], by rw [f31, o2 1 (by omega)]⟩, c3, f35, f36⟩ (dr_fr d2 dOk_0 (fun k a b => f3 k (by omega))) dOk_0 (by rw [f3 27 (by decide), e2, up_s]; rfl) ⟨fun z τ4 g4 d4 k4 k42 l4 τ5 e5 => br_f (by decide) ?_, fun z τ4 b4 τ5 e5 => br_t rfl ?_⟩⟩)
  · -- a BOOK
    generalize hrr : bkS B n (n + 1) 0 (ex B n 1 0) (fun _ => 0) = rr at *
    obtain ⟨ln, ⟨⟨x0, sx⟩, D⟩⟩ := rr
    have z : x0 = 0 := z
    subst z
    have d4 : dr τ4 D := d4
    have k4 : dOk D := k4
    have k42 : 2 ≤ D 0 := k42
    have l4 : τ4 27 3 = nI ln := l4
    have d5 : dr τ5 D := dr_fr d4 k4 (fun k a b => by rw [e5, up_o (by omega)])
    have o5 : ∀ k, ¬ (k = 1 ∨ (27 ≤ k ∧ k ≤ 54)) → τ5 k = σ k := fun k hk => by rw [e5, up_o (by omega)]; exact g4.1.1 k hk
    refine c_cpy5 d5 k4 (fun τ6 f6 c60 c61 c62 c63 τ7 e7 τ8 e8 τ9 e9 => ?_)
    have lp : ∀ K : Int32 → Sg → Prop, (∀ ω : Sg, (∀ k, k ≠ 178 → k ≠ 180 → ω k = τ9 k) → (∀ k, k < 2 → ω 178 k = 0) → ω 180 6 = 0 → (∀ j, j ≠ 6 → ω 180 j = τ9 180 j) → K (ω 27 3) ω) → ∃ nf, b_X9_book_52 K nf 0 τ9 := by
      intro K hK
      refine ⟨3, br_f (by decide) ?_⟩
      refine ⟨vp_in_nI (n := 0) (by decide) (by decide), fun a1 q1 v1 w1 => ?_⟩
      rw [w1]
      refine br_f (by decide) ⟨vp_in_nI (n := 1) (by decide) (by decide), fun a2 q2 v2 w2 => ?_⟩
      rw [w2]
      refine br_t (by decide) (fun a3 q3 => hK a3 (fun k a b => ?_) (fun k hk => ?_) (by rw [q3, up_s]) (fun j hj => ?_))
      · rw [q3, up_o b, q2, up_o a, q1, up_o a]
      · rw [q3, up_o (by decide), q2]
        rcases (show k = 0 ∨ k = 1 by omega) with rfl | rfl
        · rw [show ((0 : Int32) + 1).toNatClampNeg = 1 from rfl, up_j (by decide), q1]; exact up_s
        · exact up_s
      · rw [q3, up_j hj, q2, up_o (by decide), q1, up_o (by decide)]
    refine lp _ (fun ω w1 w2 w3 w4 => ?_)
    have q9 : ∀ k, k ≠ 55 → k ≠ 63 → τ9 k = τ6 k := fun k a b => by rw [e9, up_o b, e8, up_o a, e7, up_o a]
    have oω : ∀ k, ¬ (k = 1 ∨ (3 ≤ k ∧ k ≤ 55) ∨ k = 63 ∨ k = 178 ∨ k = 180) → ω k = σ k := fun k hk => by rw [w1 k (by omega) (by omega), q9 k (by omega) (by omega), f6 k (by omega), o5 k (by omega)]
    have r27 : ω 27 3 = nI ln := by rw [w1 27 (by decide) (by decide), q9 27 (by decide) (by decide), f6 27 (by omega), e5, up_o (by decide)]; exact l4
    rw [r27]
    refine mdl ω (nI ln) (fun k hk => oω k (by omega)) (fun υ y m5 dm => ?_)
    obtain ⟨dmd, ey⟩ := dm rfl
    have dmd : md υ D := dmd
    have ey : y = nI ln := ey
    have m5 : mst (up ω 233 0 0) υ B n (0, sx) := m5
    obtain ⟨g13, g11, g12⟩ := m5.2.2.1 rfl
    intro υ1 u1
    refine br_f (by rw [u1, up_j (by decide), g13]; decide) ⟨_, m_b129 (fun υ2 a1 a2 => ⟨_, m_b155 (fun υ3 b1 b2 b3 b4 b5 => ⟨ey.symm, ?_⟩) 415 0 υ2 (by omega) (fun _ _ => rfl) (fun k hk => by omega)⟩) 106 0 υ1 (by omega) (fun _ _ => rfl) (fun k hk => by omega)⟩
    have oυ : ∀ k, k ≠ 233 → k ≠ 234 → k ≠ 235 → k ≠ 236 → k ≠ 239 → k ≠ 241 → υ3 k = ω k := fun k c1 c2 c3 c4 c5 c6 => by
      rw [b1 k c4 c1 c5, a1 k c2, u1, up_o c1, m5.1.1 k c1 c3 c6, up_o c1]
    have oj : ∀ j, j ≠ 0 → j ≠ 5 → j ≠ 9 → ¬ (10 ≤ j ∧ j ≤ 15) → υ3 233 j = σ 233 j := fun j c1 c2 c3 c4 => by
      rw [b2 j c2, a1 233 (by decide), u1, up_j c3, m5.1.2 j c4, up_j c1, oω 233 (by omega)]
    obtain ⟨hh, hh2⟩ := h.2.2.2.1
    refine (show In υ3 0 B D (fun _ => 0) 0 nx U (fun _ => 0) V from ⟨⟨by omega, ?_, ?_, fun i hi => by omega⟩, ⟨?_, ?_⟩, ⟨k4.1, ⟨by show 0 ≤ 30; omega, fun k => by show 0 < 100000; omega, fun t ht => absurd ht (by show ¬ t < 0; omega), fun k hk => by show 0 ≤ 1; omega⟩, ⟨fun k hk => ?_, ?_, ?_, fun c hc j hj => ?_, fun c hc => ⟨fun j hj => ?_, fun j hj => ?_⟩⟩, fun k hk => ?_, ⟨?_, fun j hj => ?_, fun t ht => absurd ht (by show ¬ t < 0; omega)⟩⟩, ⟨hh, by omega, ?_, ?_, ?_, fun i hi => by omega⟩, fun k hk => ⟨by show 0 ≤ 1; omega, ?_, ?_, fun q => absurd q (by show ¬ (0 : Nat) = 1; decide)⟩, ⟨fun _ => ⟨rfl, rfl, rfl, rfl⟩, ?_, fun q => ?_⟩, ?_, ?_⟩).inv
    · rw [oυ 1 (by omega) (by omega) (by omega) (by omega) (by omega) (by omega), w1 1 (by omega) (by omega), q9 1 (by omega) (by omega), f6 1 (by omega), e5, up_s]; rfl
    · rw [b2 9 (by decide), a1 233 (by decide), u1, up_s]; rfl
    · rw [oυ 1 (by omega) (by omega) (by omega) (by omega) (by omega) (by omega), w1 1 (by omega) (by omega), q9 1 (by omega) (by omega), f6 1 (by omega), e5, up_j (by decide), g4.2.2.1, b2 11 (by decide), a1 233 (by decide), u1, up_j (by decide), g11]
    · rw [oυ 1 (by omega) (by omega) (by omega) (by omega) (by omega) (by omega), w1 1 (by omega) (by omega), q9 1 (by omega) (by omega), f6 1 (by omega), e5, up_j (by decide), g4.2.2.2, b2 12 (by decide), a1 233 (by decide), u1, up_j (by decide), g12]
    · rw [b1 234 (by decide) (by decide) (by decide), a2 k hk, u1, up_o (by decide)]; exact dmd k hk
    · rw [oυ 3 (by omega) (by omega) (by omega) (by omega) (by omega) (by omega), w1 3 (by omega) (by omega), q9 3 (by omega) (by omega)]; exact c60
    · rw [oυ 3 (by omega) (by omega) (by omega) (by omega) (by omega) (by omega), w1 3 (by omega) (by omega), q9 3 (by omega) (by omega)]; exact c61
    · have b0 := k4.1.1
      rw [oυ _ (by omega) (by omega) (by omega) (by omega) (by omega) (by omega), w1 _ (by omega) (by omega), q9 _ (by omega) (by omega)]; exact c62 c hc j hj
    · have b0 := k4.1.2.1
      rw [oυ _ (by omega) (by omega) (by omega) (by omega) (by omega) (by omega), w1 _ (by omega) (by omega), q9 _ (by omega) (by omega)]; exact (c63 c hc).1 j hj
    · have b0 := k4.1.2.1
      rw [oυ _ (by omega) (by omega) (by omega) (by omega) (by omega) (by omega), w1 _ (by omega) (by omega), q9 _ (by omega) (by omega)]; exact (c63 c hc).2 j hj
    · exact b4 k hk
    · rw [oυ 55 (by omega) (by omega) (by omega) (by omega) (by omega) (by omega), w1 55 (by omega) (by omega), e9, up_o (by decide), e8, up_j (by decide), e7, up_s]; rfl
    · rw [oυ 55 (by omega) (by omega) (by omega) (by omega) (by omega) (by omega), w1 55 (by omega) (by omega), e9, up_o (by decide), e8, up_s, bt_0]
      simp
    · rw [oυ 63 (by omega) (by omega) (by omega) (by omega) (by omega) (by omega), w1 63 (by omega) (by omega), e9, up_j (by decide), e8, up_o (by decide), e7, up_o (by decide), f6 63 (by omega), o5 63 (by omega)]; exact hh2.2.1
    · rw [oυ 63 (by omega) (by omega) (by omega) (by omega) (by omega) (by omega), w1 63 (by omega) (by omega), e9, up_s]; rfl
    · rw [b3]; rfl
    · rw [oυ 178 (by omega) (by omega) (by omega) (by omega) (by omega) (by omega)]; exact w2 k hk
    · exact b5 k hk
    · rw [oυ 180 (by omega) (by omega) (by omega) (by omega) (by omega) (by omega), w3]; exact isZ_0
    · rw [oυ 180 (by omega) (by omega) (by omega) (by omega) (by omega) (by omega), w3] at q; exact absurd q (by decide)
    · rw [oυ 229 (by omega) (by omega) (by omega) (by omega) (by omega) (by omega), oω 229 (by omega)]; exact h.2.2.2.2.2.2.1
    · rw [oυ 229 (by omega) (by omega) (by omega) (by omega) (by omega) (by omega), oω 229 (by omega)]; exact h.2.2.2.2.2.2.2
  · -- a FAULT
    generalize hrr : bkS B n (n + 1) 0 (ex B n 1 0) (fun _ => 0) = rr at *
    have o5 : ∀ k, ¬ (k = 1 ∨ (27 ≤ k ∧ k ≤ 54)) → τ5 k = σ k := fun k hk => by rw [e5, up_o (by omega)]; exact b4.1.1 k hk
    refine mdl τ5 (-1) (fun k hk => o5 k (by omega)) (fun υ y m5 dm => ?_)
    obtain ⟨g13, g11, g12⟩ := m5.2.2.2 z
    intro υ1 u1
    refine br_t (by rw [u1, up_j (by decide)]; exact g13) ⟨rfl, ?_⟩
    have oυ : ∀ k, k ≠ 233 → k ≠ 235 → k ≠ 241 → υ1 k = τ5 k := fun k c1 c2 c3 => by rw [u1, up_o c1, m5.1.1 k c1 c2 c3, up_o c1]
    refine (h.tp (n' := 0) (B' := B) (fun k hk => ?_) ?_ ⟨by omega, ?_, ?_, fun i hi => by omega⟩ ⟨?_, ?_⟩).inv
    · unfold Kp at hk
      rw [oυ k (by omega) (by omega) (by omega), o5 k (by omega)]
    · rw [u1, up_j (by decide), m5.1.2 5 (by omega), up_j (by decide), o5 233 (by omega)]
    · rw [oυ 1 (by decide) (by decide) (by decide), e5, up_s]; rfl
    · rw [u1, up_s]; rfl
    · rw [oυ 1 (by decide) (by decide) (by decide), e5, up_j (by decide), b4.2.1, u1, up_j (by decide), g11]
    · rw [oυ 1 (by decide) (by decide) (by decide), e5, up_j (by decide), b4.2.2, u1, up_j (by decide), g12]
