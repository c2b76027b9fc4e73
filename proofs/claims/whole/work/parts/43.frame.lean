/-! FRAMES -/
theorem sea_congr {σ τ : Sg} {s : Nat} {R : Nat → Nat} (h : sea σ s R) (hk : ∀ k, s ≤ k → k ≤ s + 7 → τ k = σ k) : sea τ s R := by
  obtain ⟨h1, h2, h3⟩ := h
  unfold sea
  rw [hk s (by omega) (by omega), hk (s + 1) (by omega) (by omega), hk (s + 2) (by omega) (by omega), hk (s + 3) (by omega) (by omega), hk (s + 4) (by omega) (by omega), hk (s + 5) (by omega) (by omega), hk (s + 6) (by omega) (by omega), hk (s + 7) (by omega) (by omega)]
  exact ⟨h1, h2, h3⟩
theorem tapeR_congr {σ τ : Sg} {n : Nat} {B : Nat → Nat} (h : tapeR σ n B) (h1 : τ 1 1 = σ 1 1) (h2 : τ 2 = σ 2) (h3 : τ 233 9 = σ 233 9) (h4 : τ 240 = σ 240) : tapeR τ n B := by
  unfold tapeR
  rw [h1, h2, h3, h4]
  exact h
theorem bookR_congr {σ τ : Sg} {T : Nat → Nat} (hT : toldOk T) (h : bookR σ T) (h1 : τ 234 = σ 234) (h2 : τ 3 = σ 3) (h3 : ∀ k, 5 ≤ k → k < 27 → τ k = σ k) : bookR τ T := by
  obtain ⟨a1, a2, a3, a4, a5⟩ := h
  have ht0 := hT.1
  have ht1 := hT.2.1
  refine ⟨fun k hk => by rw [h1]; exact a1 k hk, by rw [h2]; exact a2, by rw [h2]; exact a3, fun c hc j hj => by rw [h3 (5 + c) (by omega) (by omega)]; exact a4 c hc j hj, fun c hc => ⟨fun j hj => by rw [h3 (18 + c) (by omega) (by omega)]; exact (a5 c hc).1 j hj, fun j hj => by rw [h3 (23 + c) (by omega) (by omega)]; exact (a5 c hc).2 j hj⟩⟩
theorem histR_congr {σ τ : Sg} {T : Nat → Nat} {m nx : Nat} {U : Nat → Nat → Nat} (h : histR σ T m nx U) (h1 : τ 63 = σ 63) (h2 : τ 233 5 = σ 233 5) (h3 : τ 237 = σ 237) (h4 : ∀ k, 65 ≤ k → k < 161 → τ k = σ k) : histR τ T m nx U := by
  obtain ⟨a1, a2, a3, a4, a5, a6⟩ := h
  refine ⟨a1, a2, by rw [h1]; exact a3, by rw [h1]; exact a4, by rw [h2]; exact a5, fun i hi => ?_⟩
  obtain ⟨b1, b2, b3⟩ := a6 i hi
  refine ⟨by rw [h3]; exact b1, b2, sea_congr b3 (fun k k1 k2 => h4 k (by omega) ?_)⟩
  have : (nx + 12 - m + i) % 12 < 12 := Nat.mod_lt _ (by decide)
  omega
theorem keptR_congr {σ τ : Sg} {T : Nat → Nat} {kb : Nat → Nat} {V : Nat → Nat → Nat} (h : keptR σ T kb V) (h1 : τ 178 = σ 178) (h2 : τ 239 = σ 239) (h3 : τ 238 = σ 238) (h4 : ∀ k, 162 ≤ k → k < 178 → τ k = σ k) : keptR τ T kb V := by
  intro k hk
  obtain ⟨a1, a2, a3, a4⟩ := h k hk
  refine ⟨a1, by rw [h1]; exact a2, by rw [h2]; exact a3, fun q => ?_⟩
  obtain ⟨b1, b2, b3⟩ := a4 q
  exact ⟨by rw [h3]; exact b1, b2, sea_congr b3 (fun j k1 k2 => h4 j (by omega) (by omega))⟩
theorem core_congr {σ τ : Sg} {T R : Nat → Nat} (h : core σ T R) (h1 : τ 234 = σ 234) (h2 : τ 236 = σ 236) (h3 : ∀ k, 3 ≤ k → k < 63 → (k < 27 ∨ 55 ≤ k) → τ k = σ k) : core τ T R := by
  obtain ⟨a1, a2, a3, a4, a5⟩ := h
  exact ⟨a1, a2, bookR_congr a1 a3 h1 (h3 3 (by omega) (by omega) (by omega)) (fun k k1 k2 => h3 k (by omega) (by omega) (by omega)), by rw [h2]; exact a4, sea_congr a5 (fun k k1 k2 => h3 k (by omega) (by omega) (by omega))⟩
theorem led_congr {σ τ : Sg} {T R : Nat → Nat} (hT : toldOk T) (h : led σ T R) (hk : ∀ k, 181 ≤ k → k ≤ 226 → τ k = σ k) : led τ T R := by
  obtain ⟨a1, a2, a3, a4⟩ := h
  have ht0 := hT.1
  have ht1 := hT.2.1
  refine ⟨fun b hb => ?_, fun c hc r hr => ?_, fun c hc => ?_, ?_⟩
  · unfold ledC
    rw [hk (182 + b) (by omega) (by omega), hk 225 (by omega) (by omega)]
    exact a1 b hb
  · unfold ledP
    rw [hk (200 + (6 * c + r)) (by omega) (by omega)]
    exact a2 c hc r hr
  · unfold ledU
    rw [hk (195 + c) (by omega) (by omega)]
    exact a3 c hc
  · unfold ledT
    rw [hk 226 (by omega) (by omega), hk 225 (by omega) (by omega)]
    exact a4
/-- the body of Inv -/
def In (σ : Sg) (n : Nat) (B T R : Nat → Nat) (m nx : Nat) (U : Nat → Nat → Nat) (kb : Nat → Nat) (V : Nat → Nat → Nat) : Prop :=
  tapeR σ n B ∧ (σ 1 5 = σ 233 11 ∧ σ 1 6 = σ 233 12) ∧ core σ T R ∧ histR σ T m nx U ∧ keptR σ T kb V ∧ ((T 0 = 0 → m = 0 ∧ kb 0 = 0 ∧ kb 1 = 0 ∧ R 0 = 0) ∧ isZ (σ 180 6) ∧ (σ 180 6 = 1 → led σ T R)) ∧ σ 229 0 = 0 ∧ σ 229 0 = 0
theorem In.inv {σ : Sg} {n : Nat} {B T R : Nat → Nat} {m nx : Nat} {U : Nat → Nat → Nat} {kb : Nat → Nat} {V : Nat → Nat → Nat} (h : In σ n B T R m nx U kb V) : Inv σ := ⟨n, B, T, R, m, nx, U, kb, V, h⟩
/-- what a question leaves as it was -/
def Qk (σ τ : Sg) : Prop := (∀ k, k < 179 → τ k = σ k) ∧ (∀ k, 234 ≤ k → k ≤ 240 → k ≠ 235 → τ k = σ k) ∧ τ 233 5 = σ 233 5 ∧ τ 233 9 = σ 233 9 ∧ τ 233 11 = σ 233 11 ∧ τ 233 12 = σ 233 12 ∧ τ 229 0 = σ 229 0 ∧ τ 229 0 = σ 229 0
theorem Qk.rf (σ : Sg) : Qk σ σ := ⟨fun _ _ => rfl, fun _ _ _ _ => rfl, rfl, rfl, rfl, rfl, rfl, rfl⟩
theorem Qk.tr {σ τ υ : Sg} (h : Qk σ τ) (g : Qk τ υ) : Qk σ υ := ⟨fun k hk => (g.1 k hk).trans (h.1 k hk), fun k a b c => (g.2.1 k a b c).trans (h.2.1 k a b c), g.2.2.1.trans h.2.2.1, g.2.2.2.1.trans h.2.2.2.1, g.2.2.2.2.1.trans h.2.2.2.2.1, g.2.2.2.2.2.1.trans h.2.2.2.2.2.1, g.2.2.2.2.2.2.1.trans h.2.2.2.2.2.2.1, g.2.2.2.2.2.2.2.trans h.2.2.2.2.2.2.2⟩
theorem Qk.fr {L : List Nat} {σ τ : Sg} (h : Fr L σ τ) (hL : ∀ k ∈ L, 179 ≤ k ∧ k ≠ 229 ∧ k ≠ 229 ∧ (k < 233 ∨ 240 < k)) : Qk σ τ := by
  have q : ∀ k, ¬ (179 ≤ k ∧ k ≠ 229 ∧ k ≠ 229 ∧ (k < 233 ∨ 240 < k)) → τ k = σ k := fun k hk => h k (fun hm => hk (hL k hm))
  exact ⟨fun k hk => q k (by omega), fun k a b c => q k (by omega), by rw [q 233 (by omega)], by rw [q 233 (by omega)], by rw [q 233 (by omega)], by rw [q 233 (by omega)], by rw [q 229 (by omega)], by rw [q 229 (by omega)]⟩
/-- a write into the reference's own notes -/
theorem Qk.m {σ τ : Sg} {j : Nat} {v : Int32} (h : Qk σ τ) (hj : j ≠ 5 ∧ j ≠ 9 ∧ j ≠ 11 ∧ j ≠ 12) : Qk σ (up τ 233 j v) := by
  refine h.tr ⟨fun k hk => up_o (by omega), fun k a b c => up_o (by omega), up_j hj.1.symm, up_j hj.2.1.symm, up_j hj.2.2.1.symm, up_j hj.2.2.2.symm, by rw [up_o (by decide)], by rw [up_o (by decide)]⟩
theorem Qk.k {σ τ : Sg} {a j : Nat} {v : Int32} (h : Qk σ τ) (ha : 179 ≤ a ∧ a ≠ 229 ∧ a ≠ 229 ∧ (a < 233 ∨ 240 < a)) : Qk σ (up τ a j v) :=
  h.tr (Qk.fr (L := [a]) (Fr.rf.up List.mem_cons_self) (fun k hk => by rw [List.mem_singleton.mp hk]; exact ha))
theorem In.q {σ τ : Sg} {n : Nat} {B T R : Nat → Nat} {m nx : Nat} {U : Nat → Nat → Nat} {kb : Nat → Nat} {V : Nat → Nat → Nat} (h : In σ n B T R m nx U kb V) (g : Qk σ τ) (hz : isZ (τ 180 6)) (hl : τ 180 6 = 1 → led τ T R) : In τ n B T R m nx U kb V := by
  obtain ⟨a1, a2, a3, a4, a5, a6, a7, a8⟩ := h
  obtain ⟨g1, g2, g3, g4, g5, g6, g7, g8⟩ := g
  refine ⟨tapeR_congr a1 (by rw [g1 1 (by omega)]) (g1 2 (by omega)) g4 (g2 240 (by omega) (by omega) (by omega)), ⟨by rw [g1 1 (by omega), g5]; exact a2.1, by rw [g1 1 (by omega), g6]; exact a2.2⟩, core_congr a3 (g2 234 (by omega) (by omega) (by omega)) (g2 236 (by omega) (by omega) (by omega)) (fun k _ k2 _ => g1 k (by omega)), histR_congr a4 (g1 63 (by omega)) g3 (g2 237 (by omega) (by omega) (by omega)) (fun k _ k2 => g1 k (by omega)), keptR_congr a5 (g1 178 (by omega)) (g2 239 (by omega) (by omega) (by omega)) (g2 238 (by omega) (by omega) (by omega)) (fun k _ k2 => g1 k (by omega)), ⟨a6.1, hz, hl⟩, by rw [g7]; exact a7, by rw [g8]; exact a8⟩
/-- a question that leaves the ledger, too -/
theorem In.qq {σ τ : Sg} {n : Nat} {B T R : Nat → Nat} {m nx : Nat} {U : Nat → Nat → Nat} {kb : Nat → Nat} {V : Nat → Nat → Nat} (h : In σ n B T R m nx U kb V) (g : Qk σ τ) (hk : ∀ k, 180 ≤ k → k ≤ 226 → τ k = σ k) : In τ n B T R m nx U kb V := by
  have e := hk 180 (by omega) (by omega)
  refine h.q g (by rw [e]; exact h.2.2.2.2.2.1.2.1) (fun q => ?_)
  rw [e] at q
  exact led_congr h.2.2.1.1 (h.2.2.2.2.2.1.2.2 q) (fun k a b => hk k (by omega) b)
theorem In.qm {σ : Sg} {n : Nat} {B T R : Nat → Nat} {m nx : Nat} {U : Nat → Nat → Nat} {kb : Nat → Nat} {V : Nat → Nat → Nat} {j : Nat} {v : Int32} (h : In σ n B T R m nx U kb V) (hj : j ≠ 5 ∧ j ≠ 9 ∧ j ≠ 11 ∧ j ≠ 12) : In (up σ 233 j v) n B T R m nx U kb V := h.qq ((Qk.rf σ).m hj) (fun k a b => up_o (by omega))
theorem op_fault : Op_fault Inv := by
  intro σ x h
  obtain ⟨n, B, T, R, m, nx, U, kb, V, h⟩ := h
  have h' : In (up σ 233 0 0) n B T R m nx U kb V := In.qm h (by decide)
  have e1 : up σ 233 0 0 233 11 = σ 233 11 := up_j (by decide)
  have e2 : up σ 233 0 0 233 12 = σ 233 12 := up_j (by decide)
  have f1 := h.2.1.1
  have f2 := h.2.1.2
  simp only [wp_X9_fault, wp_X10_fault, forall_eq, e1, e2]
  by_cases q : x = 0
  · simp only [br_T q]
    exact ⟨f1, h'.inv⟩
  · simp only [br_F q]
    by_cases q1 : x = 1
    · simp only [br_T q1]
      exact ⟨f2, h'.inv⟩
    · simp only [br_F q1]
      exact ⟨trivial, h'.inv⟩
theorem op_end : Op_end Inv := by
  intro σ x h
  obtain ⟨n, B, T, R, m, nx, U, kb, V, h⟩ := h
  have hn := h.1.1
  have e0 : σ 1 1 = nI n := h.1.2.1
  have e9 : up σ 233 0 0 233 9 = nI n := (up_j (by decide)).trans h.1.2.2.1
  have c1 : up (up σ 1 1 x) 233 0 0 233 9 = nI n := by rw [up_j (by decide), up_o (by decide)]; exact h.1.2.2.1
  unfold wp_X9_end
  rw [e0, br2L (by omega)]
  simp only [wp_X10_end, forall_eq, e9, c1, wi (wi0 (show n < 2 ^ 30 by omega))]
  refine ⟨fun q => ?_, fun q => ?_⟩
  · simp only [br_T q]
    refine br_f (by decide) ⟨trivial, ?_⟩
    obtain ⟨j, hj, hj2, rfl⟩ := vin_of (by omega) q
    obtain ⟨a1, a2, a3, a4, a5, a6, a7, a8⟩ := h
    have o1 : ∀ k, k ≠ 1 → k ≠ 233 → (up (up (up σ 1 1 (nI j)) 233 0 0) 233 9 (nI j)) k = σ k := fun k k1 k2 => by rw [up_o k2, up_o k2, up_o k1]
    have o2 : ∀ i, i ≠ 0 → i ≠ 9 → (up (up (up σ 1 1 (nI j)) 233 0 0) 233 9 (nI j)) 233 i = σ 233 i := fun i k1 k2 => by rw [up_j k2, up_j k1, up_o (by decide)]
    have o3 : ∀ i, i ≠ 1 → (up (up (up σ 1 1 (nI j)) 233 0 0) 233 9 (nI j)) 1 i = σ 1 i := fun i k1 => by rw [up_o (by decide), up_o (by decide), up_j k1]
    have o4 : (up (up (up σ 1 1 (nI j)) 233 0 0) 233 9 (nI j)) 1 1 = nI j := by rw [up_o (by decide), up_o (by decide), up_s]
    have o5 : (up (up (up σ 1 1 (nI j)) 233 0 0) 233 9 (nI j)) 233 9 = nI j := up_s
    generalize up (up (up σ 1 1 (nI j)) 233 0 0) 233 9 (nI j) = τ at o1 o2 o3 o4 o5
    refine ⟨j, B, T, R, m, nx, U, kb, V, ⟨by omega, o4, o5, fun i hi => ?_⟩, ?_, core_congr a3 (o1 _ (by decide) (by decide)) (o1 _ (by decide) (by decide)) (fun k _ _ _ => o1 k (by omega) (by omega)), histR_congr a4 (o1 _ (by decide) (by decide)) (o2 _ (by decide) (by decide)) (o1 _ (by decide) (by decide)) (fun k _ _ => o1 k (by omega) (by omega)), keptR_congr a5 (o1 _ (by decide) (by decide)) (o1 _ (by decide) (by decide)) (o1 _ (by decide) (by decide)) (fun k _ _ => o1 k (by omega) (by omega)), ?_, ?_⟩
    · rw [o1 2 (by decide) (by decide), o1 240 (by decide) (by decide)]
      exact a1.2.2.2 i (by omega)
    · rw [o2 11 (by decide) (by decide), o2 12 (by decide) (by decide), o3 5 (by decide), o3 6 (by decide)]
      exact a2
    · rw [o1 180 (by decide) (by decide)]
      exact ⟨a6.1, a6.2.1, fun q => led_congr a3.1 (a6.2.2 q) (fun k _ _ => o1 k (by omega) (by omega))⟩
    · rw [o1 229 (by decide) (by decide)]
      exact ⟨a7, a8⟩
  · simp only [br_F q]
    exact br_t trivial ⟨trivial, (In.qm h (by decide)).inv⟩
