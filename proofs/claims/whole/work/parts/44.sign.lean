/-! SIGN -/
/-- what the tape's changes leave -/
def Kp (k : Nat) : Prop := (3 ≤ k ∧ k < 27) ∨ (55 ≤ k ∧ k < 179) ∨ (180 ≤ k ∧ k ≤ 226) ∨ k = 229 ∨ k = 229 ∨ k = 234 ∨ (236 ≤ k ∧ k ≤ 239)
theorem In.tp {σ τ : Sg} {n n' : Nat} {B B' T R : Nat → Nat} {m nx : Nat} {U : Nat → Nat → Nat} {kb : Nat → Nat} {V : Nat → Nat → Nat} (h : In σ n B T R m nx U kb V) (o : ∀ k, Kp k → τ k = σ k) (o5 : τ 233 5 = σ 233 5) (ht : tapeR τ n' B') (hf : τ 1 5 = τ 233 11 ∧ τ 1 6 = τ 233 12) : In τ n' B' T R m nx U kb V := by
  obtain ⟨a1, a2, a3, a4, a5, a6, a7, a8⟩ := h
  have o' : ∀ k, ((3 ≤ k ∧ k < 27) ∨ (55 ≤ k ∧ k < 179) ∨ (180 ≤ k ∧ k ≤ 226) ∨ k = 229 ∨ k = 229 ∨ k = 234 ∨ (236 ≤ k ∧ k ≤ 239)) → τ k = σ k := o
  refine ⟨ht, hf, core_congr a3 (o' _ (by omega)) (o' _ (by omega)) (fun k _ _ _ => o' k (by omega)), histR_congr a4 (o' _ (by omega)) o5 (o' _ (by omega)) (fun k _ _ => o' k (by omega)), keptR_congr a5 (o' _ (by omega)) (o' _ (by omega)) (o' _ (by omega)) (fun k _ _ => o' k (by omega)), ?_, ?_⟩
  · rw [o' 180 (by omega)]
    exact ⟨a6.1, a6.2.1, fun q => led_congr a3.1 (a6.2.2 q) (fun k _ _ => o' k (by omega))⟩
  · rw [o' 229 (by omega)]
    exact ⟨a7, a8⟩
def byt (y : Int32) : Nat := y.toBitVec.toNat % 256
theorem byt_lt (y : Int32) : byt y < 256 := Nat.mod_lt _ (by decide)
theorem byt_and (y : Int32) : y &&& 255 = nI (byt y) := pk_and y 8 (by decide)
theorem byt_8 (y : Int32) : y.toInt8.toInt32 = sb_b (byt y) := by
  unfold sb_b
  congr 1
  apply Int8.toBitVec_inj.mp
  rw [Int32.toBitVec_toInt8, Int32.toBitVec_toInt8]
  apply BitVec.eq_of_getLsbD_eq
  intro j hj
  rw [BitVec.getLsbD_signExtend, BitVec.getLsbD_signExtend, if_pos (by omega), if_pos (by omega)]
  congr 1
  unfold byt
  show y.toBitVec.toNat.testBit j = (nI (y.toBitVec.toNat % 256)).toBitVec.toNat.testBit j
  rw [pk_tn (Nat.lt_trans (Nat.mod_lt _ (by decide)) (by decide)), show 256 = 2 ^ 8 from rfl, Nat.testBit_mod_two_pow]
  simp [hj]
def shb (x y : Int32) : Int32 := (x.toUInt32 >>> (Int32.toUInt32 y &&& Int32.toUInt32 31)).toInt32
theorem app_s {x y : Int32} {σ : Sg} {K : Int32 → Sg → Prop} {k i : Nat} (hi : i < 600) (hs : σ 1 1 = nI i) (hy : ¬ y < 0) (h : b_X4_append_17 x K k (y + (-8)) (up (up σ 2 i (nI (byt (shb x y)))) 1 1 (nI (i + 1)))) : b_X4_append_17 x K (k + 1) y σ := by
  refine br_f hy ⟨by rw [hs]; exact (vin_I (by omega)).mpr hi, ?_⟩
  intro τ e τ' e' v ev
  rw [hs, nI_clamp (by omega)] at e
  have e2 : τ = up σ 2 i (nI (byt (shb x y))) := by rw [e]; congr 1; exact byt_and (shb x y)
  have e3 : τ 1 1 + 1 = nI (i + 1) := by rw [e2, up_o (by decide), hs, nI_1]
  rw [e3, e2] at e'
  rw [e', ev]
  exact h
theorem sgn_s {x y : Int32} {σ : Sg} {K : Int32 → Sg → Prop} {k i : Nat} (hi : i < 600) (hs : σ 233 9 = nI i) (hy : ¬ y < 0) (h : b_X10_sign_22 x K k (y + (-8)) (up (up σ 240 i (sb_b (byt (shb x y)))) 233 9 (nI (i + 1)))) : b_X10_sign_22 x K (k + 1) y σ := by
  refine br_f hy ⟨by rw [hs]; exact (vin_I (by omega)).mpr hi, ?_⟩
  intro τ e τ' e' v ev
  rw [hs, nI_clamp (by omega)] at e
  have e2 : τ = up σ 240 i (sb_b (byt (shb x y))) := by rw [e]; congr 1; exact byt_8 (shb x y)
  have e3 : τ 233 9 + 1 = nI (i + 1) := by rw [e2, up_o (by decide), hs, nI_1]
  rw [e3, e2] at e'
  rw [e', ev]
  exact h
def byf (x : Int32) (n i : Nat) : Nat := if i = n then byt (shb x 24) else if i = n + 1 then byt (shb x 16) else if i = n + 2 then byt (shb x 8) else byt (shb x 0)
theorem app_all {x : Int32} {σ : Sg} {K : Int32 → Sg → Prop} {n : Nat} (hn : n + 4 ≤ 600) (hs : σ 1 1 = nI n) (h : ∀ τ : Sg, Fr [1, 2] σ τ → τ 1 1 = nI (n + 4) → τ 1 5 = σ 1 5 → τ 1 6 = σ 1 6 → (∀ i, i < n → τ 2 i = σ 2 i) → (∀ i, n ≤ i → i < n + 4 → τ 2 i = nI (byf x n i)) → K 1 τ) : ∃ nf, b_X4_append_17 x K nf 24 σ := by
  refine ⟨5, app_s (i := n) (by omega) hs (by decide) (app_s (i := n + 1) (by omega) up_s (by decide) (app_s (i := n + 2) (by omega) up_s (by decide) (app_s (i := n + 3) (by omega) up_s (by decide) (br_t (by decide) (h _ ?_ ?_ ?_ ?_ ?_ ?_)))))⟩
  · exact Fr.rf.up (by decide) |>.up (by decide) |>.up (by decide) |>.up (by decide) |>.up (by decide) |>.up (by decide) |>.up (by decide) |>.up (by decide)
  · exact up_s
  · simp only [up_o (show (1 : Nat) ≠ 2 by decide), up_j (show (5 : Nat) ≠ 1 by decide)]
  · simp only [up_o (show (1 : Nat) ≠ 2 by decide), up_j (show (6 : Nat) ≠ 1 by decide)]
  · intro i hi
    simp only [up_o (show (2 : Nat) ≠ 1 by decide), up_j (show i ≠ n + 3 by omega), up_j (show i ≠ n + 2 by omega), up_j (show i ≠ n + 1 by omega), up_j (show i ≠ n by omega)]
  · intro i h1 h2
    simp only [up_o (show (2 : Nat) ≠ 1 by decide)]
    unfold byf
    by_cases q0 : i = n
    · subst q0
      rw [if_pos rfl]
      rw [up_j (by omega)]; simp only [up_o (show (2 : Nat) ≠ 1 by decide)]
      rw [up_j (by omega)]; simp only [up_o (show (2 : Nat) ≠ 1 by decide)]
      rw [up_j (by omega)]; simp only [up_o (show (2 : Nat) ≠ 1 by decide)]
      exact up_s
    · rw [if_neg q0]
      by_cases q1 : i = n + 1
      · subst q1
        rw [if_pos rfl]
        rw [up_j (by omega)]; simp only [up_o (show (2 : Nat) ≠ 1 by decide)]
        rw [up_j (by omega)]; simp only [up_o (show (2 : Nat) ≠ 1 by decide)]
        exact up_s
      · rw [if_neg q1]
        by_cases q2 : i = n + 2
        · subst q2
          rw [if_pos rfl]
          rw [up_j (by omega)]; simp only [up_o (show (2 : Nat) ≠ 1 by decide)]
          exact up_s
        · rw [if_neg q2]
          have : i = n + 3 := by omega
          subst this
          exact up_s
theorem sgn_all {x : Int32} {σ : Sg} {K : Int32 → Sg → Prop} {n : Nat} (hn : n + 4 ≤ 600) (hs : σ 233 9 = nI n) (h : ∀ τ : Sg, Fr [233, 240] σ τ → τ 233 9 = nI (n + 4) → (∀ j, j ≠ 9 → τ 233 j = σ 233 j) → (∀ i, i < n → τ 240 i = σ 240 i) → (∀ i, n ≤ i → i < n + 4 → τ 240 i = sb_b (byf x n i)) → K (nI (n + 4)) τ) : ∃ nf, b_X10_sign_22 x K nf 24 σ := by
  refine ⟨5, sgn_s (i := n) (by omega) hs (by decide) (sgn_s (i := n + 1) (by omega) up_s (by decide) (sgn_s (i := n + 2) (by omega) up_s (by decide) (sgn_s (i := n + 3) (by omega) up_s (by decide) (br_t (by decide) ?_))))⟩
  rw [up_s]
  refine h _ ?_ ?_ ?_ ?_ ?_
  · exact Fr.rf.up (by decide) |>.up (by decide) |>.up (by decide) |>.up (by decide) |>.up (by decide) |>.up (by decide) |>.up (by decide) |>.up (by decide)
  · exact up_s
  · intro j hj
    simp only [up_o (show (233 : Nat) ≠ 240 by decide), up_j hj]
  · intro i hi
    simp only [up_o (show (240 : Nat) ≠ 233 by decide), up_j (show i ≠ n + 3 by omega), up_j (show i ≠ n + 2 by omega), up_j (show i ≠ n + 1 by omega), up_j (show i ≠ n by omega)]
  · intro i h1 h2
    simp only [up_o (show (240 : Nat) ≠ 233 by decide)]
    unfold byf
    by_cases q0 : i = n
    · subst q0
      rw [if_pos rfl]
      rw [up_j (by omega)]; simp only [up_o (show (240 : Nat) ≠ 233 by decide)]
      rw [up_j (by omega)]; simp only [up_o (show (240 : Nat) ≠ 233 by decide)]
      rw [up_j (by omega)]; simp only [up_o (show (240 : Nat) ≠ 233 by decide)]
      exact up_s
    · rw [if_neg q0]
      by_cases q1 : i = n + 1
      · subst q1
        rw [if_pos rfl]
        rw [up_j (by omega)]; simp only [up_o (show (240 : Nat) ≠ 233 by decide)]
        rw [up_j (by omega)]; simp only [up_o (show (240 : Nat) ≠ 233 by decide)]
        exact up_s
      · rw [if_neg q1]
        by_cases q2 : i = n + 2
        · subst q2
          rw [if_pos rfl]
          rw [up_j (by omega)]; simp only [up_o (show (240 : Nat) ≠ 233 by decide)]
          exact up_s
        · rw [if_neg q2]
          have : i = n + 3 := by omega
          subst this
          exact up_s
theorem byf_lt (x : Int32) (n i : Nat) : byf x n i < 256 := by
  unfold byf
  repeat' split
  all_goals exact byt_lt _
theorem op_sign : Op_sign Inv := by
  intro σ x h
  obtain ⟨n, B, T, R, m, nx, U, kb, V, h⟩ := h
  have h : In σ n B T R m nx U kb V := h
  obtain ⟨hn, e0, e9, hb⟩ := id h.1
  have c : (nI n + 4 ≤ (600 : Int32)) ↔ n + 4 ≤ 600 := by
    rw [L4, nI_add, L600, nI_leI (by omega) (by omega)]
  unfold wp_X9_sign wp_X4_append
  rw [e0, br_iff c]
  refine ⟨fun q => ?_, fun q => ?_⟩
  · refine app_all q e0 (fun τ t1 t2 t3 t4 t5 t6 => br_f (by decide) ?_)
    rw [t2]
    intro τ2 e2
    have f9 : τ2 233 9 = nI n := by rw [e2, up_j (by decide), t1 233 (by decide)]; exact e9
    refine br_t (by rw [f9]; exact c.mpr q) (sgn_all q f9 (fun υ u1 u2 u3 u4 u5 => ⟨rfl, ?_⟩))
    have o : ∀ k, k ≠ 1 → k ≠ 2 → k ≠ 233 → k ≠ 240 → υ k = σ k := fun k k1 k2 k3 k4 => by
      rw [u1 k (by simp [k3, k4]), e2, up_o k3, t1 k (by simp [k1, k2])]
    have v1 : υ 1 = τ 1 := by rw [u1 1 (by decide), e2, up_o (by decide)]
    have v2 : υ 2 = τ 2 := by rw [u1 2 (by decide), e2, up_o (by decide)]
    have v3 : ∀ j, j ≠ 0 → j ≠ 9 → υ 233 j = σ 233 j := fun j j0 j9 => by rw [u3 j j9, e2, up_j j0, t1 233 (by decide)]
    have v4 : τ2 240 = σ 240 := by rw [e2, up_o (by decide), t1 240 (by decide)]
    refine (h.tp (n' := n + 4) (B' := fun i => if i < n then B i else byf x n i) (fun k hk => ?_) (v3 5 (by decide) (by decide)) ⟨q, by rw [v1]; exact t2, u2, fun i hi => ?_⟩ ?_).inv
    · refine o k ?_ ?_ ?_ ?_ <;> (unfold Kp at hk; omega)
    · rw [v2]
      by_cases qi : i < n
      · simp only [if_pos qi]
        rw [t5 i qi, u4 i qi, v4]
        exact hb i qi
      · simp only [if_neg qi]
        exact ⟨byf_lt _ _ _, t6 i (by omega) hi, u5 i (by omega) hi⟩
    · rw [v1, t3, t4, v3 11 (by decide) (by decide), v3 12 (by decide) (by decide)]
      exact h.2.1
  · refine br_t rfl (fun τ2 e2 => ?_)
    have f9 : τ2 233 9 = nI n := by rw [e2, up_j (by decide)]; exact e9
    refine br_f (by rw [f9]; exact fun z => q (c.mp z)) ⟨rfl, ?_⟩
    rw [e2]
    exact (In.qm h (by decide)).inv
