/-! THE REFERENCE'S reckoning: pools -/
section
variable {σ : Sg} {T R : Nat → Nat} {c r t : Nat}
theorem m_tiesOf {K : Int32 → Sg → Prop} (hR : rowR (σ 236) R) (hr : rowOk T R) (hc : c < 2 ^ 31) (hr' : r < 2 ^ 31) (hK : K (nI (nOf R c r (R 0))) σ) : wp_X10_tiesOf (nI c) (nI r) σ K := by
  have h30 := hr.1
  have main : ∀ d t, t + d = R 0 → b_X10_tiesOf_5 (nI c) (nI r) K (d + 1) (nI (nOf R c r t)) (nI t) σ := by
    intro d
    induction d with
    | zero =>
      intro t ht
      have : t = R 0 := by omega
      subst this
      refine br_t ?_ hK
      rw [hR 0 (by omega)]
      exact nI_le (Nat.le_refl _) (by omega)
    | succ d ih =>
      intro t ht
      have nx := ih (t + 1) (by omega)
      have e : nOf R c r (t + 1) = nOf R c r t + (if rT R t 0 = c ∧ rT R t 1 = r then 1 else 0) := rfl
      refine br_f ?_ ?_
      · rw [hR 0 (by omega)]
        exact nI_ge (by omega) (by omega)
      · rw [m_isOf hR hr (by omega) hc hr']
        by_cases q : isO R t c r
        · rw [br_T q, br_F (by decide)]
          intro v ev w ew
          rw [ev, ew, nI_1, nI_1]
          rw [e, if_pos (show rT R t 0 = c ∧ rT R t 1 = r from q)] at nx
          exact nx
        · rw [br_F q, br_T rfl]
          intro v ev w ew
          rw [ev, ew, nI_1, Int32.add_zero]
          rw [e, if_neg (show ¬ (rT R t 0 = c ∧ rT R t 1 = r) from q)] at nx
          exact nx
  exact ⟨_, main (R 0) 0 (by omega)⟩
def gts (R : Nat → Nat) (t a w : Nat) : Prop := w = 1 ∨ (w = 0 ∧ wnr R t = a) ∨ (w = 2 ∧ lsr R t = a)
theorem m_gets {K : Int32 → Sg → Prop} (hR : rowR (σ 236) R) (hr : rowOk T R) (hT : T 0 ≤ 12) (ht : t < R 0) (hd : de R t) {a w : Nat} (ha : a < 2 ^ 31) (hw : w ≤ 3) (hK : br (gts R t a w) (K 1 σ) (K 0 σ)) : wp_X10_gets (nI t) (nI a) (nI w) σ K := by
  have hwl := wnr_lt hr ht hd
  unfold wp_X10_gets b_X10_gets_18
  rw [L1, br_iff (nI_eq (by omega) (by decide)), L0, br_iff (nI_eq (by omega) (by decide)), L2, br_iff (nI_eq (by omega) (by decide)), m_win hR hr ht, m_los hR hr ht, br_T hd, br_T hd, br_iff (nI_eq (by omega) ha), br_iff (nI_eq (by omega) ha)]
  rw [← L0, ← L1]
  rcases (show w = 0 ∨ w = 1 ∨ w = 2 ∨ w = 3 by omega) with q | q | q | q
  · rw [br_F (show ¬ w = 1 by omega), br_T q, br_F (show ¬ nI w = nI 2 from fun z => by have := nI_m z (by omega) (by decide); omega)]
    rw [br_iff (show gts R t a w ↔ wnr R t = a by unfold gts; omega)] at hK
    exact hK
  · rw [br_T q]
    rw [br_T (show gts R t a w from Or.inl q)] at hK
    exact hK
  · rw [br_F (show ¬ w = 1 by omega), br_F (show ¬ w = 0 by omega), br_T q]
    rw [br_iff (show gts R t a w ↔ lsr R t = a by unfold gts; omega)] at hK
    exact hK
  · rw [br_F (show ¬ w = 1 by omega), br_F (show ¬ w = 0 by omega), br_F (show ¬ w = 2 by omega)]
    rw [br_F (show ¬ gts R t a w by unfold gts; omega)] at hK
    exact hK
/-- one club of a tie -/
theorem m_d1 {K : Sg → Prop} {B : Int32 → Int32 → Int32 → Sg → Prop} {n s w pe kk z : Nat} (h : mcore σ T R) (ht : t < R 0) (ho : isO R t c r) (hd : de R t) (hc : c < 4) (hr6 : r < 6) (hs : s = 2 ∨ s = 3) (hw : w ≤ 3) (hk : kk < 24) (h252 : σ 251 kk = nI pe) (hz1 : gts R t (rT R t s) w → z = pe) (hz2 : ¬ gts R t (rT R t s) w → z = 0) (hn : b_X10_dealOut_102 (nI c) (nI r) B K n (nI kk) (nI w) (nI t) (nI (s + 1)) (ad σ 246 (rT R t s) (nI z))) : b_X10_dealOut_102 (nI c) (nI r) B K (n + 1) (nI kk) (nI w) (nI t) (nI s) σ := by
  have h12 := h.1.1
  have h30 := h.2.1.1
  have hok := h.2.1.2.2.1 t ht
  have hs12 : rT R t s < 12 := by
    rcases hs with e | e
    · rw [e]; have := hok.2.2.1; omega
    · rw [e]; have := hok.2.2.2.1; omega
  refine br_f (nI_ge (b := 4) (by omega) (by decide)) ?_
  rw [m_isOf h.2.2.2 h.2.1 ht (by omega) (by omega), br_T ho, br_F (by decide), m_tie h.2.2.2 (by omega), vin_T hs12 (by decide), true_and, m_tie h.2.2.2 (by omega)]
  refine m_gets h.2.2.2 h.2.1 h12 ht hd (by omega) hw ⟨fun q => ?_, fun q => ?_⟩
  · refine br_f (by decide) ⟨by rw [vin_T hk (by decide)]; trivial, ?_⟩
    unfold b_X10_dealOut_162
    rw [vin_T hs12 (by decide), true_and, cl_I (by omega), cl_I (by omega), h252, ← hz1 q]
    intro υ e v ev
    rw [ev, nI_1, e]
    exact hn
  · refine br_t rfl ?_
    unfold b_X10_dealOut_162
    rw [vin_T hs12 (by decide), true_and, cl_I (by omega), show (0 : Int32) = nI z by rw [hz2 q]; rfl]
    intro υ e v ev
    rw [ev, nI_1, e]
    exact hn
theorem gts_sum {pe w b : Nat} (hr : rowOk T R) (ht : t < R 0) (hd : de R t) (hw : w ≤ 3) {z1 z2 : Nat} (h1 : gts R t (rT R t 2) w → z1 = pe) (h1' : ¬ gts R t (rT R t 2) w → z1 = 0) (h2 : gts R t (rT R t 3) w → z2 = pe) (h2' : ¬ gts R t (rT R t 3) w → z2 = 0) : (if rT R t 2 = b then z1 else 0) + (if rT R t 3 = b then z2 else 0) = (if wnr R t = b ∧ w < 2 then pe else 0) + (if lsr R t = b ∧ (w = 1 ∨ w = 2) then pe else 0) := by
  have hne := (hr.2.2.1 t ht).2.2.2.2.1
  have hwo := (hr.2.2.1 t ht).2.2.2.2.2.2.1 (rT R t 4 - 1) (by have := hd.1; omega)
  have hcase : (wnr R t = rT R t 2 ∧ lsr R t = rT R t 3) ∨ (wnr R t = rT R t 3 ∧ lsr R t = rT R t 2) := by
    have := hd.2
    unfold wnr lsr
    rcases (show wo R t (rT R t 4 - 1) = 0 ∨ wo R t (rT R t 4 - 1) = 1 by omega) with e | e
    · rw [e]; exact Or.inl ⟨rfl, rfl⟩
    · rw [e]; exact Or.inr ⟨rfl, rfl⟩
  unfold gts at h1 h1' h2 h2'
  rcases hcase with ⟨e1, e2⟩ | ⟨e1, e2⟩ <;> rw [e1, e2] at h1 h1' h2 h2' ⊢ <;> rcases (show w = 0 ∨ w = 1 ∨ w = 2 ∨ w = 3 by omega) with q | q | q | q <;> subst q <;> by_cases b1 : rT R t 2 = b <;> by_cases b2 : rT R t 3 = b <;> simp [b1, b2] <;> omega
theorem m_deal {K : Sg → Prop} {G0 : Nat → Nat} (h : mcore σ T R) (hc : c < T 1) (hr6 : r < 6) (hcd : cd R c r = 1) (hp : σ 249 (6 * c + r) = nI (pTot T R c r)) (hG : ∀ b, b < 12 → σ 246 b = nI (G0 b)) (hK : ∀ τ : Sg, (∀ k, k ≠ 246 → k ≠ 251 → k ≠ 252 → τ k = σ k) → (∀ j, j ≠ 6 * c + r → τ 251 j = σ 251 j ∧ τ 252 j = σ 252 j) → τ 251 (6 * c + r) = nI (pE T R c r) → τ 252 (6 * c + r) = nI (pM T R c r) → (∀ b, b < 12 → τ 246 b = nI (G0 b + su (gG T R b c r) (R 0))) → K τ) : wp_X10_dealOut (nI c) (nI r) σ K := by
  have h12 := h.1.1
  have h4 := h.1.2.1
  have h30 := h.2.1.1
  have hw3 := (h.1.2.2.2.2 c hc).2.2.2.2.2.2.2.2 r hr6
  have bT := b_Tot h.1 h.2.1 c hr6
  have bM := b_many (T := T) h.2.1 c r
  have bN := b_nOf (T := T) h.2.1 c r
  have hEM : pE T R c r = pEach T R c r (pTot T R c r) ∧ pM T R c r = pMany T R c r := ⟨if_pos hcd, if_pos hcd⟩
  have main : ∀ υ : Sg, (∀ k, k ≠ 246 → k ≠ 251 → k ≠ 252 → υ k = σ k) → (∀ j, j ≠ 6 * c + r → υ 251 j = σ 251 j ∧ υ 252 j = σ 252 j) → υ 251 (6 * c + r) = nI (pE T R c r) → υ 252 (6 * c + r) = nI (pM T R c r) → ∀ d t τ, t + d = R 0 → (∀ k, k ≠ 246 → τ k = υ k) → (∀ b, b < 12 → τ 246 b = nI (G0 b + su (gG T R b c r) t)) → b_X10_dealOut_88 (nI c) (nI r) K (d + 1) (nI (6 * c + r)) (nI (tC T c (11 + r))) (nI t) τ := by
    intro υ u1 u2 u3 u4 d
    induction d with
    | zero =>
      intro t τ ht f g
      have : t = R 0 := by omega
      subst this
      refine br_t ?_ (hK τ (fun k a b e => by rw [f k a]; exact u1 k a b e) (fun j hj => by rw [f 251 (by omega), f 252 (by omega)]; exact u2 j hj) (by rw [f 251 (by omega)]; exact u3) (by rw [f 252 (by omega)]; exact u4) g)
      rw [f 236 (by omega), u1 236 (by omega) (by omega) (by omega), h.2.2.2 0 (by omega)]
      exact nI_le (Nat.le_refl _) (by omega)
    | succ d ih =>
      intro t τ ht f g
      have htr : t < R 0 := by omega
      have f' : ∀ k, k ≠ 246 → k ≠ 251 → k ≠ 252 → τ k = σ k := fun k a b e => by rw [f k a]; exact u1 k a b e
      have hm : mcore τ T R := h.of (f' 234 (by omega) (by omega) (by omega)) (f' 236 (by omega) (by omega) (by omega))
      refine br_f ?_ ?_
      · rw [hm.2.2.2 0 (by omega)]
        exact nI_ge (by omega) (by omega)
      · by_cases q : isO R t c r
        · have hd := closed_de h.2.1 htr q hcd
          have hz : ∀ s, ∃ z, (gts R t (rT R t s) (tC T c (11 + r)) → z = pE T R c r) ∧ (¬ gts R t (rT R t s) (tC T c (11 + r)) → z = 0) := fun s => by
            by_cases y : gts R t (rT R t s) (tC T c (11 + r))
            · exact ⟨pE T R c r, fun _ => rfl, fun n => absurd y n⟩
            · exact ⟨0, fun n => absurd n y, fun _ => rfl⟩
          obtain ⟨z1, z1a, z1b⟩ := hz 2
          obtain ⟨z2, z2a, z2b⟩ := hz 3
          have e252 : τ 251 (6 * c + r) = nI (pE T R c r) := by rw [f 251 (by omega)]; exact u3
          refine ⟨3, m_d1 (s := 2) hm htr q hd (by omega) hr6 (Or.inl rfl) hw3 (by omega) e252 z1a z1b (m_d1 (s := 3) (hm.of (ad_ok (by omega)) (ad_ok (by omega))) htr q hd (by omega) hr6 (Or.inr rfl) hw3 (by omega) (by rw [ad_ok (by omega)]; exact e252) z2a z2b (br_t (by decide) (fun v ev => ?_)))⟩
          rw [ev, nI_1]
          refine ih (t + 1) _ (by omega) (fun k hk => by rw [ad_ok hk, ad_ok hk]; exact f k hk) (fun b hb => ?_)
          rw [ad_r, ad_r, g b hb, nI_if, nI_if, nI_add, nI_add]
          congr 1
          show _ = G0 b + (su (gG T R b c r) t + gG T R b c r t)
          rw [show gG T R b c r t = _ from if_pos q, ← gts_sum h.2.1 htr hd hw3 z1a z1b z2a z2b]
          omega
        · refine ⟨1, br_f (by decide) ?_⟩
          rw [m_isOf hm.2.2.2 h.2.1 htr (by omega) (by omega), br_F q, br_T rfl]
          intro v ev
          rw [ev, nI_1]
          refine ih (t + 1) τ (by omega) f (fun b hb => ?_)
          rw [g b hb]
          congr 2
          show _ = su (gG T R b c r) t + gG T R b c r t
          rw [show gG T R b c r t = 0 from if_neg q, Nat.add_zero]
  have m51 : b_X10_dealOut_51 (nI c) (nI r) K (nI (6 * c + r)) (nI (tC T c (11 + r))) (nI (pMany T R c r)) σ := by
    unfold b_X10_dealOut_51
    rw [vin_T (show 6 * c + r < 24 by omega) (by decide), cl_I (by omega), true_and]
    intro τ1 e1
    have p1 : τ1 249 (6 * c + r) = nI (pTot T R c r) := by rw [e1, up_o (by decide)]; exact hp
    have fin : b_X10_dealOut_84 (nI c) (nI r) K (nI (6 * c + r)) (nI (tC T c (11 + r))) (nI (pE T R c r)) (nI (6 * c + r)) τ1 := by
      unfold b_X10_dealOut_84
      rw [vin_T (show 6 * c + r < 24 by omega) (by decide), cl_I (by omega), true_and]
      intro τ2 e2
      refine ⟨_, main τ2 (fun k a b e => by rw [e2, up_o b, e1, up_o e]) (fun j hj => ⟨by rw [e2, up_j hj, e1, up_o (by decide)], by rw [e2, up_o (by decide), e1, up_j hj]⟩) (by rw [e2, up_s]) (by rw [e2, up_o (by decide), e1, up_s, hEM.2]) (R 0) 0 τ2 (by omega) (fun _ _ => rfl) (fun b hb => ?_)⟩
      rw [e2, up_o (by decide), e1, up_o (by decide)]
      exact hG b hb
    rw [L0, br_iff (nI_eq (by omega) (by decide)), true_and, nI_eq (by omega) (by decide), p1]
    refine ⟨fun z => ?_, fun z => ⟨z, ?_⟩⟩
    · have : pE T R c r = 0 := by rw [hEM.1]; unfold pEach; rw [if_pos z]
      rw [this] at fin
      exact fin
    · rw [pk_div (by omega) (by omega) (by omega), show pTot T R c r / pMany T R c r = pE T R c r by rw [hEM.1]; unfold pEach; rw [if_neg z]]
      exact fin
  unfold wp_X10_dealOut
  intro v ev
  have ev : v = nI (6 * c + r) := by rw [ev, L6, pk_mul, nI_add]
  rw [ev, show 11 + nI r = nI (11 + r) by rw [L11, nI_add], m_cup h.2.2.1 (by omega) (by omega)]
  rw [L3, L1, br_iff (nI_eq (by omega) (by decide)), br_iff (nI_eq (by omega) (by decide))]
  unfold pMany at m51
  by_cases z3 : tC T c (11 + r) = 3
  · rw [if_pos z3] at m51; rw [br_T z3]; exact m51
  · rw [if_neg z3] at m51; rw [br_F z3]
    by_cases z1 : tC T c (11 + r) = 1
    · rw [if_pos z1] at m51; rw [br_T z1]
      refine m_tiesOf h.2.2.2 h.2.1 (by omega) (by omega) ?_
      rw [L2, pk_mul]; exact m51
    · rw [if_neg z1] at m51; rw [br_F z1]
      exact m_tiesOf h.2.2.2 h.2.1 (by omega) (by omega) m51
/-- what the reference has of a pool -/
def mPo (τ : Sg) (T R : Nat → Nat) (c s : Nat) : Prop := τ 249 (6 * c + s) = nI (pTot T R c s) ∧ τ 250 (6 * c + s) = nI (pOn T R c s) ∧ τ 251 (6 * c + s) = nI (pE T R c s) ∧ τ 252 (6 * c + s) = nI (pM T R c s)
def mSn (σ τ : Sg) (T R G0 : Nat → Nat) (c r : Nat) : Prop := (∀ k, k ≠ 246 → ¬ (249 ≤ k ∧ k ≤ 252) → τ k = σ k) ∧ (∀ k, (k < 6 * c ∨ 6 * c + r ≤ k) → τ 249 k = σ 249 k ∧ τ 250 k = σ 250 k ∧ τ 251 k = σ 251 k ∧ τ 252 k = σ 252 k) ∧ (∀ s, s < r → mPo τ T R c s) ∧ ∀ b, b < 12 → τ 246 b = nI (G0 b + gC T R b c r)
theorem mSn_s {τ υ : Sg} {G0 : Nat → Nat} (h : mSn σ τ T R G0 c r) (f1 : ∀ k, k ≠ 246 → ¬ (249 ≤ k ∧ k ≤ 252) → υ k = τ k) (f2 : ∀ k, k ≠ 6 * c + r → υ 249 k = τ 249 k ∧ υ 250 k = τ 250 k ∧ υ 251 k = τ 251 k ∧ υ 252 k = τ 252 k) (hp : mPo υ T R c r) (hg : ∀ b, b < 12 → υ 246 b = τ 246 b + nI (gR T R b c r (R 0))) : mSn σ υ T R G0 c (r + 1) := by
  obtain ⟨a1, a2, a3, a4⟩ := h
  refine ⟨fun k p q => by rw [f1 k p q]; exact a1 k p q, fun k hk => ?_, fun s hs => ?_, fun b hb => ?_⟩
  · obtain ⟨b1, b2, b3, b4⟩ := f2 k (by omega)
    rw [b1, b2, b3, b4]
    exact a2 k (by omega)
  · by_cases q : s = r
    · subst q; exact hp
    · obtain ⟨b1, b2, b3, b4⟩ := f2 (6 * c + s) (by omega)
      have := a3 s (by omega)
      unfold mPo at this ⊢
      rw [b1, b2, b3, b4]
      exact this
  · rw [hg b hb, a4 b hb, nI_add, Nat.add_assoc]; rfl
theorem m_pools {K : Sg → Prop} {G0 : Nat → Nat} (h : mcore σ T R) (hc : c < T 1) (hp : ∀ k, 6 * c ≤ k → k < 6 * c + 6 → mgP σ T R (R 0) 0 k) (hG : ∀ b, b < 12 → σ 246 b = nI (G0 b)) (hK : ∀ τ : Sg, (∀ k, k ≠ 246 → ¬ (249 ≤ k ∧ k ≤ 253) → τ k = σ k) → (∀ k, (k < 6 * c ∨ 6 * c + 6 ≤ k) → τ 249 k = σ 249 k ∧ τ 250 k = σ 250 k ∧ τ 251 k = σ 251 k ∧ τ 252 k = σ 252 k) → (∀ s, s < 6 → mPo τ T R c s) → (∀ b, b < 12 → τ 246 b = nI (G0 b + gC T R b c 6)) → (∀ j, j ≠ c → τ 253 j = σ 253 j) → τ 253 c = nI (pOn T R c 6) → K τ) : wp_X10_layPools (nI c) σ K := by
  have h12 := h.1.1
  have h4 := h.1.2.1
  have h30 := h.2.1.1
  have main : ∀ d r τ, r + d = 6 → mSn σ τ T R G0 c r → b_X10_layPools_4 (nI c) K (d + 1) (nI (pOn T R c r)) (nI r) τ := by
    intro d
    induction d with
    | zero =>
      intro r τ hr hs
      have : r = 6 := by omega
      subst this
      obtain ⟨a1, a2, a3, a4⟩ := hs
      refine br_t (by decide) ?_
      rw [vin_T (by omega) (by decide), cl_I (by omega), true_and]
      intro τ1 e1
      have o : ∀ k, k ≠ 253 → τ1 k = τ k := fun k hk => by rw [e1, up_o hk]
      refine hK τ1 (fun k p q => by rw [o k (by omega)]; exact a1 k p (by omega)) (fun k hk => by rw [o 249 (by decide), o 250 (by decide), o 251 (by decide), o 252 (by decide)]; exact a2 k hk) (fun s hs => ?_) (fun b hb => by rw [o 246 (by decide)]; exact a4 b hb) (fun j hj => by rw [e1, up_j hj, a1 253 (by omega) (by omega)]) (by rw [e1, up_s])
      have := a3 s hs
      unfold mPo at this ⊢
      rw [o 249 (by decide), o 250 (by decide), o 251 (by decide), o 252 (by decide)]
      exact this
    | succ d ih =>
      intro r τ hr hs
      have hr6 : r < 6 := by omega
      have hs0 := hs
      obtain ⟨a1, a2, a3, a4⟩ := hs
      have hm : mcore τ T R := h.of (a1 234 (by omega) (by omega)) (a1 236 (by omega) (by omega))
      obtain ⟨p0, p2, p3⟩ := hp (6 * c + r) (by omega) (by omega)
      obtain ⟨o0, o1, o2, o3⟩ := a2 (6 * c + r) (by omega)
      rw [← o0] at p0
      rw [← o2] at p2
      rw [← o3] at p3
      refine br_f (nI_ge (b := 6) (by omega) (by decide)) ?_
      intro v ev
      have ev : v = nI (6 * c + r) := by rw [ev, L6, pk_mul, nI_add]
      rw [ev, vin_T (by omega) (by decide), cl_I (by omega)]
      simp only [true_and]
      intro τ1 e1 τ2 e2
      have e2 : τ2 = ad τ1 249 (6 * c + r) (nI (pOn T R c r)) := e2
      have oo : ∀ k, k ≠ 249 → k ≠ 250 → τ2 k = τ k := fun k k0 k1 => by rw [e2, ad_ok k0, e1, up_o k1]
      have v0 : τ2 249 (6 * c + r) = nI (pTot T R c r) := by rw [e2, ad_s, e1, up_o (by decide), p0, nI_add]; rfl
      have v1 : τ2 250 (6 * c + r) = nI (pOn T R c r) := by rw [e2, ad_ok (by decide), e1, up_s]
      have w0 : ∀ k, k ≠ 6 * c + r → τ2 249 k = τ 249 k ∧ τ2 250 k = τ 250 k := fun k hk => ⟨by rw [e2, ad_o (by omega), e1, up_o (by decide)], by rw [e2, ad_ok (by decide), e1, up_j hk]⟩
      have hm2 : mcore τ2 T R := hm.of (oo 234 (by omega) (by omega)) (oo 236 (by omega) (by omega))
      rw [m_closed hm2.2.2.2 h.2.1 (by omega) hr6]
      by_cases q : cd R c r = 1
      · rw [br_T q, br_F (by decide)]
        refine m_deal (G0 := fun b => G0 b + gC T R b c r) hm2 hc hr6 q v0 (fun b hb => by rw [oo 246 (by decide) (by decide)]; exact a4 b hb) (fun υ g1 g2 g3 g4 g5 => ?_)
        have hEM : pE T R c r = pEach T R c r (pTot T R c r) ∧ pM T R c r = pMany T R c r := ⟨if_pos q, if_pos q⟩
        have hle : pE T R c r * pM T R c r ≤ pTot T R c r := by rw [hEM.1, hEM.2]; exact p_each c r _
        have hOn : pTot T R c r - pE T R c r * pM T R c r = pOn T R c (r + 1) := by
          rw [hEM.1, hEM.2]
          show _ = if cd R c r = 1 then _ else 0
          rw [if_pos q]; rfl
        have x0 : υ 249 = τ2 249 := g1 249 (by decide) (by decide) (by decide)
        have x1 : υ 250 = τ2 250 := g1 250 (by decide) (by decide) (by decide)
        rw [g3, g4, x0, v0, pk_mul, pk_sub hle, hOn]
        intro v' ev' w' ew'
        rw [ev', ew', nI_1]
        refine ih (r + 1) υ (by omega) (mSn_s hs0 (fun k p z => by rw [g1 k p (by omega) (by omega)]; exact oo k (by omega) (by omega)) (fun k hk => ?_) ⟨by rw [x0]; exact v0, by rw [x1]; exact v1, g3, g4⟩ (fun b hb => ?_))
        · obtain ⟨b1, b2⟩ := w0 k hk
          obtain ⟨b3, b4⟩ := g2 k hk
          exact ⟨by rw [x0]; exact b1, by rw [x1]; exact b2, by rw [b3, oo 251 (by decide) (by decide)], by rw [b4, oo 252 (by decide) (by decide)]⟩
        · rw [g5 b hb, a4 b hb, nI_add]
          unfold gR
          rw [if_pos q]
      · rw [br_F q, br_T rfl]
        have hE : pE T R c r = 0 := if_neg q
        have hM : pM T R c r = 0 := if_neg q
        have hOn : pOn T R c (r + 1) = 0 := if_neg q
        intro v' ev'
        rw [ev', nI_1, show (0 : Int32) = nI (pOn T R c (r + 1)) by rw [hOn]; rfl]
        refine ih (r + 1) τ2 (by omega) (mSn_s hs0 (fun k p z => oo k (by omega) (by omega)) (fun k hk => ?_) ⟨v0, v1, ?_, ?_⟩ (fun b hb => ?_))
        · obtain ⟨b1, b2⟩ := w0 k hk
          exact ⟨b1, b2, by rw [oo 251 (by decide) (by decide)], by rw [oo 252 (by decide) (by decide)]⟩
        · rw [oo 251 (by decide) (by decide), p2, hE]; rfl
        · rw [oo 252 (by decide) (by decide), p3, hM]; rfl
        · rw [oo 246 (by decide) (by decide), show gR T R b c r (R 0) = 0 from if_neg q]
          exact (Int32.add_zero _).symm
  exact ⟨_, main 6 0 σ (by omega) ⟨fun _ _ _ => rfl, fun _ _ => ⟨rfl, rfl, rfl, rfl⟩, fun s hs => by omega, fun b hb => by rw [hG b hb]; rfl⟩⟩
end
