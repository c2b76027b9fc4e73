/-! THE BOOK, all lines; book() -/
section
variable {σ : Sg} {B : Nat → Nat} {n : Nat}
theorem bkS_s {f m s : Nat} {D : Nat → Nat} : bkS B n (f + 1) m s D = ic ((lineS B n s D).1.1 = 0) (ic ((lineS B n s D).1.2 < n ∧ B (lineS B n s D).1.2 = 59) (bkS B n f (m + 1) (nx B n (lineS B n s D).1.2) (lineS B n s D).2) (m + 1, finS n (lineS B n s D))) (m, lineS B n s D) := rfl
def Bres (σ : Sg) (B : Nat → Nat) (n : Nat) (K : Int32 → Sg → Prop) (r : Nat × ((Nat × Nat) × (Nat → Nat))) : Prop := (r.2.1.1 = 0 → ∀ υ : Sg, cgood σ υ B n r.2.1.2 → dr υ r.2.2 → dOk r.2.2 → 2 ≤ r.2.2 0 → υ 27 3 = nI r.1 → K 1 υ) ∧ (r.2.1.1 ≠ 0 → ∀ υ : Sg, cbad σ υ r.2.1 → K 0 υ)
theorem Bres.b {K : Int32 → Sg → Prop} {r : Nat × ((Nat × Nat) × (Nat → Nat))} {p : Nat × Nat} {υ : Sg} (h : Bres σ B n K r) (e : r.2.1 = p) (hp : p.1 ≠ 0) (b : cbad σ υ p) : K 0 υ := h.2 (by rw [e]; exact hp) υ (by rw [e]; exact b)
theorem c_bookL {K : Int32 → Sg → Prop} (hn : n ≤ 600) : ∀ f m s τ D, n < s + f → St B n s → 2 * m ≤ s → cgood σ τ B n s → dr τ D → dOk D → τ 27 3 = nI m → Bres σ B n K (bkS B n f m s D) → b_X0_readBook_23 K (f + 1) 1 (nI m) τ := by
  intro f
  induction f with
  | zero => intro m s τ D h1 h2; exact absurd h2.1 (by omega)
  | succ f ih =>
    intro m s τ D hf hs hm hg hd hD h27 hR
    have hsn := hs.1
    rw [bkS_s] at hR
    refine br_f (nI_ge (b := 600) (by omega) (by decide)) (br_f (by decide) ?_)
    refine c_line (K := fun r35_ τ35 => br (r35_ = 0) (K 0 τ35) (∀ τ50 : Sg, τ50 = up τ35 27 3 ((τ35 27 3) + 1) → (wp_X4_takeSeparator τ50 <| fun r57_ τ57 => (∀ v61 : Int32, v61 = nI m + 1 → (b_X0_readBook_23 K (f + 1) r57_ v61 τ57))))) hg hd hD ⟨fun z υ g1 d1 e27 => br_f (by decide) ?_, fun z υ b => br_t rfl ?_⟩
    · obtain ⟨p1, p2, p3⟩ := line_post hD hsn z
      rw [ic_t z] at hR
      intro τ1 e1
      have g2 : cgood σ τ1 B n (lineS B n s D).1.2 := by rw [e1]; exact g1.u (by omega)
      have d2 : dr τ1 (lineS B n s D).2 := dr_fr d1 p1 (fun k a b => by rw [e1, up_o (by omega)])
      have e27' : τ1 27 3 = nI (m + 1) := by rw [e1, up_s, e27, h27, nI_1]
      refine c_sep g2.2.1 (fun q υ2 c1 c2 v ev => ?_) (fun q v ev => ?_)
      · rw [ev, nI_1]
        rw [ic_t q] at hR
        have ng := nx_ge (B := B) p3.1
        have eb := (en_b (B := B) p3.1).2.2 q.1
        exact ih (m + 1) _ υ2 _ (by omega) (nx_St p3.1) (by omega) (g2.c c1 c2) (dr_fr d2 p1 (fun k a b => c1.1 k (by omega))) p1 (by rw [c1.1 27 (by decide)]; exact e27') hR
      · rw [ev, nI_1]
        rw [ic_f q] at hR
        generalize lineS B n s D = qq at *
        have fin : b_X0_readBook_67 K 0 τ1 := by
          unfold b_X0_readBook_67
          have h3 := g2.2.1.2.2.1
          have bad1 : qq.1.2 < n → b_X0_readBook_81 K τ1 := by
            intro z1
            unfold finS at hR
            rw [ic_t z1] at hR
            exact c_R g2 rfl (fun υ b => ⟨isZ_0, hR.b rfl (show (1 : Nat) ≠ 0 by decide) b⟩)
          by_cases z1 : qq.1.2 < n
          · refine br_f ?_ (bad1 z1)
            rw [h3, kk_lt z1]
            have := kd_r (B qq.1.2)
            exact fun y => by have := nI_m (b := 0) y (by omega) (by decide); omega
          · refine br_t (by rw [h3, kk_ge z1]; rfl) (br_t rfl ?_)
            unfold finS at hR
            rw [ic_f z1] at hR
            have b0 := p1.1.1
            have b1 := p1.1.2.1
            have bad4 : (qq.2 0 < 2 ∨ qq.2 1 = 0) → b_X0_readBook_112 K τ1 := by
              intro z2
              rw [ic_t z2] at hR
              exact c_R g2 rfl (fun υ b => br_t rfl (hR.b rfl (show (4 : Nat) ≠ 0 by decide) b))
            rw [d2.1, d2.2.1, L2, L1, br_iff (nI_ltI (by omega) (by decide)), br_iff (nI_leI (by decide) (by omega))]
            refine ⟨fun y => bad4 (Or.inl y), fun y => ⟨fun y2 => ?_, fun y2 => bad4 (Or.inr (by omega))⟩⟩
            rw [ic_f (by omega)] at hR
            exact hR.1 z τ1 g2 d2 p1 (show 2 ≤ qq.2 0 by omega) e27'
        exact ⟨fun _ => fin, fun _ => br_t rfl fin⟩
    · rw [ic_f z] at hR
      exact hR.b rfl z b
/-! the reference's -/
def Ares (σ : Sg) (B : Nat → Nat) (n : Nat) (K : Int32 → Sg → Prop) (r : Nat × ((Nat × Nat) × (Nat → Nat))) : Prop := ∀ (υ : Sg) (y : Int32), mst σ υ B n r.2.1 → (r.2.1.1 = 0 → md υ r.2.2 ∧ y = nI r.1) → b_X10_book_113 K y υ
theorem m_bookL {K : Int32 → Sg → Prop} (ht : mtp σ B n) : ∀ f m s τ D, n < s + f → St B n s → dOk D → mst σ τ B n (lineS B n s D).1 → ((lineS B n s D).1.1 = 0 → md τ (lineS B n s D).2) → Ares σ B n K (bkS B n f m s D) → b_X10_book_36 K f (nI (m + 1)) τ := by
  intro f
  induction f with
  | zero => intro m s τ D h1 h2; exact absurd h2.1 (by omega)
  | succ f ih =>
    intro m s τ D hf hs hD hm hd hR
    have hsn := hs.1
    rw [bkS_s] at hR
    show wp_X10_takes 59 τ _
    by_cases z : (lineS B n s D).1.1 = 0
    · obtain ⟨p1, p2, p3⟩ := line_post hD hsn z
      rw [ic_t z] at hR
      have hd := hd z
      generalize hqq : lineS B n s D = qq at *
      obtain ⟨⟨x0, s1⟩, D1⟩ := qq
      have z : x0 = 0 := z
      subst z
      have p2 : s + 3 ≤ s1 := p2
      have p3 : St B n s1 := p3
      refine m_T ht hm (fun q υ m1 k1 => br_f (by decide) ?_) (fun q υ m1 k1 => br_t rfl ?_)
      · have q' : s1 < n ∧ B s1 = 59 := q.2
        rw [ic_t (show ((0, s1), D1).1.2 < n ∧ B ((0, s1), D1).1.2 = 59 from q')] at hR
        have ng := nx_ge (B := B) p3.1
        have eb := (en_b (B := B) p3.1).2.2 q'.1
        have hns := nx_St (B := B) p3.1
        refine m_rLine ht m1 hns.1 (md_k hd k1) p1 (fun υ2 m2 d2 v ev => ?_)
        rw [ev, nI_1]
        exact ih (m + 1) (nx B n s1) υ2 D1 (by omega) hns p1 m2 d2 hR
      · have q' : ¬ (s1 < n ∧ B s1 = 59) := fun y => q ⟨rfl, y⟩
        rw [ic_f (show ¬ (((0, s1), D1).1.2 < n ∧ B ((0, s1), D1).1.2 = 59) from q')] at hR
        have g1 := (m1.2.2.1 rfl).1
        refine br_f (by rw [g1]; decide) ?_
        unfold finS at hR
        refine m_E ht m1 (fun y υ2 m2 k2 r2 => br_t rfl ?_) (fun y υ2 m2 k2 r2 => br_f (by decide) ?_)
        · rw [ic_t (show ((0, s1), D1).1.2 < n from y)] at hR
          refine m_X m2 rfl (by decide) r2 (fun υ3 m3 k3 => ?_)
          exact br_t (m3.2.2.2 (show (1 : Nat) ≠ 0 by decide)).1 (hR υ3 _ m3 (fun w => absurd w (by show ¬ (1 : Nat) = 0; decide)))
        · rw [ic_f (show ¬ ((0, s1), D1).1.2 < n from y)] at hR
          have d2 := md_k (md_k hd k1) k2
          have b0 := p1.1.1
          have b1 := p1.1.2.1
          have d20 : υ2 235 0 = nI (D1 0) := d2 0 (by omega)
          have d21 : υ2 235 1 = nI (D1 1) := d2 1 (by omega)
          have b0 : D1 0 ≤ 12 := b0
          have b1 : D1 1 ≤ 4 := b1
          refine br_f (by rw [(m2.2.2.1 rfl).1]; decide) ?_
          have bad4 : (D1 0 < 2 ∨ D1 1 = 0) → b_X10_book_104 K (nI (m + 1)) υ2 := by
            intro w
            rw [ic_t (show (((0, s1), D1) : (Nat × Nat) × (Nat → Nat)).2 0 < 2 ∨ (((0, s1), D1) : (Nat × Nat) × (Nat → Nat)).2 1 = 0 from w)] at hR
            exact m_X m2 rfl (by decide) r2 (fun υ3 m3 k3 => hR υ3 _ m3 (fun w => absurd w (by show ¬ (4 : Nat) = 0; decide)))
          rw [d20, d21, L2, L0, br_iff (nI_ltI (by omega) (by decide)), br_iff (nI_eq (by omega) (by decide))]
          refine ⟨fun w => bad4 (Or.inl w), fun w => ⟨fun w2 => bad4 (Or.inr w2), fun w2 => ?_⟩⟩
          rw [ic_f (show ¬ ((((0, s1), D1) : (Nat × Nat) × (Nat → Nat)).2 0 < 2 ∨ (((0, s1), D1) : (Nat × Nat) × (Nat → Nat)).2 1 = 0) from fun y => y.elim w w2)] at hR
          exact hR υ2 _ m2 (fun _ => ⟨d2, rfl⟩)
    · rw [ic_f z] at hR
      refine m_T ht hm (fun q => absurd q.1 z) (fun q υ m1 k1 => br_t rfl ?_)
      have g0 := (m1.2.2.2 z).1
      exact br_t g0 (br_t g0 (hR υ _ m1 (fun w => absurd w z)))
/-! rows cleared, rows copied -/
theorem c_clr5 {K : Sg → Prop} (hK : ∀ τ : Sg, (∀ k, ¬ (k = 28 ∨ (43 ≤ k ∧ k ≤ 51)) → τ k = σ k) → dr τ (fun _ => 0) → K τ) : wp_X5_clear 28 σ K := by
  have us : ∀ (υ : Sg) (c : Nat) (K' : Sg → Prop), c < 4 → (∀ ω : Sg, (∀ k, k ≠ 43 + c → ω k = υ k) → (ω (43 + c) 3 = 0 ∧ ω (43 + c) 4 = 0 ∧ ω (43 + c) 5 = 1 ∧ ω (43 + c) 9 = 6 ∧ ω (43 + c) 10 = 0) → K' ω) → wp_X5_setUsual (43 + c) 11 υ K' := by
    intro υ c K' hc hk
    unfold wp_X5_setUsual
    refine ⟨vp_in_nI (n := 3) (by decide) (by decide), fun a1 e1 => ⟨vp_in_nI (n := 4) (by decide) (by decide), fun a2 e2 => ⟨vp_in_nI (n := 5) (by decide) (by decide), fun a3 e3 => ⟨vp_in_nI (n := 9) (by decide) (by decide), fun a4 e4 => ⟨vp_in_nI (n := 10) (by decide) (by decide), fun a5 e5 => hk a5 (fun k hk' => by rw [e5, up_o hk', e4, up_o hk', e3, up_o hk', e2, up_o hk', e1, up_o hk']) ?_⟩⟩⟩⟩⟩
    rw [e5, e4, e3, e2, e1]
    refine ⟨?_, ?_, ?_, ?_, ?_⟩ <;> simp (disch := decide) only [up_j, up_s]
  have main : ∀ d c τ, c + d = 4 → (∀ k, ¬ (k = 28 ∨ (43 ≤ k ∧ k ≤ 51)) → τ k = σ k) → τ 28 0 = 0 → τ 28 1 = 0 → (∀ x, x < c → (τ (43 + x) 3 = 0 ∧ τ (43 + x) 4 = 0 ∧ τ (43 + x) 5 = 1 ∧ τ (43 + x) 9 = 6 ∧ τ (43 + x) 10 = 0) ∧ ∀ j, j < 6 → τ (48 + x) j = 0) → b_X5_clear_12 28 K (d + 1) (nI c) τ := by
    intro d
    induction d with
    | zero =>
      intro c τ hc f a0 a1 h
      have : c = 4 := by omega
      subst this
      exact br_t (by decide) (hK τ f ⟨a0, a1, fun c hc => absurd hc (by show ¬ c < 0; omega), fun c hc => absurd hc (by show ¬ c < 0; omega), fun c _ hc => h c hc⟩)
    | succ d ih =>
      intro c τ hc f a0 a1 h
      refine br_f (nI_ge (b := 4) (by omega) (by decide)) ?_
      have inner : ∀ d' y υ, y + d' = 6 → (∀ k, k ≠ 48 + c → υ k = τ k) → (∀ j, j < y → υ (48 + c) j = 0) → b_X5_clear_19 28 (fun y1' τ => b_X5_clear_12 28 K (d + 1) y1' τ) K (d' + 1) (nI c) (nI y) υ := by
        intro d'
        induction d' with
        | zero =>
          intro y υ hy g1 g2
          have : y = 6 := by omega
          subst this
          refine br_t (by decide) ?_
          rw [vin_T (show c < 4 by omega) (by decide), cl_I (by omega), true_and]
          refine us υ c _ (by omega) (fun ω w1 w2 v ev => ?_)
          rw [ev, nI_1]
          refine ih (c + 1) ω (by omega) (fun k hk => by rw [w1 k (by omega), g1 k (by omega)]; exact f k hk) (by rw [w1 28 (by omega), g1 28 (by omega)]; exact a0) (by rw [w1 28 (by omega), g1 28 (by omega)]; exact a1) (fun x hx => ?_)
          by_cases z : x = c
          · rw [z]
            exact ⟨w2, fun j hj => by rw [w1 (48 + c) (by omega)]; exact g2 j hj⟩
          · rw [w1 (43 + x) (by omega), w1 (48 + x) (by omega), g1 (43 + x) (by omega), g1 (48 + x) (by omega)]
            exact h x (by omega)
        | succ d' ih' =>
          intro y υ hy g1 g2
          refine br_f (nI_ge (b := 6) (by omega) (by decide)) ?_
          rw [vin_T (show c < 4 by omega) (by decide), vin_T (show y < 6 by omega) (by decide), cl_I (by omega), cl_I (by omega), true_and, true_and]
          intro ω ew v ev
          rw [ev, nI_1]
          refine ih' (y + 1) ω (by omega) (fun k hk => by rw [ew, up_o hk]; exact g1 k hk) (fun j hj => ?_)
          rw [ew, show 28 + 19 + 1 + c = 48 + c from rfl, up_r]
          by_cases z : j = y
          · rw [if_pos z]
          · rw [if_neg z]; exact g2 j (by omega)
      exact ⟨_, inner 6 0 τ (by omega) (fun _ _ => rfl) (fun j hj => by omega)⟩
  intro τ1 e1 τ2 e2
  exact ⟨_, main 4 0 τ2 (by omega) (fun k hk => by rw [e2, up_o (by omega), e1, up_o (by omega)]) (by rw [e2, up_j (by decide), e1, up_s]) (by rw [e2, up_s]) (fun x hx => by omega)⟩
theorem c_cpy5 {K : Sg → Prop} {D : Nat → Nat} (hd : dr σ D) (hD : dOk D) (hK : ∀ τ : Sg, (∀ k, ¬ (3 ≤ k ∧ k < 27) → τ k = σ k) → τ 3 0 = nI (D 0) → τ 3 1 = nI (D 1) → (∀ c, c < D 0 → ∀ j, j < 3 → τ (5 + c) j = nI (tB D c j)) → (∀ c, c < D 1 → (∀ j, j < 11 → τ (18 + c) j = nI (tC D c j)) ∧ ∀ j, j < 6 → τ (23 + c) j = nI (tC D c (11 + j))) → K τ) : wp_X5_copyFrom 3 28 σ K := by
  obtain ⟨d1, d2, d3, d4, -⟩ := hd
  have b0 := hD.1.1
  have b1 := hD.1.2.1
  have c0 : (0 : Int32).toNatClampNeg = 0 := rfl
  have c3 : (3 : Int32).toNatClampNeg = 3 := rfl
  have c11 : (11 : Int32).toNatClampNeg = 11 := rfl
  have c6 : (6 : Int32).toNatClampNeg = 6 := rfl
  have l2 : ∀ d c τ, c + d = D 1 → (∀ k, ¬ (3 ≤ k ∧ k < 27) → τ k = σ k) → τ 3 0 = nI (D 0) → τ 3 1 = nI (D 1) → (∀ c, c < D 0 → ∀ j, j < 3 → τ (5 + c) j = nI (tB D c j)) → (∀ x, x < c → (∀ j, j < 11 → τ (18 + x) j = nI (tC D x j)) ∧ ∀ j, j < 6 → τ (23 + x) j = nI (tC D x (11 + j))) → b_X5_copyFrom_52 3 28 K (d + 1) (nI c) τ := by
    intro d
    induction d with
    | zero =>
      intro c τ hc f a0 a1 h1 h2
      have : c = D 1 := by omega
      subst this
      exact br_t (by rw [a1]; exact nI_le (Nat.le_refl _) (by omega)) (hK τ f a0 a1 h1 h2)
    | succ d ih =>
      intro c τ hc f a0 a1 h1 h2
      refine br_f (by rw [a1]; exact nI_ge (by omega) (by omega)) ?_
      rw [vin_T (show c < 4 by omega) (by decide), cl_I (by omega), c0, c11, c6]
      simp only [true_and]
      intro τ1 e1 τ2 e2 v ev
      rw [ev, nI_1]
      have e1 : τ1 = upA τ (18 + c) (va_cpy (τ (43 + c)) (τ (18 + c)) 0 0 11) := e1
      have e2 : τ2 = upA τ1 (23 + c) (va_cpy (τ1 (48 + c)) (τ1 (23 + c)) 0 0 6) := e2
      have o : ∀ k, k ≠ 18 + c → k ≠ 23 + c → τ2 k = τ k := fun k a b => by rw [e2, upA_o b, e1, upA_o a]
      refine ih (c + 1) τ2 (by omega) (fun k hk => by rw [o k (by omega) (by omega)]; exact f k hk) (by rw [o 3 (by omega) (by omega)]; exact a0) (by rw [o 3 (by omega) (by omega)]; exact a1) (fun x hx j hj => by rw [o _ (by omega) (by omega)]; exact h1 x hx j hj) (fun x hx => ?_)
      by_cases z : x = c
      · rw [z]
        refine ⟨fun j hj => ?_, fun j hj => ?_⟩
        · rw [e2, upA_o (by omega), e1, upA_k, pk_cpy_in (by omega) (by omega), show 0 + (j - 0) = j by omega, f _ (by omega)]
          exact (d4 c (by omega)).1 j hj
        · rw [e2, upA_k, pk_cpy_in (by omega) (by omega), show 0 + (j - 0) = j by omega, e1, upA_o (by omega), f _ (by omega)]
          exact (d4 c (by omega)).2 j hj
      · rw [o (18 + x) (by omega) (by omega), o (23 + x) (by omega) (by omega)]
        exact h2 x (by omega)
  have l1 : ∀ d c τ, c + d = D 0 → (∀ k, ¬ (3 ≤ k ∧ k < 27) → τ k = σ k) → τ 3 0 = nI (D 0) → τ 3 1 = nI (D 1) → (∀ x, x < c → ∀ j, j < 3 → τ (5 + x) j = nI (tB D x j)) → b_X5_copyFrom_18 3 28 K (d + 1) (nI c) τ := by
    intro d
    induction d with
    | zero =>
      intro c τ hc f a0 a1 h1
      have : c = D 0 := by omega
      subst this
      exact br_t (by rw [a0]; exact nI_le (Nat.le_refl _) (by omega)) ⟨_, l2 (D 1) 0 τ (by omega) f a0 a1 h1 (fun x hx => by omega)⟩
    | succ d ih =>
      intro c τ hc f a0 a1 h1
      refine br_f (by rw [a0]; exact nI_ge (by omega) (by omega)) ?_
      rw [vin_T (show c < 12 by omega) (by decide), cl_I (by omega), c0, c3]
      simp only [true_and]
      intro τ1 e1 v ev
      rw [ev, nI_1]
      have e1 : τ1 = upA τ (5 + c) (va_cpy (τ (30 + c)) (τ (5 + c)) 0 0 3) := e1
      have o : ∀ k, k ≠ 5 + c → τ1 k = τ k := fun k a => by rw [e1, upA_o a]
      refine ih (c + 1) τ1 (by omega) (fun k hk => by rw [o k (by omega)]; exact f k hk) (by rw [o 3 (by omega)]; exact a0) (by rw [o 3 (by omega)]; exact a1) (fun x hx j hj => ?_)
      by_cases z : x = c
      · rw [z, e1, upA_k, pk_cpy_in (by omega) (by omega), show 0 + (j - 0) = j by omega, f _ (by omega)]
        exact d3 c (by omega) j hj
      · rw [o _ (by omega)]
        exact h1 x (by omega) j hj
  intro τ1 e1 τ2 e2
  have r1 : τ1 28 1 = nI (D 1) := by rw [e1, up_o (by decide)]; exact d2
  rw [d1] at e1
  rw [r1] at e2
  exact ⟨_, l1 (D 0) 0 τ2 (by omega) (fun k hk => by rw [e2, up_o (by omega), e1, up_o (by omega)]) (by rw [e2, up_j (by decide), e1, up_s]) (by rw [e2, up_s]) (fun x hx => by omega)⟩
end
