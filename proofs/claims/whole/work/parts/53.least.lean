/-! LEAST -/
section
variable {T R : Nat → Nat} {c r g h u v w x t : Nat}
def sD (T : Nat → Nat) (c r h u : Nat) : Nat := sDh T c r h + tB T u 1
theorem xE_lo {w dh dg v : Nat} (hv : v ≤ dh + dg) : xEh w dh dg v + xEg w dh dg v = v := by
  have := @q_le v dg dh
  unfold xEh xEg
  repeat' split
  all_goals omega
theorem xE_hi {w dh dg v : Nat} (hv : dh + dg ≤ v) : xEh w dh dg v = dh ∧ xEg w dh dg v = dg := by
  unfold xEh xEg
  refine ⟨?_, ?_⟩
  all_goals repeat' split
  all_goals omega
theorem q_mono {v k dg D : Nat} (hd : dg ≤ D) (hD : 0 < D) : v * dg / D ≤ (v + k) * dg / D ∧ (v + k) * dg / D ≤ v * dg / D + k := by
  refine ⟨Nat.div_le_div_right (Nat.mul_le_mul_right _ (by omega)), ?_⟩
  rw [← Nat.add_mul_div_right _ _ hD]
  apply Nat.div_le_div_right
  rw [Nat.add_mul]
  exact Nat.add_le_add_left (Nat.mul_le_mul_left _ hd) _
theorem xE_mono {w dh dg v k : Nat} (hv : v + k ≤ dh + dg) : xEh w dh dg v ≤ xEh w dh dg (v + k) ∧ xEg w dh dg v ≤ xEg w dh dg (v + k) := by
  rcases Nat.eq_zero_or_pos (dh + dg) with z | z
  · have : v = 0 := by omega
    have : k = 0 := by omega
    subst v k
    exact ⟨Nat.le_refl _, Nat.le_refl _⟩
  · have hq := q_mono (v := v) (k := k) (dg := dg) (D := dh + dg) (by omega) z
    have hq2 := @q_le v dg dh
    have e : v + k = dh + dg → (v + k) * dg / (dh + dg) = dg := fun e => by rw [e]; exact Nat.mul_div_cancel_left dg z
    unfold xEh xEg
    refine ⟨?_, ?_⟩
    · by_cases w0 : w = 0
      · rw [if_pos w0, if_pos w0]; omega
      · rw [if_neg w0, if_neg w0]
        by_cases w1 : w = 1
        · rw [if_pos w1, if_pos w1]; omega
        · rw [if_neg w1, if_neg w1]
          by_cases a : v + k < dh + dg
          · rw [if_pos a, if_pos (by omega)]; omega
          · rw [if_neg a]
            have := e (by omega)
            split <;> omega
    · by_cases w0 : w = 0
      · rw [if_pos w0, if_pos w0]; omega
      · rw [if_neg w0, if_neg w0]
        by_cases w1 : w = 1
        · rw [if_pos w1, if_pos w1]; omega
        · rw [if_neg w1, if_neg w1]
          by_cases a : v + k < dh + dg
          · rw [if_pos a, if_pos (by omega)]; omega
          · rw [if_neg a]
            have := e (by omega)
            split <;> omega
theorem s0 : sSh T c r g 0 = 0 ∧ sSg T c r g 0 = 0 ∧ sSp T c r g 0 = 0 := by
  have a : sH1 T c r g 0 = 0 := by unfold sH1 sLe; simp
  have b : sG1 T c r g 0 = 0 := by unfold sG1 sLe; simp
  have p : sP1 T c r g 0 = 0 := by unfold sP1 sLe; simp
  have k : sLk T c r g 0 = 0 := by unfold sLk; simp
  unfold sSh sSg sSp sFh
  rw [a, b, p, k]
  exact ⟨rfl, rfl, rfl⟩
theorem pc100 (x p : Nat) : (x + 100) * p / 100 = x * p / 100 + p := by
  rw [Nat.add_mul, Nat.add_mul_div_left _ _ (by decide)]
theorem s100 (hc : cupOk T c) : sSh T c r g x ≤ sSh T c r g (x + 100) ∧ sSg T c r g x ≤ sSg T c r g (x + 100) ∧ sSp T c r g x ≤ sSp T c r g (x + 100) := by
  have hO := sO_sum (r := r) (g := g) hc
  have hle := parts_le (x := x) hO
  have h1 := s1_sum (r := r) (g := g) (x := x) hc
  have eL : sLe T c r g (x + 100) = sLe T c r g x := by
    unfold sLe
    rw [pc100, pc100, pc100]
    omega
  have eH : sH1 T c r g (x + 100) = sH1 T c r g x + sOh T c r g := by
    unfold sH1; rw [eL, pc100]; omega
  have eG : sG1 T c r g (x + 100) = sG1 T c r g x + sOg T c r g := by
    unfold sG1; rw [eL, pc100]; omega
  have eP : sP1 T c r g (x + 100) = sP1 T c r g x + sOp T c r g := by
    unfold sP1; rw [eL, pc100]; omega
  unfold sSh sSg sSp sFh sLk
  rw [eH, eG, eP]
  generalize sH1 T c r g x = H at *
  generalize sG1 T c r g x = G at *
  generalize sP1 T c r g x = P at *
  generalize sOh T c r g = oh at *
  generalize sOg T c r g = og at *
  generalize sOp T c r g = op at *
  by_cases q : 0 < g ∨ tC T c 9 ≤ r
  · rw [if_pos q, if_pos q]; omega
  · rw [if_neg q, if_neg q]; omega
/-- what it has, as a function of the gate -/
def qF (T R : Nat → Nat) (t w : Nat) (v : Nat) : Nat := qHas T R (rT R t 0) t (rT R t 4) v w
def qD (T R : Nat → Nat) (t : Nat) : Nat := sD T (rT R t 0) (rT R t 1) (gH R t (rT R t 4)) (gU R t (rT R t 4))
theorem qF_lo {k : Nat} (hv : v + k ≤ qD T R t) : qF T R t w v ≤ qF T R t w (v + k) := by
  have e1 : qRe T R (rT R t 0) t (rT R t 4) v = 0 := by
    have := xE_lo (w := tC T (rT R t 0) 3) (dh := sDh T (rT R t 0) (rT R t 1) (gH R t (rT R t 4))) (dg := tB T (gU R t (rT R t 4)) 1) (v := v) (by have h2 := hv; unfold qD sD at h2; omega)
    unfold qRe sRe
    rw [sE_x.1, sE_x.2]
    omega
  have e2 : qRe T R (rT R t 0) t (rT R t 4) (v + k) = 0 := by
    have := xE_lo (w := tC T (rT R t 0) 3) (dh := sDh T (rT R t 0) (rT R t 1) (gH R t (rT R t 4))) (dg := tB T (gU R t (rT R t 4)) 1) (v := v + k) (by have h2 := hv; unfold qD sD at h2; omega)
    unfold qRe sRe
    rw [sE_x.1, sE_x.2]
    omega
  have hm := xE_mono (w := tC T (rT R t 0) 3) (dh := sDh T (rT R t 0) (rT R t 1) (gH R t (rT R t 4))) (dg := tB T (gU R t (rT R t 4)) 1) (v := v) (k := k) (by have h2 := hv; unfold qD sD at h2; omega)
  unfold qF qHas qSp qSh qSg qEh qEg
  rw [e1, e2, s0.1, s0.2.1, s0.2.2, sE_x.1, sE_x.2, sE_x.1, sE_x.2]
  split
  · exact Nat.le_refl _
  · split
    · have := hm.1; omega
    · have := hm.2; omega
theorem qF_hi (hc : cupOk T (rT R t 0)) (hv : qD T R t ≤ v) : qF T R t w v ≤ qF T R t w (v + 100) := by
  have a1 := xE_hi (w := tC T (rT R t 0) 3) (dh := sDh T (rT R t 0) (rT R t 1) (gH R t (rT R t 4))) (dg := tB T (gU R t (rT R t 4)) 1) (v := v) (by have h2 := hv; unfold qD sD at h2; omega)
  have a2 := xE_hi (w := tC T (rT R t 0) 3) (dh := sDh T (rT R t 0) (rT R t 1) (gH R t (rT R t 4))) (dg := tB T (gU R t (rT R t 4)) 1) (v := v + 100) (by have h2 := hv; unfold qD sD at h2; omega)
  have e1 : qRe T R (rT R t 0) t (rT R t 4) (v + 100) = qRe T R (rT R t 0) t (rT R t 4) v + 100 := by
    unfold qRe sRe
    rw [sE_x.1, sE_x.2, sE_x.1, sE_x.2, a1.1, a1.2, a2.1, a2.2]
    have h2 := hv
    unfold qD sD at h2
    omega
  have hs := s100 (r := rT R t 1) (g := rT R t 4) (x := qRe T R (rT R t 0) t (rT R t 4) v) hc
  unfold qF qHas qSp qSh qSg qEh qEg
  rw [e1, sE_x.1, sE_x.2, sE_x.1, sE_x.2, a1.1, a1.2, a2.1, a2.2]
  split
  · exact hs.2.2
  · split
    · have := hs.1; omega
    · have := hs.2.1; omega
/-- the first place below b, from a on, where f comes to N; else -2 -/
def isL (f : Nat → Nat) (N a b : Nat) (r : Int32) : Prop := (∃ v, a ≤ v ∧ v < b ∧ N ≤ f v ∧ (∀ u, a ≤ u → u < v → f u < N) ∧ r = nI v) ∨ ((∀ u, a ≤ u → u < b → f u < N) ∧ r = -2)
theorem isL_un {f : Nat → Nat} {N a b : Nat} {r s : Int32} (h1 : isL f N a b r) (h2 : isL f N a b s) : r = s := by
  rcases h1 with ⟨v, a1, a2, a3, a4, a5⟩ | ⟨a1, a2⟩
  · rcases h2 with ⟨y, b1, b2, b3, b4, b5⟩ | ⟨b1, b2⟩
    · have : v = y := by
        rcases Nat.lt_trichotomy v y with q | q | q
        · have := b4 v a1 q; omega
        · exact q
        · have := a4 y b1 q; omega
      rw [a5, b5, this]
    · have := b1 v a1 a2; omega
  · rcases h2 with ⟨y, b1, b2, b3, b4, b5⟩ | ⟨b1, b2⟩
    · have := a1 y b1 b2; omega
    · rw [a2, b2]
end
section
variable {σ : Sg} {T R : Nat → Nat} {t w N : Nat} {K : Int32 → Sg → Prop}
theorem m_le_l (h : core σ T R) (ht : t < R 0) (hw : w ≤ 2) (hN : N < 2 ^ 31) (hK : ∀ (r : Int32) (τ : Sg), Mg σ τ → isL (qF T R t w) N 0 100000 r → K r τ) : ∀ d v τ, v + d = 100000 → (∀ u, u < v → qF T R t w u < N) → Mg σ τ → b_X10_least_34 (nI t) (nI N) (nI w) K (d + 1) (nI v) τ := by
  have hc := h.1.2.2.2.2 _ (h.2.1.2.2.1 t ht).1
  intro d
  induction d with
  | zero =>
    intro v τ hv hu f
    refine br_t ?_ (hK _ τ f (Or.inr ⟨fun u _ hb => hu u (by omega), rfl⟩))
    rw [L99999]
    exact nI_lt (by omega) (by omega)
  | succ d ih =>
    intro v τ hv hu f
    refine br_f ?_ ?_
    · rw [L99999]
      exact nI_nlt (by omega) (by decide)
    · refine m_next (h.g f) ht (by omega) hw (fun υ g => ?_)
      have hq : qHas T R (rT R t 0) t (rT R t 4) v w ≤ v := qHas_le hc
      rw [br_iff (nI_ltI (by omega) hN)]
      refine ⟨fun q z ez => ?_, fun q => ?_⟩
      · rw [ez, nI_1]
        refine ih (v + 1) υ (by omega) (fun u hu' => ?_) (f.tr g)
        by_cases e : u = v
        · rw [e]; exact q
        · exact hu u (by omega)
      · exact hK _ υ (f.tr g) (Or.inl ⟨v, by omega, by omega, by show N ≤ qHas T R (rT R t 0) t (rT R t 4) v w; omega, fun u _ hu' => hu u hu', rfl⟩)
theorem c_fi_l (h : core σ T R) (ht : t < R 0) (hw : w ≤ 2) (hN : N < 2 ^ 31) {a b : Nat} (ha0 : a < 2 ^ 30) (hb : b ≤ 100000) {x4 : Int32} (hK : ∀ (r : Int32) (τ : Sg), Fr [179] σ τ → isL (qF T R t w) N a b r → K r τ) : ∀ d v τ, a ≤ v → v + d = max a b → (∀ u, a ≤ u → u < v → qF T R t w u < N) → Fr [179] σ τ → b_X9_firstInHundred_17 (nI t) (nI N) (nI w) x4 K (d + 1) (nI b) (nI v) τ := by
  have hc := h.1.2.2.2.2 _ (h.2.1.2.2.1 t ht).1
  have h30 := h.2.1.1
  have h4 := (h.2.1.2.2.1 t ht).2.2.2.2.2.1
  intro d
  induction d with
  | zero =>
    intro v τ ha hv hu f
    have hab : v < 2 ^ 31 := by omega
    refine br_t (nI_le (by omega) hab) (hK _ τ f (Or.inr ⟨fun u q1 q2 => hu u q1 (by omega), rfl⟩))
  | succ d ih =>
    intro v τ ha hv hu f
    refine br_f (nI_ge (by omega) (by omega)) ?_
    have e60 : τ 60 t = nI (rT R t 4) := ((h.s f).2.2.2.2.2.2 t ht).2.2.2.2.1
    rw [vin_T (by omega) (by decide), true_and, cl_I (by omega), e60]
    refine c_hadG (h.s f) ht (by omega) (by omega) hw (fun υ g => ?_)
    have hq : qHas T R (rT R t 0) t (rT R t 4) v w ≤ v := qHas_le hc
    rw [br_iff (nI_ltI (by omega) hN)]
    refine ⟨fun q z ez => ?_, fun q => ?_⟩
    · rw [ez, nI_1]
      refine ih (v + 1) υ (by omega) (by omega) (fun u q1 hu' => ?_) (f.tr g)
      by_cases e : u = v
      · rw [e]; exact q
      · exact hu u q1 (by omega)
    · exact hK _ υ (f.tr g) (Or.inl ⟨v, ha, by omega, by show N ≤ qHas T R (rT R t 0) t (rT R t 4) v w; omega, hu, rfl⟩)
end
