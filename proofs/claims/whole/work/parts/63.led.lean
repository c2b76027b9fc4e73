/-! THE LEDGER, the class's: rows cleared, ties and games entered -/
def ad (σ : Sg) (k j : Nat) (v : Int32) : Sg := up σ k j (σ k j + v)
section
variable {σ : Sg} {k j a b n h : Nat} {v : Int32}
theorem ad_s : ad σ k j v k j = σ k j + v := up_s
theorem ad_ok (q : a ≠ k) : ad σ k j v a = σ a := up_o q
theorem ad_o (q : ¬ (a = k ∧ b = j)) : ad σ k j v a b = σ a b := by
  unfold ad
  by_cases e : a = k
  · subst e; exact up_j (fun z => q ⟨rfl, z⟩)
  · rw [up_o e]
theorem ad_c : ad σ (n + h) j v (n + b) j = σ (n + b) j + (if h = b then v else 0) := by
  by_cases e : h = b
  · subst e; rw [if_pos rfl, ad_s]
  · rw [if_neg e, ad_o (by omega), Int32.add_zero]
theorem ad_r : ad σ k h v k b = σ k b + (if h = b then v else 0) := by
  by_cases e : h = b
  · subst e; rw [if_pos rfl, ad_s]
  · rw [if_neg e, ad_o (by omega), Int32.add_zero]
end
theorem nI_if {p : Prop} [Decidable p] {a : Nat} : (if p then nI a else (0 : Int32)) = nI (if p then a else 0) := by
  by_cases h : p
  · rw [if_pos h, if_pos h]
  · rw [if_neg h, if_neg h]; rfl
/-- what the ledger's reckoning leaves -/
def LF (σ τ : Sg) : Prop := ∀ k, k < 179 ∨ 226 < k → τ k = σ k
theorem LF.rf (σ : Sg) : LF σ σ := fun _ _ => rfl
theorem LF.tr {σ τ υ : Sg} (h : LF σ τ) (g : LF τ υ) : LF σ υ := fun k hk => (g k hk).trans (h k hk)
theorem LF.ad {σ τ : Sg} {k j : Nat} {v : Int32} (h : LF σ τ) (hk : 179 ≤ k ∧ k ≤ 226) : LF σ (ad τ k j v) := fun a ha => (up_o (by omega)).trans (h a ha)
theorem LF.up {σ τ : Sg} {k j : Nat} {v : Int32} (h : LF σ τ) (hk : 179 ≤ k ∧ k ≤ 226) : LF σ (up τ k j v) := fun a ha => (up_o (by omega)).trans (h a ha)
/-- the class's half -/
def ccore (σ : Sg) (T R : Nat → Nat) : Prop := toldOk T ∧ rowOk T R ∧ bookR σ T ∧ sea σ 55 R
theorem core.c {σ : Sg} {T R : Nat → Nat} (h : core σ T R) : ccore σ T R := ⟨h.1, h.2.1, h.2.2.1, h.2.2.2.2⟩
theorem ccore.l {σ τ : Sg} {T R : Nat → Nat} (h : ccore σ T R) (g : LF σ τ) : ccore τ T R := ⟨h.1, h.2.1, bookR_congr h.1 h.2.2.1 (g 234 (by omega)) (g 3 (by omega)) (fun k _ _ => g k (by omega)), sea_congr h.2.2.2 (fun k _ _ => g k (by omega))⟩
theorem c_clr {σ : Sg} {k n : Nat} {K : Sg → Prop} (hn : n < 2 ^ 31) (hK : ∀ τ : Sg, (∀ a, a ≠ k → τ a = σ a) → (∀ j, j < n → τ k j = 0) → K τ) : wp_X3_clearRow k n σ K := by
  have main : ∀ d y τ, y + d = n → (∀ a, a ≠ k → τ a = σ a) → (∀ j, j < y → τ k j = 0) → b_X3_clearRow_2 k n K (d + 1) (nI y) τ := by
    intro d
    induction d with
    | zero =>
      intro y τ hy f h
      have : y = n := by omega
      subst this
      exact br_t (nI_le (Nat.le_refl _) hn) (hK τ f h)
    | succ d ih =>
      intro y τ hy f h
      refine br_f (nI_ge (b := n) (by omega) hn) ?_
      rw [vin_T (by omega) hn, cl_I (by omega), true_and]
      intro υ e w ew
      rw [ew, nI_1, e]
      refine ih (y + 1) _ (by omega) (fun a ha => by rw [up_o ha]; exact f a ha) (fun j hj => ?_)
      by_cases q : j = y
      · subst q; exact up_s
      · rw [up_j q]; exact h j (by omega)
  exact ⟨_, main n 0 σ (by omega) (fun _ _ => rfl) (fun j hj => by omega)⟩
/-- rows D .. D + y - 1 are 0 in their first w places -/
def zr (σ : Sg) (D w y : Nat) : Prop := ∀ b, b < y → ∀ j, j < w → σ (D + b) j = 0
theorem zr.fr {σ τ : Sg} {D w y : Nat} (h : zr σ D w y) (f : ∀ b, b < y → τ (D + b) = σ (D + b)) : zr τ D w y := fun b hb j hj => by rw [f b hb]; exact h b hb j hj
theorem zr.s {σ τ : Sg} {D w y : Nat} (h : zr σ D w y) (f : ∀ a, a ≠ D + y → τ a = σ a) (g : ∀ j, j < w → τ (D + y) j = 0) : zr τ D w (y + 1) := fun b hb j hj => by
  by_cases q : b = y
  · subst q; exact g j hj
  · rw [f (D + b) (by omega)]; exact h b (by omega) j hj
theorem c_clear {σ : Sg} {K : Sg → Prop} (hK : ∀ τ : Sg, LF σ τ → zr τ 182 12 12 → zr τ 195 3 4 → zr τ 200 7 24 → (∀ j, j < 12 → τ 224 j = 0) → (∀ j, j < 6 → τ 226 j = 0) → K τ) : wp_X3_clear σ K := by
  have l3 : ∀ d y τ, y + d = 24 → LF σ τ → zr τ 182 12 12 → zr τ 195 3 4 → zr τ 200 7 y → b_X3_clear_47 K (d + 1) (nI y) τ := by
    intro d
    induction d with
    | zero =>
      intro y τ hy f h1 h2 h3
      have : y = 24 := by omega
      subst this
      refine br_t (by decide) (c_clr (by decide) (fun τ1 f1 g1 => c_clr (by decide) (fun τ2 f2 g2 => ?_)))
      have o : ∀ a, a ≠ 224 → a ≠ 226 → τ2 a = τ a := fun a a1 a2 => by rw [f2 a a2, f1 a a1]
      exact hK τ2 (fun a ha => by rw [o a (by omega) (by omega)]; exact f a ha) (h1.fr (fun b hb => o _ (by omega) (by omega))) (h2.fr (fun b hb => o _ (by omega) (by omega))) (h3.fr (fun b hb => o _ (by omega) (by omega))) (fun j hj => by rw [f2 224 (by decide)]; exact g1 j hj) g2
    | succ d ih =>
      intro y τ hy f h1 h2 h3
      refine br_f (nI_ge (b := 24) (by omega) (by decide)) ?_
      rw [vin_T (by omega) (by decide), cl_I (by omega), true_and]
      refine c_clr (by decide) (fun τ1 f1 g1 w ew => ?_)
      rw [ew, nI_1]
      exact ih (y + 1) τ1 (by omega) (fun a ha => by rw [f1 a (by omega)]; exact f a ha) (h1.fr (fun b hb => f1 _ (by omega))) (h2.fr (fun b hb => f1 _ (by omega))) (h3.s (fun a ha => f1 a (by omega)) g1)
  have l2 : ∀ d y τ, y + d = 4 → LF σ τ → zr τ 182 12 12 → zr τ 195 3 y → b_X3_clear_25 K (d + 1) (nI y) τ := by
    intro d
    induction d with
    | zero =>
      intro y τ hy f h1 h2
      have : y = 4 := by omega
      subst this
      exact br_t (by decide) ⟨_, l3 24 0 τ (by omega) f h1 h2 (fun b hb => by omega)⟩
    | succ d ih =>
      intro y τ hy f h1 h2
      refine br_f (nI_ge (b := 4) (by omega) (by decide)) ?_
      rw [vin_T (by omega) (by decide), cl_I (by omega), true_and]
      refine c_clr (by decide) (fun τ1 f1 g1 w ew => ?_)
      rw [ew, nI_1]
      exact ih (y + 1) τ1 (by omega) (fun a ha => by rw [f1 a (by omega)]; exact f a ha) (h1.fr (fun b hb => f1 _ (by omega))) (h2.s (fun a ha => f1 a (by omega)) g1)
  have l1 : ∀ d y τ, y + d = 12 → LF σ τ → zr τ 182 12 y → b_X3_clear_2 K (d + 1) (nI y) τ := by
    intro d
    induction d with
    | zero =>
      intro y τ hy f h1
      have : y = 12 := by omega
      subst this
      exact br_t (by decide) ⟨_, l2 4 0 τ (by omega) f h1 (fun b hb => by omega)⟩
    | succ d ih =>
      intro y τ hy f h1
      refine br_f (nI_ge (b := 12) (by omega) (by decide)) ?_
      rw [vin_T (by omega) (by decide), cl_I (by omega), true_and]
      refine c_clr (by decide) (fun τ1 f1 g1 w ew => ?_)
      rw [ew, nI_1]
      exact ih (y + 1) τ1 (by omega) (fun a ha => by rw [f1 a (by omega)]; exact f a ha) (h1.s (fun a ha => f1 a (by omega)) g1)
  exact ⟨_, l1 12 0 σ (by omega) (LF.rf σ) (fun b hb => by omega)⟩
/-! the sums so far -/
def nK (R : Nat → Nat) (k n : Nat) : Nat := su (fun t => if 6 * rT R t 0 + rT R t 1 = k then 1 else 0) n
def nC (R : Nat → Nat) (c n : Nat) : Nat := su (fun t => if rT R t 0 = c then 1 else 0) n
def lgC (σ : Sg) (T R : Nat → Nat) (t g n b : Nat) : Prop := σ (182 + b) 4 = nI (ac R (fEx T R b) t g) ∧ σ (182 + b) 5 = nI (ac R (fAh T R b) t g) ∧ σ (182 + b) 6 = nI (ac R (fAg T R b) t g) ∧ σ (182 + b) 10 = nI (ac R (fPl R b) t g) ∧ σ (182 + b) 11 = nI (aWi R b n) ∧ σ 224 b = nI (ac R (fGa R b) t g) ∧ σ (182 + b) 7 = 0 ∧ σ (182 + b) 9 = 0
def lgU (σ : Sg) (R : Nat → Nat) (t g n c : Nat) : Prop := σ (195 + c) 1 = nI (ac R (fCG R c) t g) ∧ σ (195 + c) 2 = nI (nC R c n)
def lgP (σ : Sg) (T R : Nat → Nat) (t g n k : Nat) : Prop := σ (200 + k) 0 = nI (ac R (fPo T R k) t g) ∧ σ (200 + k) 6 = nI (nK R k n) ∧ σ (200 + k) 2 = 0 ∧ σ (200 + k) 3 = 0 ∧ σ (200 + k) 4 = 0
def lgT (σ : Sg) (T R : Nat → Nat) (t g : Nat) : Prop := σ 226 0 = nI (ac R (fAG R) t g) ∧ σ 226 1 = nI (ac R (fAE T R) t g) ∧ σ 226 2 = nI (ac R (fAS T R) t g) ∧ σ 226 3 = nI (ac R (fAP T R) t g) ∧ σ 226 4 = 0 ∧ σ 226 5 = 0
def lgA (σ : Sg) (T R : Nat → Nat) (t g n : Nat) : Prop := (∀ b, b < 12 → lgC σ T R t g n b) ∧ (∀ c, c < 4 → lgU σ R t g n c) ∧ (∀ k, k < 24 → lgP σ T R t g n k) ∧ lgT σ T R t g
theorem ac_00 {R : Nat → Nat} {f : Nat → Nat → Nat} : nI (ac R f 0 0) = 0 := rfl
theorem ac_s {R : Nat → Nat} {f : Nat → Nat → Nat} {t g : Nat} : ac R f t (g + 1) = ac R f t g + f t g := by unfold ac; simp only [su, Nat.add_assoc]
theorem ac_n {R : Nat → Nat} {f : Nat → Nat → Nat} {t : Nat} : ac R f (t + 1) 0 = ac R f t (rT R t 4) := rfl
theorem lgA_0 {τ : Sg} {T R : Nat → Nat} (h1 : zr τ 182 12 12) (h2 : zr τ 195 3 4) (h3 : zr τ 200 7 24) (h4 : ∀ j, j < 12 → τ 224 j = 0) (h5 : ∀ j, j < 6 → τ 226 j = 0) : lgA τ T R 0 0 0 :=
  ⟨fun b hb => ⟨h1 b hb 4 (by omega), h1 b hb 5 (by omega), h1 b hb 6 (by omega), h1 b hb 10 (by omega), h1 b hb 11 (by omega), h4 b hb, h1 b hb 7 (by omega), h1 b hb 9 (by omega)⟩, fun c hc => ⟨h2 c hc 1 (by omega), h2 c hc 2 (by omega)⟩, fun k hk => ⟨h3 k hk 0 (by omega), h3 k hk 6 (by omega), h3 k hk 2 (by omega), h3 k hk 3 (by omega), h3 k hk 4 (by omega)⟩, ⟨h5 0 (by omega), h5 1 (by omega), h5 2 (by omega), h5 3 (by omega), h5 4 (by omega), h5 5 (by omega)⟩⟩
theorem lgA_n {σ : Sg} {T R : Nat → Nat} {t n : Nat} (h : lgA σ T R t (rT R t 4) n) : lgA σ T R (t + 1) 0 n := h
theorem aWi_s {R : Nat → Nat} {b t : Nat} : aWi R b (t + 1) = aWi R b t + (if (0 < rT R t 4 ∧ wo R t (rT R t 4 - 1) ≠ 2) ∧ wnr R t = b then 1 else 0) := rfl
theorem c_enterT {σ : Sg} {T R : Nat → Nat} {t : Nat} {K : Sg → Prop} (h : ccore σ T R) (ht : t < R 0) (hl : lgA σ T R t 0 t) (hK : ∀ τ : Sg, LF σ τ → lgA τ T R t 0 (t + 1) → K τ) : wp_X3_enterTie (nI t) σ K := by
  have h12 := h.1.1
  have h4 := h.1.2.1
  have h30 := h.2.1.1
  obtain ⟨k0, k1, -⟩ := h.2.1.2.2.1 t ht
  obtain ⟨e1, e2, -⟩ := h.2.2.2.2.2 t ht
  have e1 : σ 56 t = nI (rT R t 0) := e1
  have e2 : σ 57 t = nI (rT R t 1) := e2
  obtain ⟨l1, l2, l3, l4⟩ := hl
  unfold wp_X3_enterTie
  simp (disch := omega) only [vin_T, cl_I, true_and, e1]
  intro τ1 f1
  have f1 : τ1 = ad σ (195 + rT R t 0) 2 1 := f1
  rw [show τ1 56 t = nI (rT R t 0) by rw [f1, ad_ok (by omega)]; exact e1, show τ1 57 t = nI (rT R t 1) by rw [f1, ad_ok (by omega)]; exact e2, L6, pk_mul, nI_add, Nat.mul_comm (rT R t 0) 6, vin_T (by omega) (by decide), cl_I (by omega), true_and]
  intro τ2 f2
  have f2 : τ2 = ad τ1 (200 + (6 * rT R t 0 + rT R t 1)) 6 1 := f2
  have g2 : LF σ τ2 := by rw [f2, f1]; exact ((LF.rf σ).ad (by omega)).ad (by omega)
  have h2 := h.l g2
  have i1 : nI (1 : Nat) = 1 := rfl
  have cU : ∀ υ : Sg, (∀ a, 195 ≤ a → υ a = τ2 a) → (∀ c, c < 4 → lgU υ R t 0 (t + 1) c) ∧ (∀ k, k < 24 → lgP υ T R t 0 (t + 1) k) ∧ lgT υ T R t 0 := by
    intro υ hu
    refine ⟨fun c hc => ?_, fun k hk => ?_, ?_⟩
    · obtain ⟨a1, a2⟩ := l2 c hc
      refine ⟨?_, ?_⟩
      · rw [hu _ (by omega), f2, f1]; simp (disch := omega) only [ad_o]; exact a1
      · rw [hu _ (by omega), f2, f1]; simp (disch := omega) only [ad_o, ad_c]
        rw [a2, ← i1, nI_if, nI_add]; rfl
    · obtain ⟨a1, a2, a3, a4, a5⟩ := l3 k hk
      refine ⟨?_, ?_, ?_, ?_, ?_⟩
      · rw [hu _ (by omega), f2, f1]; simp (disch := omega) only [ad_o]; exact a1
      · rw [hu _ (by omega), f2, f1]; simp (disch := omega) only [ad_o, ad_c]
        rw [a2, ← i1, nI_if, nI_add]; rfl
      · rw [hu _ (by omega), f2, f1]; simp (disch := omega) only [ad_o]; exact a3
      · rw [hu _ (by omega), f2, f1]; simp (disch := omega) only [ad_o]; exact a4
      · rw [hu _ (by omega), f2, f1]; simp (disch := omega) only [ad_o]; exact a5
    · obtain ⟨a1, a2, a3, a4, a5, a6⟩ := l4
      have e : υ 226 = σ 226 := by rw [hu _ (by omega), f2, f1, ad_ok (by omega), ad_ok (by omega)]
      unfold lgT
      rw [e]
      exact ⟨a1, a2, a3, a4, a5, a6⟩
  have oC : ∀ b j, b < 12 → τ2 (182 + b) j = σ (182 + b) j := fun b j hb => by rw [f2, f1, ad_ok (by omega), ad_ok (by omega)]
  have o224 : τ2 224 = σ 224 := by rw [f2, f1, ad_ok (by omega), ad_ok (by omega)]
  rw [c_dec h2.2.2.2 h2.2.1 ht]
  by_cases q : de R t
  · rw [br_T q, br_F (by decide), c_win h2.2.2.2 h2.2.1 ht, br_T q]
    have hw := (wnr_lt h.2.1 ht q).1
    rw [vin_T (by omega) (by decide), cl_I (by omega), true_and]
    intro τ3 f3
    have f3 : τ3 = ad τ2 (182 + wnr R t) 11 1 := f3
    refine hK τ3 (by rw [f3]; exact g2.ad (by omega)) ⟨fun b hb => ?_, cU τ3 (fun a ha => by rw [f3, ad_ok (by omega)])⟩
    obtain ⟨a1, a2, a3, a4, a5, a6, a7, a8⟩ := l1 b hb
    rw [f3]
    refine ⟨?_, ?_, ?_, ?_, ?_, ?_, ?_, ?_⟩
    · simp (disch := omega) only [ad_o, oC]; exact a1
    · simp (disch := omega) only [ad_o, oC]; exact a2
    · simp (disch := omega) only [ad_o, oC]; exact a3
    · simp (disch := omega) only [ad_o, oC]; exact a4
    · rw [ad_c, oC b _ hb, a5, ← i1, nI_if, nI_add]
      congr 1
      rw [aWi_s]
      congr 1
      by_cases z : wnr R t = b
      · rw [if_pos z, if_pos ⟨q, z⟩]
      · rw [if_neg z, if_neg (fun y => z y.2)]
    · rw [ad_ok (by omega), o224]; exact a6
    · simp (disch := omega) only [ad_o, oC]; exact a7
    · simp (disch := omega) only [ad_o, oC]; exact a8
  · rw [br_F q, br_T rfl]
    refine hK τ2 g2 ⟨fun b hb => ?_, cU τ2 (fun a ha => rfl)⟩
    obtain ⟨a1, a2, a3, a4, a5, a6, a7, a8⟩ := l1 b hb
    unfold lgC
    rw [o224, oC b _ hb, oC b _ hb, oC b _ hb, oC b _ hb, oC b _ hb, oC b _ hb, oC b _ hb]
    refine ⟨a1, a2, a3, a4, ?_, a6, a7, a8⟩
    rw [a5]
    congr 1
    rw [aWi_s, if_neg (fun y => q y.1)]; rfl
