/-! THE LEDGER: a game entered; all games -/
def gSt (σ : Sg) (h u c k : Nat) (v eh eg sh sg sp : Int32) : Sg :=
  ad (ad (ad (ad (ad (ad (ad (ad (ad (ad (ad (ad (ad σ (182 + h) 10 1) (182 + u) 10 1) (182 + h) 4 eh) (182 + u) 4 eg) (182 + h) 5 sh) (182 + u) 6 sg) 224 h v) (195 + c) 1 v) (200 + k) 0 sp) 226 0 v) 226 1 (eh + eg)) 226 2 (sh + sg)) 226 3 sp
theorem gSt_lf {σ : Sg} {h u c k : Nat} {v eh eg sh sg sp : Int32} (hh : h < 12) (hu : u < 12) (hc : c < 4) (hk : k < 24) : LF σ (gSt σ h u c k v eh eg sh sg sp) := by
  unfold gSt
  exact (LF.rf σ).ad (by omega) |>.ad (by omega) |>.ad (by omega) |>.ad (by omega) |>.ad (by omega) |>.ad (by omega) |>.ad (by omega) |>.ad (by omega) |>.ad (by omega) |>.ad (by omega) |>.ad (by omega) |>.ad (by omega) |>.ad (by omega)
theorem gSt_A {σ : Sg} {T R : Nat → Nat} {t g n : Nat} (hl : lgA σ T R t g n) (hh : gH R t g < 12) (hu : gU R t g < 12) (hc : rT R t 0 < 4) (hr : rT R t 1 < 6) : lgA (gSt σ (gH R t g) (gU R t g) (rT R t 0) (6 * rT R t 0 + rT R t 1) (nI (ga R t g)) (nI (qEh T R (rT R t 0) t g (ga R t g))) (nI (qEg T R (rT R t 0) t g (ga R t g))) (nI (qSh T R (rT R t 0) t g (ga R t g))) (nI (qSg T R (rT R t 0) t g (ga R t g))) (nI (qSp T R (rT R t 0) t g (ga R t g)))) T R t (g + 1) n := by
  obtain ⟨l1, l2, l3, l4⟩ := hl
  have i1 : (1 : Int32) = nI 1 := rfl
  unfold gSt
  refine ⟨fun b hb => ?_, fun c hc' => ?_, fun k hk => ?_, ?_⟩
  · obtain ⟨a1, a2, a3, a4, a5, a6, a7, a8⟩ := l1 b hb
    refine ⟨?_, ?_, ?_, ?_, ?_, ?_, ?_, ?_⟩
    · simp (disch := omega) only [ad_o, ad_c, nI_if, nI_add, a1]; rw [ac_s, Nat.add_assoc]; rfl
    · simp (disch := omega) only [ad_o, ad_c, nI_if, nI_add, a2]; rw [ac_s]; rfl
    · simp (disch := omega) only [ad_o, ad_c, nI_if, nI_add, a3]; rw [ac_s]; rfl
    · simp (disch := omega) only [ad_o, ad_c, i1, nI_if, nI_add, a4]; rw [ac_s, Nat.add_assoc]; rfl
    · simp (disch := omega) only [ad_o]; exact a5
    · simp (disch := omega) only [ad_o, ad_r, nI_if, nI_add, a6]; rw [ac_s]; rfl
    · simp (disch := omega) only [ad_o]; exact a7
    · simp (disch := omega) only [ad_o]; exact a8
  · obtain ⟨a1, a2⟩ := l2 c hc'
    refine ⟨?_, ?_⟩
    · simp (disch := omega) only [ad_o, ad_c, nI_if, nI_add, a1]; rw [ac_s]; rfl
    · simp (disch := omega) only [ad_o]; exact a2
  · obtain ⟨a1, a2, a3, a4, a5⟩ := l3 k hk
    refine ⟨?_, ?_, ?_, ?_, ?_⟩
    · simp (disch := omega) only [ad_o, ad_c, nI_if, nI_add, a1]; rw [ac_s]; rfl
    · simp (disch := omega) only [ad_o]; exact a2
    · simp (disch := omega) only [ad_o]; exact a3
    · simp (disch := omega) only [ad_o]; exact a4
    · simp (disch := omega) only [ad_o]; exact a5
  · obtain ⟨a1, a2, a3, a4, a5, a6⟩ := l4
    refine ⟨?_, ?_, ?_, ?_, ?_, ?_⟩
    · simp (disch := omega) only [ad_o, ad_s, nI_add, a1]; rw [ac_s]; rfl
    · simp (disch := omega) only [ad_o, ad_s, nI_add, a2]; rw [ac_s]; rfl
    · simp (disch := omega) only [ad_o, ad_s, nI_add, a3]; rw [ac_s]; rfl
    · simp (disch := omega) only [ad_o, ad_s, nI_add, a4]; rw [ac_s]; rfl
    · simp (disch := omega) only [ad_o]; exact a5
    · simp (disch := omega) only [ad_o]; exact a6
theorem lgA_fr {σ τ : Sg} {T R : Nat → Nat} {t g n : Nat} (h : lgA σ T R t g n) (f : ∀ k, 181 ≤ k → k ≤ 226 → τ k = σ k) : lgA τ T R t g n := by
  obtain ⟨l1, l2, l3, l4⟩ := h
  refine ⟨fun b hb => ?_, fun c hc => ?_, fun k hk => ?_, ?_⟩
  · have := l1 b hb
    unfold lgC at this ⊢
    rw [f (182 + b) (by omega) (by omega), f 224 (by omega) (by omega)]; exact this
  · have := l2 c hc
    unfold lgU at this ⊢
    rw [f (195 + c) (by omega) (by omega)]; exact this
  · have := l3 k hk
    unfold lgP at this ⊢
    rw [f (200 + k) (by omega) (by omega)]; exact this
  · unfold lgT at l4 ⊢
    rw [f 226 (by omega) (by omega)]; exact l4
theorem c_enterG {σ : Sg} {T R : Nat → Nat} {t g n : Nat} {K : Sg → Prop} (h : ccore σ T R) (ht : t < R 0) (hg : g < rT R t 4) (hl : lgA σ T R t g n) (hK : ∀ τ : Sg, LF σ τ → lgA τ T R t (g + 1) n → K τ) : wp_X3_enterGame (nI t) (nI g) σ K := by
  have h12 := h.1.1
  have h4 := h.1.2.1
  have h30 := h.2.1.1
  have hok := h.2.1.2.2.1 t ht
  have k0 := hok.1
  have k1 := hok.2.1
  have k5 := hok.2.2.2.2.2.1
  obtain ⟨e1, e2, -, -, -, e6⟩ := h.2.2.2.2.2 t ht
  have e1 : σ 56 t = nI (rT R t 0) := e1
  have e2 : σ 57 t = nI (rT R t 1) := e2
  have e6 : σ 61 (4 * t + g) = nI (ga R t g) := (e6 g hg).1
  have hu := gHU h.1 h.2.1 ht g
  unfold wp_X3_enterGame
  simp (disch := omega) only [vin_T, cl_I, true_and, e1, e2]
  intro v1 x1 v2 x2
  subst x1 x2
  rw [c_host h.2.2.2 h.2.1 ht (by omega), c_guest h.2.2.2 h.2.1 ht (by omega), show nI t * 4 + nI g = nI (4 * t + g) by rw [L4, pk_mul, nI_add, Nat.mul_comm], vin_T (by omega) (by decide), cl_I (by omega), true_and, e6]
  intro v3 x3
  subst x3
  refine c_reck h.1 h.2.2.1 k0 k1 hu.1 hu.2 (by omega) (h.2.1.2.1 _) (fun τ f _ _ s2 s3 _ s5 s6 s7 _ => ?_)
  have s2 : τ 179 2 = nI (qEh T R (rT R t 0) t g (ga R t g)) := s2
  have s3 : τ 179 3 = nI (qEg T R (rT R t 0) t g (ga R t g)) := s3
  have s5 : τ 179 5 = nI (qSh T R (rT R t 0) t g (ga R t g)) := s5
  have s6 : τ 179 6 = nI (qSg T R (rT R t 0) t g (ga R t g)) := s6
  have s7 : τ 179 7 = nI (qSp T R (rT R t 0) t g (ga R t g)) := s7
  have hA := gSt_A (lgA_fr (τ := τ) hl (fun k a b => f k (by simp; omega))) (by omega) (by omega) (by omega) k1
  have hF : LF σ (gSt τ (gH R t g) (gU R t g) (rT R t 0) (6 * rT R t 0 + rT R t 1) (nI (ga R t g)) (nI (qEh T R (rT R t 0) t g (ga R t g))) (nI (qEg T R (rT R t 0) t g (ga R t g))) (nI (qSh T R (rT R t 0) t g (ga R t g))) (nI (qSg T R (rT R t 0) t g (ga R t g))) (nI (qSp T R (rT R t 0) t g (ga R t g)))) := LF.tr (fun k hk => f k (by simp; omega)) (gSt_lf (by omega) (by omega) (by omega) (by omega))
  have hfin := hK _ hF hA
  clear hA hF
  generalize nI (qEh T R (rT R t 0) t g (ga R t g)) = eh at s2 hfin
  generalize nI (qEg T R (rT R t 0) t g (ga R t g)) = eg at s3 hfin
  generalize nI (qSh T R (rT R t 0) t g (ga R t g)) = sh at s5 hfin
  generalize nI (qSg T R (rT R t 0) t g (ga R t g)) = sg at s6 hfin
  generalize nI (qSp T R (rT R t 0) t g (ga R t g)) = sp at s7 hfin
  generalize gH R t g = hh at hu hfin ⊢
  generalize gU R t g = uu at hu hfin ⊢
  simp (disch := omega) only [L6, pk_mul, nI_add, vin_T, cl_I, true_and]
  rw [Nat.mul_comm (rT R t 0) 6]
  intro τ1 f1 τ2 f2 τ3 f3 τ4 f4 τ5 f5 τ6 f6 τ7 f7 τ8 f8 τ9 f9 τ10 f10 τ11 f11 τ12 f12 τ13 f13
  have p1 : τ1 = ad τ (182 + hh) 10 1 := f1
  have p2 : τ2 = ad τ1 (182 + uu) 10 1 := f2
  have r2 : τ2 179 = τ 179 := by rw [p2, ad_ok (by omega), p1, ad_ok (by omega)]
  have p3 : τ3 = ad τ2 (182 + hh) 4 eh := by rw [f3, r2, s2]; rfl
  have r3 : τ3 179 = τ 179 := by rw [p3, ad_ok (by omega)]; exact r2
  have p4 : τ4 = ad τ3 (182 + uu) 4 eg := by rw [f4, r3, s3]; rfl
  have r4 : τ4 179 = τ 179 := by rw [p4, ad_ok (by omega)]; exact r3
  have p5 : τ5 = ad τ4 (182 + hh) 5 sh := by rw [f5, r4, s5]; rfl
  have r5 : τ5 179 = τ 179 := by rw [p5, ad_ok (by omega)]; exact r4
  have p6 : τ6 = ad τ5 (182 + uu) 6 sg := by rw [f6, r5, s6]; rfl
  have r6 : τ6 179 = τ 179 := by rw [p6, ad_ok (by omega)]; exact r5
  have p7 : τ7 = ad τ6 224 hh (nI (ga R t g)) := f7
  have r7 : τ7 179 = τ 179 := by rw [p7, ad_ok (by omega)]; exact r6
  have p8 : τ8 = ad τ7 (195 + rT R t 0) 1 (nI (ga R t g)) := f8
  have r8 : τ8 179 = τ 179 := by rw [p8, ad_ok (by omega)]; exact r7
  have p9 : τ9 = ad τ8 (200 + (6 * rT R t 0 + rT R t 1)) 0 sp := by rw [f9, r8, s7]; rfl
  have r9 : τ9 179 = τ 179 := by rw [p9, ad_ok (by omega)]; exact r8
  have p10 : τ10 = ad τ9 226 0 (nI (ga R t g)) := f10
  have r10 : τ10 179 = τ 179 := by rw [p10, ad_ok (by omega)]; exact r9
  have p11 : τ11 = ad τ10 226 1 (eh + eg) := by rw [f11, r10, s2, s3]; rfl
  have r11 : τ11 179 = τ 179 := by rw [p11, ad_ok (by omega)]; exact r10
  have p12 : τ12 = ad τ11 226 2 (sh + sg) := by rw [f12, r11, s5, s6]; rfl
  have r12 : τ12 179 = τ 179 := by rw [p12, ad_ok (by omega)]; exact r11
  have p13 : τ13 = ad τ12 226 3 sp := by rw [f13, r12, s7]; rfl
  rw [p13, p12, p11, p10, p9, p8, p7, p6, p5, p4, p3, p2, p1]
  exact hfin
theorem c_games {σ : Sg} {T R : Nat → Nat} {t n : Nat} {K : Sg → Prop} {B : Int32 → Sg → Prop} (h : ccore σ T R) (ht : t < R 0) (hB : ∀ τ : Sg, LF σ τ → lgA τ T R (t + 1) 0 n → B (nI (t + 1)) τ) : ∀ d g τ, g + d = rT R t 4 → LF σ τ → lgA τ T R t g n → b_X3_reckonAll_26 B K (d + 1) (nI t) (nI g) τ := by
  have h30 := h.2.1.1
  have k5 := (h.2.1.2.2.1 t ht).2.2.2.2.2.1
  intro d
  induction d with
  | zero =>
    intro g τ hg f hl
    have e : g = rT R t 4 := by omega
    subst e
    have e5 : τ 60 t = nI (rT R t 4) := ((h.l f).2.2.2.2.2 t ht).2.2.2.2.1
    refine ⟨by rw [vin_T (by omega) (by decide)]; trivial, br_t ?_ ?_⟩
    · rw [cl_I (by omega), e5]; exact nI_le (Nat.le_refl _) (by omega)
    · intro v ev
      rw [ev, nI_1]
      exact hB τ f (lgA_n hl)
  | succ d ih =>
    intro g τ hg f hl
    have e5 : τ 60 t = nI (rT R t 4) := ((h.l f).2.2.2.2.2 t ht).2.2.2.2.1
    refine ⟨by rw [vin_T (by omega) (by decide)]; trivial, br_f ?_ ?_⟩
    · rw [cl_I (by omega), e5]; exact nI_ge (by omega) (by omega)
    · refine c_enterG (h.l f) ht (by omega) hl (fun τ1 f1 l1 v ev => ?_)
      rw [ev, nI_1]
      exact ih (g + 1) τ1 (by omega) (f.tr f1) l1
theorem c_ties {σ : Sg} {T R : Nat → Nat} {K : Sg → Prop} (h : ccore σ T R) (hK : ∀ τ : Sg, LF σ τ → lgA τ T R (R 0) 0 (R 0) → ∃ nf, b_X3_reckonAll_64 K nf 0 τ) : ∀ d t τ, t + d = R 0 → LF σ τ → lgA τ T R t 0 t → b_X3_reckonAll_7 K (d + 1) (nI t) τ := by
  have h30 := h.2.1.1
  intro d
  induction d with
  | zero =>
    intro t τ ht f hl
    have : t = R 0 := by omega
    subst this
    refine br_t ?_ (hK τ f hl)
    rw [show τ 55 0 = nI (R 0) from (h.l f).2.2.2.1]
    exact nI_le (Nat.le_refl _) (by omega)
  | succ d ih =>
    intro t τ ht f hl
    refine br_f ?_ ?_
    · rw [show τ 55 0 = nI (R 0) from (h.l f).2.2.2.1]
      exact nI_ge (by omega) (by omega)
    · refine c_enterT (h.l f) (by omega) hl (fun τ1 f1 l1 => ⟨_, c_games ((h.l f).l f1) (by omega) (fun τ2 f2 l2 => ?_) (rT R t 4) 0 τ1 (by omega) (LF.rf τ1) l1⟩)
      exact ih (t + 1) τ2 (by omega) ((f.tr f1).tr f2) l2
