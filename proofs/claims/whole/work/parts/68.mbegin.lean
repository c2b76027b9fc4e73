/-! THE REFERENCE'S reckoning: begun; all games -/
theorem up_r {σ : Sg} {k j b : Nat} {v : Int32} : up σ k j v k b = if b = j then v else σ k b := by
  by_cases e : b = j
  · subst e; rw [if_pos rfl]; exact up_s
  · rw [if_neg e]; exact up_j e
/-- what the reference's reckoning leaves -/
def MF (σ τ : Sg) : Prop := (∀ k, ¬ (k = 233 ∨ (243 ≤ k ∧ k ≤ 254)) → τ k = σ k) ∧ ∀ j, j ≠ 40 → (j < 18 ∨ 27 < j) → τ 233 j = σ 233 j
theorem MF.rf (σ : Sg) : MF σ σ := ⟨fun _ _ => rfl, fun _ _ _ => rfl⟩
theorem MF.tr {σ τ υ : Sg} (h : MF σ τ) (g : MF τ υ) : MF σ υ := ⟨fun k hk => (g.1 k hk).trans (h.1 k hk), fun j a b => (g.2 j a b).trans (h.2 j a b)⟩
theorem MF.a40 {σ τ : Sg} {v : Int32} (h : MF σ τ) : MF σ (up τ 233 40 v) := ⟨fun a ha => (up_o (by omega)).trans (h.1 a ha), fun i a b => (up_j a).trans (h.2 i a b)⟩
theorem MF.ad40 {σ τ : Sg} {v : Int32} (h : MF σ τ) : MF σ (ad τ 233 40 v) := h.a40
theorem MF.ad {σ τ : Sg} {k j : Nat} {v : Int32} (h : MF σ τ) (hk : 243 ≤ k ∧ k ≤ 254) : MF σ (ad τ k j v) := ⟨fun a ha => (ad_ok (by omega)).trans (h.1 a ha), fun i a b => by rw [ad_ok (by omega)]; exact h.2 i a b⟩
theorem MF.up {σ τ : Sg} {k j : Nat} {v : Int32} (h : MF σ τ) (hk : 243 ≤ k ∧ k ≤ 254) : MF σ (up τ k j v) := ⟨fun a ha => (up_o (by omega)).trans (h.1 a ha), fun i a b => by rw [up_o (by omega)]; exact h.2 i a b⟩
theorem MF.g {σ τ : Sg} (h : Mg σ τ) : MF σ τ := ⟨fun k hk => h.1 k (by simp; omega), fun j _ b => h.2 j b⟩
theorem MF.q {σ τ : Sg} (h : MF σ τ) : Qn σ τ := ⟨⟨fun k hk => h.1 k (by omega), fun k a b c => h.1 k (by omega), h.2 5 (by omega) (by omega), h.2 9 (by omega) (by omega), h.2 11 (by omega) (by omega), h.2 12 (by omega) (by omega), by rw [h.1 229 (by omega)], by rw [h.1 229 (by omega)]⟩, fun k a b => h.1 k (by omega)⟩
theorem mcore.f {σ τ : Sg} {T R : Nat → Nat} (h : mcore σ T R) (g : MF σ τ) : mcore τ T R := h.of (g.1 234 (by omega)) (g.1 236 (by omega))
def mgC (σ : Sg) (T R : Nat → Nat) (t g b : Nat) : Prop := σ 243 b = nI (ac R (fEx T R b) t g) ∧ σ 244 b = nI (ac R (fAh T R b) t g) ∧ σ 245 b = nI (ac R (fAg T R b) t g) ∧ σ 247 b = nI (ac R (fGa R b) t g) ∧ σ 248 b = nI (ac R (fPl R b) t g) ∧ σ 246 b = 0 ∧ σ 254 b = 0
def mgP (σ : Sg) (T R : Nat → Nat) (t g k : Nat) : Prop := σ 249 k = nI (ac R (fPo T R k) t g) ∧ σ 251 k = 0 ∧ σ 252 k = 0
def mgA (σ : Sg) (T R : Nat → Nat) (t g : Nat) : Prop := (∀ b, b < 12 → mgC σ T R t g b) ∧ (∀ k, k < 24 → mgP σ T R t g k) ∧ σ 233 40 = nI (ac R (fAP T R) t g)
theorem mgA_fr {σ τ : Sg} {T R : Nat → Nat} {t g : Nat} (h : mgA σ T R t g) (f : ∀ k, 243 ≤ k → k ≤ 254 → τ k = σ k) (f2 : τ 233 40 = σ 233 40) : mgA τ T R t g := by
  obtain ⟨l1, l2, l3⟩ := h
  refine ⟨fun b hb => ?_, fun k hk => ?_, by rw [f2]; exact l3⟩
  · have := l1 b hb
    unfold mgC at this ⊢
    rw [f 243 (by omega) (by omega), f 244 (by omega) (by omega), f 245 (by omega) (by omega), f 246 (by omega) (by omega), f 247 (by omega) (by omega), f 248 (by omega) (by omega), f 254 (by omega) (by omega)]
    exact this
  · have := l2 k hk
    unfold mgP at this ⊢
    rw [f 249 (by omega) (by omega), f 251 (by omega) (by omega), f 252 (by omega) (by omega)]
    exact this
theorem m_begin {σ : Sg} {T R : Nat → Nat} {K : Sg → Prop} (hK : ∀ τ : Sg, MF σ τ → mgA τ T R 0 0 → K τ) : wp_X10_begin σ K := by
  have l2 : ∀ d y τ, y + d = 24 → MF σ τ → (∀ b, b < 12 → mgC τ T R 0 0 b) → (∀ k, k < y → mgP τ T R 0 0 k) → b_X10_begin_65 K (d + 1) (nI y) τ := by
    intro d
    induction d with
    | zero =>
      intro y τ hy f h1 h2
      have : y = 24 := by omega
      subst this
      refine br_t (by decide) (fun υ e => ?_)
      rw [e]
      refine hK _ f.a40 ⟨fun b hb => ?_, fun k hk => ?_, up_s⟩
      · have := h1 b hb
        unfold mgC at this ⊢
        simp (disch := decide) only [up_o]
        exact this
      · have := h2 k hk
        unfold mgP at this ⊢
        simp (disch := decide) only [up_o]
        exact this
    | succ d ih =>
      intro y τ hy f h1 h2
      refine br_f (nI_ge (b := 24) (by omega) (by decide)) ?_
      simp (disch := omega) only [vin_T, cl_I, true_and, forall_eq]
      rw [nI_1]
      refine ih (y + 1) _ (by omega) (f.up (by omega) |>.up (by omega) |>.up (by omega) |>.up (by omega)) (fun b hb => ?_) (fun k hk => ?_)
      · have := h1 b hb
        unfold mgC at this ⊢
        simp (disch := decide) only [up_o]
        exact this
      · unfold mgP
        simp (disch := decide) only [up_o, up_r]
        by_cases q : k = y
        · simp only [if_pos q]; exact ⟨rfl, trivial, trivial⟩
        · simp only [if_neg q]; exact h2 k (by omega)
  have l1 : ∀ d y τ, y + d = 12 → MF σ τ → (∀ b, b < y → mgC τ T R 0 0 b) → b_X10_begin_2 K (d + 1) (nI y) τ := by
    intro d
    induction d with
    | zero =>
      intro y τ hy f h1
      have : y = 12 := by omega
      subst this
      exact br_t (by decide) ⟨_, l2 24 0 τ (by omega) f h1 (fun k hk => by omega)⟩
    | succ d ih =>
      intro y τ hy f h1
      refine br_f (nI_ge (b := 12) (by omega) (by decide)) ?_
      simp (disch := omega) only [vin_T, cl_I, true_and, forall_eq]
      rw [nI_1]
      refine ih (y + 1) _ (by omega) (f.up (by omega) |>.up (by omega) |>.up (by omega) |>.up (by omega) |>.up (by omega) |>.up (by omega) |>.up (by omega)) (fun b hb => ?_)
      unfold mgC
      simp (disch := decide) only [up_o, up_r]
      by_cases q : b = y
      · simp only [if_pos q]; exact ⟨rfl, rfl, rfl, rfl, rfl, trivial, trivial⟩
      · simp only [if_neg q]; exact h1 b (by omega)
  exact ⟨_, l1 12 0 σ (by omega) (MF.rf σ) (fun b hb => by omega)⟩
def mSt (σ : Sg) (h u k : Nat) (v eh eg sh sg sp : Int32) : Sg :=
  ad (ad (ad (ad (ad (ad (ad (ad (ad σ 243 h eh) 243 u eg) 244 h sh) 245 u sg) 247 h v) 248 h 1) 248 u 1) 249 k sp) 233 40 sp
theorem mSt_f {σ : Sg} {h u k : Nat} {v eh eg sh sg sp : Int32} : MF σ (mSt σ h u k v eh eg sh sg sp) := by
  unfold mSt
  exact MF.ad40 ((MF.rf σ).ad (by omega) |>.ad (by omega) |>.ad (by omega) |>.ad (by omega) |>.ad (by omega) |>.ad (by omega) |>.ad (by omega) |>.ad (by omega))
theorem mSt_A {σ : Sg} {T R : Nat → Nat} {t g : Nat} (hl : mgA σ T R t g) : mgA (mSt σ (gH R t g) (gU R t g) (6 * rT R t 0 + rT R t 1) (nI (ga R t g)) (nI (qEh T R (rT R t 0) t g (ga R t g))) (nI (qEg T R (rT R t 0) t g (ga R t g))) (nI (qSh T R (rT R t 0) t g (ga R t g))) (nI (qSg T R (rT R t 0) t g (ga R t g))) (nI (qSp T R (rT R t 0) t g (ga R t g)))) T R t (g + 1) := by
  obtain ⟨l1, l2, l3⟩ := hl
  have i1 : (1 : Int32) = nI 1 := rfl
  unfold mSt
  refine ⟨fun b hb => ?_, fun k hk => ?_, ?_⟩
  · obtain ⟨a1, a2, a3, a4, a5, a6, a7⟩ := l1 b hb
    refine ⟨?_, ?_, ?_, ?_, ?_, ?_, ?_⟩
    · simp (disch := omega) only [ad_o, ad_r, nI_if, nI_add, a1]; rw [ac_s, Nat.add_assoc]; rfl
    · simp (disch := omega) only [ad_o, ad_r, nI_if, nI_add, a2]; rw [ac_s]; rfl
    · simp (disch := omega) only [ad_o, ad_r, nI_if, nI_add, a3]; rw [ac_s]; rfl
    · simp (disch := omega) only [ad_o, ad_r, nI_if, nI_add, a4]; rw [ac_s]; rfl
    · simp (disch := omega) only [ad_o, ad_r, i1, nI_if, nI_add, a5]; rw [ac_s, Nat.add_assoc]; rfl
    · simp (disch := omega) only [ad_o]; exact a6
    · simp (disch := omega) only [ad_o]; exact a7
  · obtain ⟨a1, a2, a3⟩ := l2 k hk
    refine ⟨?_, ?_, ?_⟩
    · simp (disch := omega) only [ad_o, ad_r, nI_if, nI_add, a1]; rw [ac_s]; rfl
    · simp (disch := omega) only [ad_o]; exact a2
    · simp (disch := omega) only [ad_o]; exact a3
  · simp (disch := omega) only [ad_o, ad_s, nI_add, l3]; rw [ac_s]; rfl
/-- a place of a row that stands in the notes is added to -/
theorem m_stp {τ : Sg} {k i N h : Nat} {y v : Int32} {Q : Sg → Prop} (hx : τ 233 i = nI h) (hh : h < N) (hN : N < 2 ^ 31) (hy : y = v) (hQ : Q (ad τ k h v)) : vp_in (τ 233 i) N ∧ (vp_in (τ 233 i) N ∧ (∀ υ : Sg, υ = up τ k (τ 233 i).toNatClampNeg ((τ k (τ 233 i).toNatClampNeg) + y) → Q υ)) := by
  rw [hx, vin_T hh hN, cl_I (by omega), true_and, true_and, hy]
  intro υ e
  rw [e]
  exact hQ
theorem m_tie0 {σ : Sg} {R : Nat → Nat} {t : Nat} {K : Int32 → Sg → Prop} (hR : rowR (σ 236) R) (h : t < 30) (hK : K (nI (rT R t 0)) σ) : wp_X10_ofTie (nI t) 0 σ K := by
  rw [L0, m_tie hR (by omega)]; exact hK
theorem m_tie1 {σ : Sg} {R : Nat → Nat} {t : Nat} {K : Int32 → Sg → Prop} (hR : rowR (σ 236) R) (h : t < 30) (hK : K (nI (rT R t 1)) σ) : wp_X10_ofTie (nI t) 1 σ K := by
  rw [L1, m_tie hR (by omega)]; exact hK
theorem m_addG {σ : Sg} {T R : Nat → Nat} {t : Nat} {K : Sg → Prop} (h : mcore σ T R) (ht : t < R 0) (hK : ∀ τ : Sg, MF σ τ → mgA τ T R (t + 1) 0 → K τ) : ∀ d g τ, g + d = rT R t 4 → MF σ τ → mgA τ T R t g → b_X10_addGames_2 (nI t) K (d + 1) (nI g) τ := by
  have h12 := h.1.1
  have h4 := h.1.2.1
  have h30 := h.2.1.1
  have hok := h.2.1.2.2.1 t ht
  have k0 := hok.1
  have k1 := hok.2.1
  have k5 := hok.2.2.2.2.2.1
  intro d
  induction d with
  | zero =>
    intro g τ hg f hl
    have e : g = rT R t 4 := by omega
    subst e
    show wp_X10_games (nI t) τ _
    rw [m_games (h.f f).2.2.2 (by omega)]
    exact br_t (nI_le (Nat.le_refl _) (by omega)) (hK τ f hl)
  | succ d ih =>
    intro g τ hg f hl
    have hc := h.f f
    have hu := gHU h.1 h.2.1 ht g
    show wp_X10_games (nI t) τ _
    rw [m_games hc.2.2.2 (by omega)]
    refine br_f (nI_ge (by omega) (by omega)) ?_
    rw [m_gate hc.2.2.2 (by omega) (by omega)]
    refine m_tie0 hc.2.2.2 (by omega) ?_
    refine m_game hc.1 hc.2.2.1 hc.2.1 hc.2.2.2 k0 ht (by omega) (h.2.1.2.1 _) (fun τ1 f1 s18 s19 s20 s21 s22 _ s24 s25 s26 _ => ?_)
    have hA := mSt_A (mgA_fr (τ := τ1) hl (fun k a b => f1.1 k (by simp; omega)) (f1.2 40 (by omega)))
    have hF := (f.tr (MF.g f1)).tr (mSt_f (σ := τ1) (h := gH R t g) (u := gU R t g) (k := 6 * rT R t 0 + rT R t 1) (v := nI (ga R t g)) (eh := nI (qEh T R (rT R t 0) t g (ga R t g))) (eg := nI (qEg T R (rT R t 0) t g (ga R t g))) (sh := nI (qSh T R (rT R t 0) t g (ga R t g))) (sg := nI (qSg T R (rT R t 0) t g (ga R t g))) (sp := nI (qSp T R (rT R t 0) t g (ga R t g))))
    have hfin := ih (g + 1) _ (by omega) hF hA
    clear hA hF
    have hR1 : rowR (τ1 236) R := f1.r hc.2.2.2
    generalize nI (qEh T R (rT R t 0) t g (ga R t g)) = eh at s21 hfin
    generalize nI (qEg T R (rT R t 0) t g (ga R t g)) = eg at s22 hfin
    generalize nI (qSh T R (rT R t 0) t g (ga R t g)) = sh at s24 hfin
    generalize nI (qSg T R (rT R t 0) t g (ga R t g)) = sg at s25 hfin
    generalize nI (qSp T R (rT R t 0) t g (ga R t g)) = sp at s26 hfin
    generalize gH R t g = hh at hu hfin s18
    generalize gU R t g = uu at hu hfin s19
    unfold mSt at hfin
    refine m_stp s18 (by omega) (by decide) s21 ?_
    refine m_stp (by simp (disch := decide) only [ad_ok]; exact s19) (by omega) (by decide) (by simp (disch := decide) only [ad_ok]; exact s22) ?_
    refine m_stp (by simp (disch := decide) only [ad_ok]; exact s18) (by omega) (by decide) (by simp (disch := decide) only [ad_ok]; exact s24) ?_
    refine m_stp (by simp (disch := decide) only [ad_ok]; exact s19) (by omega) (by decide) (by simp (disch := decide) only [ad_ok]; exact s25) ?_
    refine m_stp (by simp (disch := decide) only [ad_ok]; exact s18) (by omega) (by decide) (by simp (disch := decide) only [ad_ok]; exact s20) ?_
    refine m_stp (by simp (disch := decide) only [ad_ok]; exact s18) (by omega) (by decide) rfl ?_
    refine m_stp (by simp (disch := decide) only [ad_ok]; exact s19) (by omega) (by decide) rfl ?_
    refine m_tie0 (by simp (disch := decide) only [ad_ok]; exact hR1) (by omega) ?_
    refine m_tie1 (by simp (disch := decide) only [ad_ok]; exact hR1) (by omega) ?_
    rw [show 6 * nI (rT R t 0) + nI (rT R t 1) = nI (6 * rT R t 0 + rT R t 1) by rw [L6, pk_mul, nI_add], vin_T (by omega) (by decide), cl_I (by omega), true_and, true_and]
    intro τ2 e2 τ3 e3 v ev
    rw [ev, nI_1]
    have q2 : τ2 233 26 = sp := by rw [e2, up_o (by decide)]; simp (disch := decide) only [ad_ok]; exact s26
    rw [q2] at e3
    have e3 : τ3 = ad τ2 233 40 sp := e3
    rw [e3, e2]
    have : ∀ τ' : Sg, τ' 233 26 = sp → up τ' 249 (6 * rT R t 0 + rT R t 1) (τ' 249 (6 * rT R t 0 + rT R t 1) + τ' 233 26) = ad τ' 249 (6 * rT R t 0 + rT R t 1) sp := fun τ' q => by rw [q]; rfl
    rw [this _ (by simp (disch := decide) only [ad_ok]; exact s26)]
    exact hfin
theorem m_ties {σ : Sg} {T R : Nat → Nat} {K : Sg → Prop} (h : mcore σ T R) (hK : ∀ τ : Sg, MF σ τ → mgA τ T R (R 0) 0 → ∃ nf, b_X10_layAll_29 K nf 0 τ) : ∀ d t τ, t + d = R 0 → MF σ τ → mgA τ T R t 0 → b_X10_layAll_6 K (d + 1) (nI t) τ := by
  have h30 := h.2.1.1
  intro d
  induction d with
  | zero =>
    intro t τ ht f hl
    have : t = R 0 := by omega
    subst this
    refine br_t ?_ (hK τ f hl)
    rw [(h.f f).2.2.2 0 (by omega)]
    exact nI_le (Nat.le_refl _) (by omega)
  | succ d ih =>
    intro t τ ht f hl
    refine br_f ?_ ⟨_, m_addG (h.f f) (by omega) (fun τ1 f1 l1 v ev => ?_) (rT R t 4) 0 τ (by omega) (MF.rf τ) hl⟩
    · rw [(h.f f).2.2.2 0 (by omega)]
      exact nI_ge (by omega) (by omega)
    · rw [ev, nI_1]
      exact ih (t + 1) τ1 (by omega) (f.tr f1) l1
