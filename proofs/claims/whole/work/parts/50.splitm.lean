/-! THE SPLIT in the reference -/
theorem m_less {a b : Nat} {τ : Sg} {K : Int32 → Sg → Prop} (ha : a < 2 ^ 31) (hb : b < 2 ^ 31) : wp_X10_less (nI a) (nI b) τ K = K (nI (min a b)) τ := by
  unfold wp_X10_less
  by_cases q : b ≤ a
  · rw [br_T (nI_le q ha), Nat.min_eq_right q]
  · rw [br_F (nI_ge (by omega) hb), Nat.min_eq_left (by omega)]
/-- the reference's notes of a game alone have changed -/
def Mg (σ τ : Sg) : Prop := Fr [233] σ τ ∧ ∀ j, j < 18 ∨ 27 < j → τ 233 j = σ 233 j
theorem Mg.rf (σ : Sg) : Mg σ σ := ⟨Fr.rf, fun _ _ => rfl⟩
theorem Mg.tr {σ τ υ : Sg} (h : Mg σ τ) (g : Mg τ υ) : Mg σ υ := ⟨h.1.tr g.1, fun j hj => (g.2 j hj).trans (h.2 j hj)⟩
theorem Mg.up {σ τ : Sg} {j : Nat} {v : Int32} (h : Mg σ τ) (hj : 18 ≤ j ∧ j ≤ 27) : Mg σ (up τ 233 j v) := ⟨h.1.up (by decide), fun i hi => (up_j (by omega)).trans (h.2 i hi)⟩
theorem Mg.q {σ τ : Sg} (h : Mg σ τ) : Qk σ τ := ⟨fun k hk => h.1 k (by simp; omega), fun k a b c => h.1 k (by simp; omega), h.2 5 (by omega), h.2 9 (by omega), h.2 11 (by omega), h.2 12 (by omega), by rw [h.1 229 (by decide)], by rw [h.1 229 (by decide)]⟩
theorem Mg.b {σ τ : Sg} {T : Nat → Nat} (h : Mg σ τ) (hB : ∀ k, k < 106 → σ 234 k = nI (T k)) : ∀ k, k < 106 → τ 234 k = nI (T k) := fun k hk => by rw [h.1 234 (by decide)]; exact hB k hk
theorem Mg.r {σ τ : Sg} {R : Nat → Nat} (h : Mg σ τ) (hR : rowR (σ 236) R) : rowR (τ 236) R := by rw [h.1 236 (by decide)]; exact hR
section
variable {σ : Sg} {K : Sg → Prop} {T R : Nat → Nat}
theorem m_sh39 (hB : ∀ k, k < 106 → σ 234 k = nI (T k)) {c oh og o x : Nat} (hc : c < 4) (hs : oh + og ≤ 100) (h4 : σ 233 23 = nI x) (hx : x < 100000) (ho : tC T c 10 = o) (ho2 : o ≤ 2) {a b : Int32} (hK : ∀ τ : Sg, Mg σ τ → (∀ j, j ≠ 24 → j ≠ 25 → j ≠ 26 → τ 233 j = σ 233 j) → τ 233 24 = nI (x * oh / 100 + (if o = 0 then xLe oh og (100 - oh - og) x else 0)) → τ 233 25 = nI (x * og / 100 + (if o = 1 then xLe oh og (100 - oh - og) x else 0)) → τ 233 26 = nI (x * (100 - oh - og) / 100 + (if o = 2 then xLe oh og (100 - oh - og) x else 0)) → K τ) : b_X10_layShares_39 (nI c) a b K (nI oh) (nI og) σ := by
  have b1 := part_b (a := oh) hx (by omega)
  have b2 := part_b (a := og) hx (by omega)
  have b3 := part_b (a := 100 - oh - og) hx (by omega)
  have hle := parts_le (x := x) (show oh + og + (100 - oh - og) = 100 by omega)
  unfold b_X10_layShares_39 b_X10_layShares_137 b_X10_layShares_158 b_X10_layShares_179
  intro v ev τ1 e1 τ2 e2 τ3 e3 v4 e4
  have ev' : v = nI (100 - oh - og) := by rw [ev, L100, pk_sub (by omega), pk_sub (by omega)]
  have q3 : τ3 = up (up (up σ 233 24 (nI (x * oh / 100))) 233 25 (nI (x * og / 100))) 233 26 (nI (x * (100 - oh - og) / 100)) := by
    rw [e3, e2, e1, ev']
    simp (disch := omega) only [L100, h4, up_s, up_j, pk_mul, pk_div]
  have m3 : Mg σ τ3 := by rw [q3]; exact Mg.rf σ |>.up (by decide) |>.up (by decide) |>.up (by decide)
  have e4' : v4 = nI (xLe oh og (100 - oh - og) x) := by
    rw [e4, q3]
    simp (disch := omega) only [h4, up_s, up_j, pk_sub]
    rfl
  rw [L10, m_cup (m3.b hB) hc (by decide), ho]
  have f3 : ∀ j, j ≠ 24 → j ≠ 25 → j ≠ 26 → τ3 233 j = σ 233 j := fun j a b c => by rw [q3, up_j c, up_j b, up_j a]
  have f4 : τ3 233 24 = nI (x * oh / 100) := by rw [q3, up_j (by decide), up_j (by decide), up_s]
  have f5 : τ3 233 25 = nI (x * og / 100) := by rw [q3, up_j (by decide), up_s]
  have f6 : τ3 233 26 = nI (x * (100 - oh - og) / 100) := by rw [q3, up_s]
  -- all three cases at once: what is added
  have fin : ∀ z4 z5 z6 : Nat, K (up (up (up τ3 233 24 (nI (x * oh / 100) + nI z4)) 233 25 (nI (x * og / 100) + nI z5)) 233 26 (nI (x * (100 - oh - og) / 100) + nI z6)) ∨ ¬ (z4 = (if o = 0 then xLe oh og (100 - oh - og) x else 0) ∧ z5 = (if o = 1 then xLe oh og (100 - oh - og) x else 0) ∧ z6 = (if o = 2 then xLe oh og (100 - oh - og) x else 0)) := by
    intro z4 z5 z6
    by_cases q : z4 = (if o = 0 then xLe oh og (100 - oh - og) x else 0) ∧ z5 = (if o = 1 then xLe oh og (100 - oh - og) x else 0) ∧ z6 = (if o = 2 then xLe oh og (100 - oh - og) x else 0)
    · left
      obtain ⟨rfl, rfl, rfl⟩ := q
      refine hK _ (m3.up (by decide) |>.up (by decide) |>.up (by decide)) (fun j a b c => by rw [up_j c, up_j b, up_j a]; exact f3 j a b c) ?_ ?_ ?_
      · rw [up_j (by decide), up_j (by decide), up_s, nI_add]
      · rw [up_j (by decide), up_s, nI_add]
      · rw [up_s, nI_add]
    · exact Or.inr q
  have go : ∀ z4 z5 z6 : Nat, (z4 = (if o = 0 then xLe oh og (100 - oh - og) x else 0) ∧ z5 = (if o = 1 then xLe oh og (100 - oh - og) x else 0) ∧ z6 = (if o = 2 then xLe oh og (100 - oh - og) x else 0)) → K (up (up (up τ3 233 24 (nI (x * oh / 100) + nI z4)) 233 25 (nI (x * og / 100) + nI z5)) 233 26 (nI (x * (100 - oh - og) / 100) + nI z6)) := fun z4 z5 z6 q => (fin z4 z5 z6).resolve_right (fun n => n q)
  simp (disch := omega) only [forall_eq, e4', f4, f5, f6, up_s, up_j]
  rw [show (0 : Int32) = nI 0 from rfl, show (1 : Int32) = nI 1 from rfl, show (2 : Int32) = nI 2 from rfl]
  simp (disch := omega) only [nI_eq]
  rcases Nat.lt_or_ge o 1 with q | q
  · have : o = 0 := by omega
    subst this
    simp (decide := true) only [br_True, br_False]
    exact go (xLe oh og (100 - oh - og) x) 0 0 ⟨by simp, by simp, by simp⟩
  · rcases Nat.lt_or_ge o 2 with q2 | q2
    · have : o = 1 := by omega
      subst this
      simp (decide := true) only [br_True, br_False]
      exact go 0 (xLe oh og (100 - oh - og) x) 0 ⟨by simp, by simp, by simp⟩
    · have : o = 2 := by omega
      subst this
      simp (decide := true) only [br_True, br_False]
      exact go 0 0 (xLe oh og (100 - oh - og) x) ⟨by simp, by simp, by simp⟩
theorem m_share (hT : toldOk T) (hB : ∀ k, k < 106 → σ 234 k = nI (T k)) {c r g x ne : Nat} (hc : c < T 1) (hx : x < 100000) (hne : ne = if tC T c 9 ≤ r then 1 else 0) (h4 : σ 233 23 = nI x) (hK : ∀ τ : Sg, Mg σ τ → (∀ j, j ≠ 24 → j ≠ 25 → j ≠ 26 → τ 233 j = σ 233 j) → τ 233 24 = nI (sH1 T c r g x) → τ 233 25 = nI (sG1 T c r g x) → τ 233 26 = nI (sP1 T c r g x) → K τ) : wp_X10_layShares (nI c) (nI (sP g)) (nI ne) σ K := by
  have t4 := hT.2.1
  have hcu := hT.2.2.2.2 c hc
  have hsum := cup_sum hcu g
  have hsp := sP_le g
  have hne1 : ne ≤ 1 := by rw [hne]; split <;> omega
  unfold wp_X10_layShares
  rw [m_cup hB (by omega) (by omega), L1, nI_add, m_cup hB (by omega) (by omega), L0, br_iff (nI_eq (by omega) (by decide))]
  refine ⟨fun q => ?_, fun q => ?_⟩
  · have hn : ¬ tC T c 9 ≤ r := fun z => by rw [if_pos z] at hne; omega
    refine m_sh39 hB (by omega) (by omega) h4 hx rfl hcu.2.2.2.2.2.2.2.1 ?_
    intro τ f1 f2 f5 f6 f7
    have eh : sOh T c r g = tC T c (sP g) := if_neg hn
    have eg : sOg T c r g = tC T c (sP g + 1) := if_neg hn
    have ep : sOp T c r g = 100 - tC T c (sP g) - tC T c (sP g + 1) := by unfold sOp; rw [eh, eg]
    refine hK τ f1 f2 ?_ ?_ ?_
    · unfold sH1; rw [sL_x, eh, eg, ep]; exact f5
    · unfold sG1; rw [sL_x, eh, eg, ep]; exact f6
    · unfold sP1; rw [sL_x, eh, eg, ep]; exact f7
  · have hn : tC T c 9 ≤ r := Classical.byContradiction (fun z => by rw [if_neg z] at hne; omega)
    intro v ev
    rw [nI_add, L2, pk_div (by omega) (by decide) (by decide)] at ev
    rw [ev]
    refine m_sh39 hB (by omega) (by omega) h4 hx rfl hcu.2.2.2.2.2.2.2.1 ?_
    intro τ f1 f2 f5 f6 f7
    have eh : sOh T c r g = (tC T c (sP g) + tC T c (sP g + 1)) / 2 := if_pos hn
    have eg : sOg T c r g = (tC T c (sP g) + tC T c (sP g + 1)) / 2 := if_pos hn
    have ep : sOp T c r g = 100 - (tC T c (sP g) + tC T c (sP g + 1)) / 2 - (tC T c (sP g) + tC T c (sP g + 1)) / 2 := by unfold sOp; rw [eh, eg]
    refine hK τ f1 f2 ?_ ?_ ?_
    · unfold sH1; rw [sL_x, eh, eg, ep]; exact f5
    · unfold sG1; rw [sL_x, eh, eg, ep]; exact f6
    · unfold sP1; rw [sL_x, eh, eg, ep]; exact f7
theorem m_155 {l a b p : Nat} (h5 : σ 233 24 = nI a) (h6 : σ 233 25 = nI b) (h7 : σ 233 26 = nI p) (hl : l ≤ a + b + p) (hb : a + b + p < 2 ^ 30) {a1 a2 a3 a4 : Int32} (hK : ∀ τ : Sg, Mg σ τ → (∀ j, j < 24 → τ 233 j = σ 233 j) → τ 233 24 = nI (a - min (l - b) a) → τ 233 25 = nI (b + (l - b)) → τ 233 26 = nI (p - (l - b - min (l - b) a)) → τ 233 27 = nI (l - b) → K τ) : b_X10_layGame_155 a1 a2 a3 a4 K (nI l) σ := by
  have go : b_X10_layGame_178 a1 a2 a3 a4 K (nI (l - b)) σ := by
    unfold b_X10_layGame_178
    simp (disch := omega) only [forall_eq, up_s, up_j, h5, h6, h7, m_less, pk_sub, nI_add]
    refine hK _ (Mg.rf σ |>.up (by decide) |>.up (by decide) |>.up (by decide) |>.up (by decide)) (fun j hj => by rw [up_j (by omega), up_j (by omega), up_j (by omega), up_j (by omega)]) ?_ ?_ ?_ ?_
    · simp (disch := omega) only [up_s, up_j]
    · simp (disch := omega) only [up_s, up_j]
    · simp (disch := omega) only [up_s, up_j]
    · simp (disch := omega) only [up_s, up_j]
  unfold b_X10_layGame_155
  rw [h6, br_iff (nI_leI (by omega) (by omega))]
  refine ⟨fun q => ?_, fun q => ?_⟩
  · rw [show (0 : Int32) = nI (l - b) by rw [show l - b = 0 by omega]; rfl]
    exact go
  · rw [pk_sub (by omega)]
    exact go
theorem m_123 (hT : toldOk T) (hB : ∀ k, k < 106 → σ 234 k = nI (T k)) {c r g x ne : Nat} (hc : c < T 1) (hg : g < 2 ^ 31) (hx : x < 100000) (hne : ne = if tC T c 9 ≤ r then 1 else 0) (h4 : σ 233 23 = nI x) {a1 a2 : Int32} (hK : ∀ τ : Sg, Mg σ τ → (∀ j, j < 24 → τ 233 j = σ 233 j) → τ 233 24 = nI (sSh T c r g x) → τ 233 25 = nI (sSg T c r g x) → τ 233 26 = nI (sSp T c r g x) → τ 233 27 = nI (sLk T c r g x) → K τ) : b_X10_layGame_123 a1 (nI g) a2 (nI c) K (nI ne) (nI (sP g)) (nI c) σ := by
  have t4 := hT.2.1
  have hcu := hT.2.2.2.2 c hc
  have hs1 := s1_sum (r := r) (g := g) (x := x) hcu
  have hne1 : ne ≤ 1 := by rw [hne]; split <;> omega
  have hlk0 : ¬ (g = 0 ∧ ne = 0) → sLk T c r g x = 0 := fun q => by
    unfold sLk
    rw [if_pos, Nat.zero_sub]
    rcases Nat.eq_zero_or_pos g with z | z
    · right
      apply Classical.byContradiction
      intro y
      rw [if_neg y] at hne
      exact q ⟨z, hne⟩
    · exact Or.inl z
  unfold b_X10_layGame_123
  refine m_share hT hB hc hx hne h4 ?_
  intro τ f1 f2 f5 f6 f7
  have g4 : τ 233 23 = nI x := by rw [f2 23 (by decide) (by decide) (by decide)]; exact h4
  have fin : ∀ l : Nat, l - sG1 T c r g x = sLk T c r g x → l ≤ x → b_X10_layGame_155 a1 (nI g) a2 (nI c) K (nI l) τ := by
    intro l el hl
    refine m_155 f5 f6 f7 (by omega) (by omega) (fun υ u1 u2 u5 u6 u7 u8 => ?_)
    rw [el] at u5 u6 u7 u8
    exact hK υ (f1.tr u1) (fun j hj => (u2 j hj).trans (f2 j (by omega) (by omega) (by omega))) u5 u6 u7 u8
  have no : ¬ (g = 0 ∧ ne = 0) → b_X10_layGame_137 a1 (nI g) a2 (nI c) K τ := fun q => by
    refine fin 0 (by rw [hlk0 q, Nat.zero_sub]) (Nat.zero_le _)
  rw [L0, br_iff (nI_ltI (by decide) hg)]
  refine ⟨fun q => no (by omega), fun q => ?_⟩
  rw [br_iff (nI_eq (show ne < 2 ^ 31 by omega) (by decide))]
  refine ⟨fun q2 => ?_, fun q2 => no (by omega)⟩
  have hn : ¬ tC T c 9 ≤ r := fun z => by rw [if_pos z] at hne; omega
  have hfl := hcu.2.2.2.1
  rw [L4, m_cup (f1.b hB) (by omega) (by decide), g4, m_less (by omega) (by omega)]
  refine fin _ ?_ (by omega)
  unfold sLk
  rw [if_neg (by omega)]
theorem m_game (hT : toldOk T) (hB : ∀ k, k < 106 → σ 234 k = nI (T k)) (hr : rowOk T R) (hR : rowR (σ 236) R) {c t g v : Nat} (hc : c < T 1) (ht : t < R 0) (hg : g < 2 ^ 31) (hv : v < 100000) (hK : ∀ τ : Sg, Mg σ τ → τ 233 18 = nI (gH R t g) → τ 233 19 = nI (gU R t g) → τ 233 20 = nI v → τ 233 21 = nI (qEh T R c t g v) → τ 233 22 = nI (qEg T R c t g v) → τ 233 23 = nI (qRe T R c t g v) → τ 233 24 = nI (qSh T R c t g v) → τ 233 25 = nI (qSg T R c t g v) → τ 233 26 = nI (qSp T R c t g v) → τ 233 27 = nI (qLk T R c t g v) → K τ) : wp_X10_layGame (nI t) (nI g) (nI v) (nI c) σ K := by
  have t12 := hT.1
  have t4 := hT.2.1
  have h30 := hr.1
  have hcu := hT.2.2.2.2 c hc
  have h96 := hcu.2.2.2.2.2.2.1
  obtain ⟨k1, k2, k3, k4, -⟩ := hr.2.2.1 t ht
  have hH : gH R t g < T 0 := by
    unfold gH
    rcases Nat.mod_two_eq_zero_or_one g with e | e
    · rw [e]; exact k3
    · rw [e]; exact k4
  have hU : gU R t g < T 0 := by
    unfold gU
    rcases Nat.mod_two_eq_zero_or_one g with e | e
    · rw [e]; exact k4
    · rw [e]; exact k3
  have hm2 := Nat.mod_lt g (show 2 > 0 by decide)
  unfold wp_X10_layGame
  rw [L2, L3, rem2 hg, nI_add, pk_sub (by omega), m_tie hR (by omega)]
  intro τ1 e1
  have m1 : Mg σ τ1 := by rw [e1]; exact (Mg.rf σ).up (by decide)
  rw [m_tie (m1.r hR) (by omega)]
  intro τ2 e2 τ3 e3
  have m3 : Mg σ τ3 := by rw [e3, e2]; exact m1.up (by decide) |>.up (by decide)
  rw [L1, m_tie (m3.r hR) (by omega), L9, m_cup (m3.b hB) (by omega) (by decide), br_iff (nI_ltI (by omega) (by omega))]
  have v18 : τ3 233 18 = nI (gH R t g) := by rw [e3, up_j (by decide), e2, up_j (by decide), e1, up_s]; rfl
  have v19 : τ3 233 19 = nI (gU R t g) := by rw [e3, up_j (by decide), e2, up_s]; rfl
  have v20 : τ3 233 20 = nI v := by rw [e3, up_s]
  have main : ∀ ne : Nat, ne = (if tC T c 9 ≤ rT R t 1 then 1 else 0) → b_X10_layGame_80 (nI t) (nI g) (nI v) (nI c) K (nI ne) (nI ne) (nI (gH R t g)) (nI (tC T c 3)) τ3 := by
    intro ne hne
    have hne1 : ne ≤ 1 := by rw [hne]; split <;> omega
    have hcl := hT.2.2.2.1 _ hH
    have hcu2 := hT.2.2.2.1 _ hU
    have eD : tB T (gH R t g) ne = sDh T c (rT R t 1) (gH R t g) := by
      unfold sDh
      rw [hne]
      split <;> rfl
    have hD : sDh T c (rT R t 1) (gH R t g) ≤ 9999 := by unfold sDh; split; exact hcl.2.1; exact hcl.1
    unfold b_X10_layGame_80
    rw [m_club (m3.b hB) (by omega) (by omega), v19, L1, m_club (m3.b hB) (by omega) (by omega), eD]
    refine m_pay v20 hD hcu2.2.1 hv hcu.2.2.1 ?_
    intro τ4 p1 p2 p3 p4 τ5 e5
    have x2 : τ4 233 21 = nI (qEh T R c t g v) := p3
    have x3 : τ4 233 22 = nI (qEg T R c t g v) := p4
    have hle : qEh T R c t g v + qEg T R c t g v ≤ v := s_le
    rw [x2, x3, pk_sub (by omega), pk_sub (by omega)] at e5
    have hre : v - qEh T R c t g v - qEg T R c t g v = qRe T R c t g v := rfl
    rw [hre] at e5
    have hrl : qRe T R c t g v ≤ v := sRe_le
    have m4 : Mg τ3 τ4 := ⟨p1, fun j hj => p2 j (by omega) (by omega)⟩
    have m5 : Mg σ τ5 := by rw [e5]; exact (m3.tr m4).up (by decide)
    have fin : ∀ z, z = sP g → b_X10_layGame_123 (nI t) (nI g) (nI v) (nI c) K (nI ne) (nI z) (nI c) τ5 := by
      intro z ez
      subst ez
      refine m_123 (x := qRe T R c t g v) hT (m5.b hB) hc hg (by omega) hne (by rw [e5, up_s]) ?_
      intro τ6 j1 j2 j5 j6 j7 j8
      refine hK τ6 (m5.tr j1) ?_ ?_ ?_ ?_ ?_ ?_ j5 j6 j7 j8
      · rw [j2 18 (by decide), e5, up_j (by decide), p2 18 (by decide) (by decide)]; exact v18
      · rw [j2 19 (by decide), e5, up_j (by decide), p2 19 (by decide) (by decide)]; exact v19
      · rw [j2 20 (by decide), e5, up_j (by decide), p2 20 (by decide) (by decide)]; exact v20
      · rw [j2 21 (by decide), e5, up_j (by decide)]; exact x2
      · rw [j2 22 (by decide), e5, up_j (by decide)]; exact x3
      · rw [j2 23 (by decide), e5, up_s]
    rw [show (0 : Int32) = nI 0 from rfl, br_iff (nI_leI hg (by decide))]
    refine ⟨fun q => fin 0 (by unfold sP; rw [if_pos (by omega)]), fun q => fin 6 (by unfold sP; rw [if_neg (by omega)])⟩
  have m55 : ∀ ne : Nat, ne = (if tC T c 9 ≤ rT R t 1 then 1 else 0) → b_X10_layGame_55 (nI t) (nI g) (nI v) (nI c) K (nI ne) τ3 := by
    intro ne hne
    unfold b_X10_layGame_55
    rw [L3, m_cup (m3.b hB) (by omega) (by decide), v18]
    by_cases q : tC T c 9 ≤ rT R t 1
    · rw [if_pos q] at hne
      subst hne
      exact br_f (by decide) (main 1 (by rw [if_pos q]))
    · rw [if_neg q] at hne
      subst hne
      exact br_t rfl (main 0 (by rw [if_neg q]))
  refine ⟨fun q => m55 0 (by rw [if_neg (by omega)]), fun q => m55 1 (by rw [if_pos (by omega)])⟩
end
