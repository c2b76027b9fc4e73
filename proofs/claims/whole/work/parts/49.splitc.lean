/-! THE SPLIT, whole, of both sides -/
theorem sE_x {T : Nat → Nat} {c r h u v : Nat} : sEh T c r h u v = xEh (tC T c 3) (sDh T c r h) (tB T u 1) v ∧ sEg T c r h u v = xEg (tC T c 3) (sDh T c r h) (tB T u 1) v := ⟨rfl, rfl⟩
theorem sL_x {T : Nat → Nat} {c r g x : Nat} : sLe T c r g x = xLe (sOh T c r g) (sOg T c r g) (sOp T c r g) x := rfl
theorem sP_le (g : Nat) : sP g = 0 ∨ sP g = 6 := by unfold sP; split <;> omega
theorem cup_sum {T : Nat → Nat} {c : Nat} (h : cupOk T c) (g : Nat) : tC T c (sP g) + tC T c (sP g + 1) + tC T c (sP g + 2) = 100 := by
  rcases sP_le g with e | e
  · rw [e]; exact h.1
  · rw [e]; exact h.2.1
theorem sO_sum {T : Nat → Nat} {c r g : Nat} (h : cupOk T c) : sOh T c r g + sOg T c r g + sOp T c r g = 100 := by
  have := cup_sum h g
  unfold sOp sOh sOg
  split <;> omega
theorem s_le {T : Nat → Nat} {c r h u v : Nat} : sEh T c r h u v + sEg T c r h u v ≤ v := by rw [sE_x.1, sE_x.2]; exact xE_le
theorem sRe_le {T : Nat → Nat} {c r h u v : Nat} : sRe T c r h u v ≤ v := by unfold sRe; omega
/-- the three shares ahead of the guarantee come to the rest -/
theorem s1_sum {T : Nat → Nat} {c r g x : Nat} (h : cupOk T c) : sH1 T c r g x + sG1 T c r g x + sP1 T c r g x = x := by
  have e1 := sO_sum (r := r) (g := g) h
  have e2 := parts_le (x := x) e1
  have e3 := h.2.2.2.2.2.2.2.1
  unfold sH1 sG1 sP1
  rw [sL_x]
  unfold xLe
  rcases Nat.lt_or_ge (tC T c 10) 1 with q | q
  · rw [if_pos (by omega), if_neg (by omega), if_neg (by omega)]; omega
  · rcases Nat.lt_or_ge (tC T c 10) 2 with q2 | q2
    · rw [if_neg (by omega), if_pos (by omega), if_neg (by omega)]; omega
    · rw [if_neg (by omega), if_neg (by omega), if_pos (by omega)]; omega
theorem sLk_le {T : Nat → Nat} {c r g x : Nat} (h : cupOk T c) : sLk T c r g x ≤ sH1 T c r g x + sP1 T c r g x := by
  have := s1_sum (r := r) (g := g) (x := x) h
  unfold sLk
  split <;> omega
theorem s_sum {T : Nat → Nat} {c r g x : Nat} (h : cupOk T c) : sSh T c r g x + sSg T c r g x + sSp T c r g x = x := by
  have e1 := s1_sum (r := r) (g := g) (x := x) h
  have e2 := sLk_le (r := r) (g := g) (x := x) h
  unfold sSh sSg sSp sFh
  omega
section
variable {σ : Sg} {K : Sg → Prop} {T R : Nat → Nat}
theorem rem2' {a : Nat} : nI a - nI (a / 2 * 2) = nI (a % 2) := by
  rw [pk_sub (Nat.div_mul_le_self a 2)]
  congr 1
  omega
theorem c_share (hT : toldOk T) (hb : bookR σ T) {c r g x ne : Nat} (hc : c < T 1) (hx : x < 100000) (hne : ne = if tC T c 9 ≤ r then 1 else 0) (h4 : σ 179 4 = nI x) (hK : ∀ τ : Sg, Fr [179] σ τ → (∀ j, j ≠ 5 → j ≠ 6 → j ≠ 7 → τ 179 j = σ 179 j) → τ 179 5 = nI (sH1 T c r g x) → τ 179 6 = nI (sG1 T c r g x) → τ 179 7 = nI (sP1 T c r g x) → K τ) : wp_X8_shareRest (18 + c) 11 (nI (sP g)) (nI ne) σ K := by
  have t4 := hT.2.1
  have hcu := hT.2.2.2.2 c hc
  have hsum := cup_sum hcu g
  have hsp := sP_le g
  have hrow : ∀ j, j < 11 → σ (18 + c) j = nI (tC T c j) := (hb.2.2.2.2 c hc).1
  have hne1 : ne ≤ 1 := by rw [hne]; split <;> omega
  unfold wp_X8_shareRest
  simp (disch := omega) only [L0, L1, L2, L3, L4, L5, L6, L7, L8, L9, L10, L11, L12, L13, L17, L24, L30, L31, L32, L38, L67, L100, L120, L335, L391, L415, L500, L600, L830, L4096, L4564, L4980, L8192, L9999, L99999, L100000, forall_eq, nI_add, vin_T, true_and, cl_I, hrow (sP g) (by omega), hrow (sP g + 1) (by omega), hrow (sP g + 2) (by omega), nI_eq, pk_div, pk_mul, rem2']
  have b0 : tC T c (sP g) + tC T c (sP g + 1) ≤ 100 := by omega
  refine ⟨fun q => ?_, fun q => ?_⟩
  · have hn : ¬ tC T c 9 ≤ r := fun z => by rw [if_pos z] at hne; omega
    refine c_sh51 (o := tC T c 10) (by omega) h4 hx (by omega) (hrow 10 (by omega)) hcu.2.2.2.2.2.2.2.1 ?_
    intro τ f1 f2 f5 f6 f7
    have eh : sOh T c r g = tC T c (sP g) := if_neg hn
    have eg : sOg T c r g = tC T c (sP g + 1) := if_neg hn
    have ep : sOp T c r g = tC T c (sP g + 2) := by unfold sOp; rw [eh, eg]; omega
    refine hK τ f1 f2 ?_ ?_ ?_
    · unfold sH1; rw [sL_x, eh, eg, ep]; exact f5
    · unfold sG1; rw [sL_x, eh, eg, ep]; exact f6
    · unfold sP1; rw [sL_x, eh, eg, ep]; exact f7
  · have hn : tC T c 9 ≤ r := Classical.byContradiction (fun z => by rw [if_neg z] at hne; omega)
    refine c_sh51 (o := tC T c 10) (by omega) h4 hx (by omega) (hrow 10 (by omega)) hcu.2.2.2.2.2.2.2.1 ?_
    intro τ f1 f2 f5 f6 f7
    have eh : sOh T c r g = (tC T c (sP g) + tC T c (sP g + 1)) / 2 := if_pos hn
    have eg : sOg T c r g = (tC T c (sP g) + tC T c (sP g + 1)) / 2 := if_pos hn
    have ep : sOp T c r g = tC T c (sP g + 2) + (tC T c (sP g) + tC T c (sP g + 1)) % 2 := by unfold sOp; rw [eh, eg]; omega
    refine hK τ f1 f2 ?_ ?_ ?_
    · unfold sH1; rw [sL_x, eh, eg, ep]; exact f5
    · unfold sG1; rw [sL_x, eh, eg, ep]; exact f6
    · unfold sP1; rw [sL_x, eh, eg, ep]; exact f7
theorem c_99 (hT : toldOk T) (hb : bookR σ T) {c r g x ne : Nat} (hc : c < T 1) (hg : g < 2 ^ 31) (hx : x < 100000) (hne : ne = if tC T c 9 ≤ r then 1 else 0) (h4 : σ 179 4 = nI x) {a1 a2 a3 a4 a5 : Int32} (hK : ∀ τ : Sg, Fr [179] σ τ → (∀ j, j < 5 → τ 179 j = σ 179 j) → τ 179 5 = nI (sSh T c r g x) → τ 179 6 = nI (sSg T c r g x) → τ 179 7 = nI (sSp T c r g x) → τ 179 8 = nI (sLk T c r g x) → K τ) : b_X8_reckonGame_99 a1 a2 (nI g) a3 a4 a5 K (18 + c) (nI ne) (nI (sP g)) σ := by
  have t4 := hT.2.1
  have hcu := hT.2.2.2.2 c hc
  have hsum := cup_sum hcu g
  have hOs := sO_sum (r := r) (g := g) hcu
  have hsp := sP_le g
  have hrow : ∀ j, j < 11 → σ (18 + c) j = nI (tC T c j) := (hb.2.2.2.2 c hc).1
  have hne1 : ne ≤ 1 := by rw [hne]; split <;> omega
  have hlk0 : ¬ (g = 0 ∧ ne = 0) → sLk T c r g x = 0 := fun q => by
    unfold sLk
    rw [if_pos, Nat.zero_sub]
    rcases Nat.eq_zero_or_pos g with z | z
    · right
      apply Classical.byContradiction
      intro y
      rw [if_neg y] at hne
      exact q ⟨z, hne⟩
    · exact Or.inl z
  have hs1 := s1_sum (r := r) (g := g) (x := x) hcu
  -- behind the shares
  have hgo : ∀ τ : Sg, Fr [179] σ τ → (∀ j, j ≠ 5 → j ≠ 6 → j ≠ 7 → τ 179 j = σ 179 j) → τ 179 5 = nI (sH1 T c r g x) → τ 179 6 = nI (sG1 T c r g x) → τ 179 7 = nI (sP1 T c r g x) → (∀ τ106 : Sg, τ106 = up τ 179 8 0 → (br (nI g = 0) (br (nI ne = 0) (wp_X8_guarantee (if (τ106 179 4) < (τ106 (18 + c) 4) then (τ106 179 4) else (τ106 (18 + c) 4)) τ106 <| fun τ131 => (K τ131)) (K τ106)) (K τ106))) := by
    intro τ f1 f2 f5 f6 f7 τ' e'
    have g1 : Fr [179] σ τ' := by rw [e']; exact f1.up (by decide)
    have gj : ∀ j, j < 5 → τ' 179 j = σ 179 j := fun j hj => by rw [e', up_j (by omega), f2 j (by omega) (by omega) (by omega)]
    have g5 : τ' 179 5 = nI (sH1 T c r g x) := by rw [e', up_j (by decide)]; exact f5
    have g6 : τ' 179 6 = nI (sG1 T c r g x) := by rw [e', up_j (by decide)]; exact f6
    have g7 : τ' 179 7 = nI (sP1 T c r g x) := by rw [e', up_j (by decide)]; exact f7
    have g8 : τ' 179 8 = nI 0 := by rw [e', up_s]; rfl
    have g4 : τ' 179 4 = nI x := by rw [gj 4 (by omega)]; exact h4
    have gr : τ' (18 + c) 4 = nI (tC T c 4) := by rw [g1 (18 + c) (by simp; omega)]; exact hrow 4 (by omega)
    have hfl := hcu.2.2.2.1
    rw [L0, br_iff (nI_eq hg (by decide)), br_iff (nI_eq (show ne < 2 ^ 31 by omega) (by decide))]
    have no : ¬ (g = 0 ∧ ne = 0) → K τ' := fun q => by
      have z := hlk0 q
      refine hK τ' g1 gj ?_ ?_ ?_ ?_
      · unfold sSh sFh; rw [z, Nat.zero_min, Nat.sub_zero]; exact g5
      · unfold sSg; rw [z, Nat.add_zero]; exact g6
      · unfold sSp sFh; rw [z, Nat.zero_min, Nat.sub_zero]; exact g7
      · rw [z]; exact g8
    by_cases q1 : g = 0
    · rw [br_T q1]
      by_cases q2 : ne = 0
      · rw [br_T q2, g4, gr, minI (by omega) (by omega)]
        have hn : ¬ tC T c 9 ≤ r := fun z => by rw [if_pos z] at hne; omega
        have hl : sLk T c r g x = min x (tC T c 4) - sG1 T c r g x := by
          unfold sLk
          rw [if_neg (by omega), Nat.min_comm]
        refine c_guar g5 g6 g7 (by omega) (by omega) (fun υ u1 u2 u5 u6 u7 u8 => hK υ (g1.tr u1) (fun j hj => (u2 j hj).trans (gj j hj)) ?_ ?_ ?_ ?_)
        · rw [u5, ← hl]; rfl
        · rw [u6, ← hl]; rfl
        · rw [u7, ← hl]; rfl
        · rw [u8, ← hl]
      · rw [br_F q2]
        exact no (fun z => q2 z.2)
    · rw [br_F q1]
      exact no (fun z => q1 z.1)
  exact c_share hT hb hc hx hne h4 hgo
theorem c_42 (hT : toldOk T) (hb : bookR σ T) {c r g h u v ne : Nat} (hc : c < T 1) (hh : h < T 0) (hu : u < T 0) (hg : g < 2 ^ 31) (hv : v < 100000) (hne : ne = if tC T c 9 ≤ r then 1 else 0) {a1 a2 a3 : Int32} (hK : ∀ τ : Sg, Fr [179] σ τ → τ 179 0 = nI (sDh T c r h) → τ 179 1 = nI (tB T u 1) → τ 179 2 = nI (sEh T c r h u v) → τ 179 3 = nI (sEg T c r h u v) → τ 179 4 = nI (sRe T c r h u v) → τ 179 5 = nI (sSh T c r g (sRe T c r h u v)) → τ 179 6 = nI (sSg T c r g (sRe T c r h u v)) → τ 179 7 = nI (sSp T c r g (sRe T c r h u v)) → τ 179 8 = nI (sLk T c r g (sRe T c r h u v)) → K τ) : b_X8_reckonGame_42 a1 a2 (nI g) a3 (nI u) (nI v) K (18 + c) (nI ne) (nI ne) (5 + h) σ := by
  have t12 := hT.1
  have t4 := hT.2.1
  have hcu := hT.2.2.2.2 c hc
  have hcl := hT.2.2.2.1 h hh
  have hcu2 := hT.2.2.2.1 u hu
  have hne1 : ne ≤ 1 := by rw [hne]; split <;> omega
  have eD : tB T h ne = sDh T c r h := by
    unfold sDh
    rw [hne]
    split <;> rfl
  have hD : sDh T c r h ≤ 9999 := by unfold sDh; split; exact hcl.2.1; exact hcl.1
  have hrow : ∀ j, j < 11 → σ (18 + c) j = nI (tC T c j) := (hb.2.2.2.2 c hc).1
  have hro : ∀ c, c < T 0 → ∀ j, j < 3 → σ (5 + c) j = nI (tB T c j) := hb.2.2.2.1
  unfold b_X8_reckonGame_42
  rw [vin_T (by omega) (by decide), cl_I (by omega), true_and, hro h hh ne (by omega), eD]
  intro τ e
  rw [vin_T (by omega) (by decide), cl_I (by omega), true_and]
  intro τ' e'
  have q1 : τ' = up (up σ 179 0 (nI (sDh T c r h))) 179 1 (nI (tB T u 1)) := by
    rw [e', e, show 4 + 1 + u = 5 + u from rfl, up_o (show 5 + u ≠ 179 by omega), hro u hu 1 (by omega)]
  have f0 : Fr [179] σ τ' := by rw [q1]; exact Fr.rf.up (by decide) |>.up (by decide)
  have r3 : τ' (18 + c) 3 = nI (tC T c 3) := by rw [f0 (18 + c) (by simp; omega)]; exact hrow 3 (by omega)
  rw [r3]
  refine c_pay (dh := sDh T c r h) (dg := tB T u 1) (by rw [q1, up_j (by decide), up_s]) (by rw [q1, up_s]) hD hcu2.2.1 hv hcu.2.2.1 ?_
  intro τ2 k1 k2 k3 k4
  intro τ3 e3
  have hle := s_le (T := T) (c := c) (r := r) (h := h) (u := u) (v := v)
  have hre : v - sEh T c r h u v - sEg T c r h u v = sRe T c r h u v := rfl
  have x2 : τ2 179 2 = nI (sEh T c r h u v) := k3
  have x3 : τ2 179 3 = nI (sEg T c r h u v) := k4
  rw [x2, x3, pk_sub (by omega), pk_sub (by omega), hre] at e3
  have f3 : Fr [179] σ τ3 := by rw [e3]; exact (f0.tr k1).up (by decide)
  have hb3 : bookR τ3 T := bookR_congr hT hb (f3 234 (by decide)) (f3 3 (by decide)) (fun k a b => f3 k (by simp; omega))
  have hrl := sRe_le (T := T) (c := c) (r := r) (h := h) (u := u) (v := v)
  have fin : ∀ z, z = sP g → b_X8_reckonGame_99 a1 a2 (nI g) a3 (nI u) (nI v) K (18 + c) (nI ne) (nI z) τ3 := by
    intro z ez
    subst ez
    refine c_99 (x := sRe T c r h u v) hT hb3 hc hg (by omega) hne (by rw [e3, up_s]) ?_
    intro τ4 j1 j2 j5 j6 j7 j8
    have y : ∀ j, j < 5 → τ4 179 j = τ3 179 j := j2
    refine hK τ4 (f3.tr j1) ?_ ?_ ?_ ?_ ?_ j5 j6 j7 j8
    · rw [y 0 (by omega), e3, up_j (by decide), k2 0 (by decide) (by decide), q1, up_j (by decide), up_s]
    · rw [y 1 (by omega), e3, up_j (by decide), k2 1 (by decide) (by decide), q1, up_s]
    · rw [y 2 (by omega), e3, up_j (by decide)]; exact x2
    · rw [y 3 (by omega), e3, up_j (by decide)]; exact x3
    · rw [y 4 (by omega), e3, up_s]
  rw [show (0 : Int32) = nI 0 from rfl, br_iff (nI_eq hg (by decide))]
  by_cases q : g = 0
  · rw [br_T q]
    exact fin 0 (by unfold sP; rw [if_pos q])
  · rw [br_F q]
    exact fin 6 (by unfold sP; rw [if_neg q])
theorem c_reck (hT : toldOk T) (hb : bookR σ T) {c r g h u v : Nat} (hc : c < T 1) (hr : r < 6) (hh : h < T 0) (hu : u < T 0) (hg : g < 2 ^ 31) (hv : v < 100000) (hK : ∀ τ : Sg, Fr [179] σ τ → τ 179 0 = nI (sDh T c r h) → τ 179 1 = nI (tB T u 1) → τ 179 2 = nI (sEh T c r h u v) → τ 179 3 = nI (sEg T c r h u v) → τ 179 4 = nI (sRe T c r h u v) → τ 179 5 = nI (sSh T c r g (sRe T c r h u v)) → τ 179 6 = nI (sSg T c r g (sRe T c r h u v)) → τ 179 7 = nI (sSp T c r g (sRe T c r h u v)) → τ 179 8 = nI (sLk T c r g (sRe T c r h u v)) → K τ) : wp_X8_reckonGame (nI c) (nI r) (nI g) (nI h) (nI u) (nI v) σ K := by
  have t12 := hT.1
  have t4 := hT.2.1
  have hcu := hT.2.2.2.2 c hc
  have hrow : ∀ j, j < 11 → σ (18 + c) j = nI (tC T c j) := (hb.2.2.2.2 c hc).1
  have h96 := hcu.2.2.2.2.2.2.1
  unfold wp_X8_reckonGame b_X8_reckonGame_22
  rw [vin_T (by omega) (by decide), cl_I (by omega), true_and, show 17 + 1 + c = 18 + c from rfl, hrow 9 (by omega), br_iff (nI_ltI (by omega) (by omega)), vin_T (by omega) (by decide), cl_I (by omega), true_and, true_and, show 4 + 1 + h = 5 + h from rfl]
  by_cases q : r < tC T c 9
  · rw [br_T q, br_T rfl]
    exact c_42 hT hb hc hh hu hg hv (ne := 0) (by rw [if_neg (by omega)]) hK
  · rw [br_F q, br_F (by decide)]
    exact c_42 hT hb hc hh hu hg hv (ne := 1) (by rw [if_pos (by omega)]) hK
end
