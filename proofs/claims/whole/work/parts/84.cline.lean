/-! THE BOOK, the class's reading: a cup, a way, a line -/
def rP (at' : Nat) (f : Nat → Int32) (D : Nat → Nat) : Prop := ∀ j, (3 ≤ j ∧ j ≤ 5) ∨ (9 ≤ j ∧ j ≤ 10) → f j = nI (D (at' + j))
def fD (at' : Nat) (D0 D : Nat → Nat) : Prop := ∀ k, ¬ (at' ≤ k ∧ k < at' + 11) → D k = D0 k
def rQ (at' : Nat) (D0 : Nat → Nat) (f : Nat → Int32) (D : Nat → Nat) : Prop := (∀ j, j ≤ 5 ∨ (9 ≤ j ∧ j ≤ 10) → f j = nI (D (at' + j))) ∧ fD at' D0 D
def rA (at' : Nat) (D0 : Nat → Nat) (f : Nat → Int32) (D : Nat → Nat) : Prop := rQ at' D0 f D ∧ ∀ j, j < 3 → f (6 + j) = nI (D (at' + j))
def rB (at' : Nat) (D0 : Nat → Nat) (f : Nat → Int32) (D : Nat → Nat) : Prop := (∀ j, j < 11 → f j = nI (D (at' + j))) ∧ fD at' D0 D
section
variable {at' : Nat} {D0 D : Nat → Nat} {f : Nat → Int32}
theorem fD_u {j v : Nat} (h : fD at' D0 D) (hj : j < 11) : fD at' D0 (tUp D (at' + j) v) := fun k hk => by rw [tUp_n (by omega)]; exact h k hk
theorem rA_o {a v : Nat} (ha : a = 3 ∨ a = 4 ∨ a = 5) (h : rA at' D0 f D) : rA at' D0 (fun j => if j = a then nI v else f j) (tUp D (at' + a) v) := by
  obtain ⟨⟨h1, h2⟩, h3⟩ := h
  refine ⟨⟨fun j hj => ?_, fD_u h2 (by omega)⟩, fun j hj => ?_⟩
  · show (if j = a then nI v else f j) = _
    by_cases q : j = a
    · rw [if_pos q, q, tUp_s]
    · rw [if_neg q, tUp_n (by omega)]; exact h1 j hj
  · show (if 6 + j = a then nI v else f (6 + j)) = _
    rw [if_neg (by omega), tUp_n (by omega)]; exact h3 j hj
theorem rB_o {a v : Nat} (ha : a < 11) (h : rB at' D0 f D) : rB at' D0 (fun j => if j = a then nI v else f j) (tUp D (at' + a) v) := by
  obtain ⟨h1, h2⟩ := h
  refine ⟨fun j hj => ?_, fD_u h2 (by omega)⟩
  show (if j = a then nI v else f j) = _
  by_cases q : j = a
  · rw [if_pos q, q, tUp_s]
  · rw [if_neg q, tUp_n (by omega)]; exact h1 j hj
end
section
variable {σ τ : Sg} {B D : Nat → Nat} {n s : Nat} {K : Int32 → Sg → Prop}
theorem c_cupE {υ : Sg} {q : (Nat × Nat) × (Nat → Nat)} {τ1 : Sg} {s1 : Nat} (hD : dOk D) (h4 : D 1 < 4) (hd : dr τ D) (ft : ∀ k, k ≠ 1 → k ≠ 28 → τ1 k = τ k) (ft0 : τ1 28 0 = τ 28 0) (ft1 : τ1 28 1 = nI (D 1 + 1)) (fr : ∀ k, k ≠ 1 → k ≠ 43 + D 1 → υ k = τ1 k) (hg : cgood σ υ B n s1) (hr : rB (38 + 17 * D 1) D (υ (43 + D 1)) q.2) (hC : Cres σ τ B n K ((0, s1), tUp q.2 1 (q.2 1 + 1))) : K 1 υ := by
  obtain ⟨d1, d2, d3, d4, d5⟩ := hd
  obtain ⟨r1, r2⟩ := hr
  have b0 := hD.1.1
  have e1 : q.2 1 = D 1 := r2 1 (by omega)
  have e0 : q.2 0 = D 0 := r2 0 (by omega)
  rw [e1] at hC
  refine hC.1 rfl υ hg (show dr υ (tUp q.2 1 (D 1 + 1)) from ⟨?_, ?_, fun c hc j hj => ?_, fun c hc => ?_, fun c a b => ?_⟩) (by rw [fr 27 (by omega) (by omega), ft 27 (by omega) (by omega)])
  · rw [fr 28 (by omega) (by omega), ft0, tUp_n (by omega), e0]; exact d1
  · rw [fr 28 (by omega) (by omega), ft1, tUp_s]
  · rw [tUp_n (by omega), e0] at hc
    unfold tB
    rw [tUp_n (by omega), r2 _ (by omega), fr _ (by omega) (by omega), ft _ (by omega) (by omega)]
    exact d3 c hc j hj
  · rw [tUp_s] at hc
    have hz := (d5 (D 1) (Nat.le_refl _) h4).2
    refine ⟨fun j hj => ?_, fun j hj => ?_⟩
    · unfold tC
      rw [tUp_n (by omega)]
      by_cases z : c = D 1
      · rw [z]; exact r1 j hj
      · rw [r2 _ (by omega), fr _ (by omega) (by omega), ft _ (by omega) (by omega)]
        exact (d4 c (by omega)).1 j hj
    · unfold tC
      rw [tUp_n (by omega), r2 _ (by omega), fr _ (by omega) (by omega), ft _ (by omega) (by omega)]
      by_cases z : c = D 1
      · rw [z, hz j hj, hD.2 _ (by omega)]; rfl
      · exact (d4 c (by omega)).2 j hj
  · rw [tUp_s] at a
    rw [fr (43 + c) (by omega) (by omega), ft (43 + c) (by omega) (by omega), fr (48 + c) (by omega) (by omega), ft (48 + c) (by omega) (by omega)]
    exact d5 c (by omega) b
theorem cgood.a {υ : Sg} {k : Nat} {f : Nat → Int32} (h : cgood σ υ B n s) (hk : 27 ≤ k ∧ k ≤ 54) : cgood σ (upA υ k f) B n s := by
  have o : (upA υ k f) 1 = υ 1 := upA_o (by omega)
  refine ⟨⟨fun a ha => by rw [upA_o (by omega)]; exact h.1.1 a ha, by rw [o]; exact h.1.2⟩, ⟨⟨h.2.1.1.1, by rw [o]; exact h.2.1.1.2.1, by rw [upA_o (by omega)]; exact h.2.1.1.2.2⟩, h.2.1.2.1, by rw [o]; exact h.2.1.2.2.1, by rw [o]; exact h.2.1.2.2.2.1, by rw [o]; exact h.2.1.2.2.2.2⟩, by rw [o]; exact h.2.2.1, by rw [o]; exact h.2.2.2⟩
theorem c_cup (h : cgood σ τ B n s) (hd : dr τ D) (hD : dOk D) (h4 : D 1 < 4) (hC : Cres σ τ B n K (cupS B n (0, nx B n s) D)) : wp_X0_readCup τ K := by
  unfold wp_X0_readCup
  refine c_stp h.2.1 (fun υ c1 c2 => ?_)
  have g0 := h.c c1 c2
  have e28 : υ 28 1 = nI (D 1) := by rw [c1.1 28 (by decide)]; exact hd.2.1
  rw [e28, vin_T h4 (by decide), cl_I (by omega), true_and]
  intro τ1 e1
  have g1 : cgood σ τ1 B n (nx B n s) := by rw [e1]; exact g0.u (by omega)
  have ft : ∀ k, k ≠ 1 → k ≠ 28 → τ1 k = τ k := fun k a b => by rw [e1, up_o b, c1.1 k a]
  have ft0 : τ1 28 0 = τ 28 0 := by rw [e1, up_j (by decide), c1.1 28 (by decide)]
  have ft1 : τ1 28 1 = nI (D 1 + 1) := by rw [e1, up_s, nI_1]
  have d5 := (hd.2.2.2.2 (D 1) (Nat.le_refl _) h4).1
  have zt := hD.2
  have k43 : 27 ≤ 42 + 1 + D 1 ∧ 42 + 1 + D 1 ≤ 54 := by omega
  unfold cupS at hC
  have r0 : rQ (38 + 17 * D 1) D (τ1 (42 + 1 + D 1)) (tUp (tUp D (38 + 17 * D 1 + 5) 1) (38 + 17 * D 1 + 9) 6) ∨ rP (38 + 17 * D 1) (τ1 (42 + 1 + D 1)) (tUp (tUp D (38 + 17 * D 1 + 5) 1) (38 + 17 * D 1 + 9) 6) := by
    refine Or.inr (fun j hj => ?_)
    rw [ft _ (by omega) (by omega)]
    obtain ⟨a3, a4, a5, a9, a10⟩ := d5
    rcases (show j = 3 ∨ j = 4 ∨ j = 5 ∨ j = 9 ∨ j = 10 by omega) with rfl | rfl | rfl | rfl | rfl
    · rw [tUp_n (by omega), tUp_n (by omega), zt (38 + 17 * D 1 + 3) (by omega)]; exact a3
    · rw [tUp_n (by omega), tUp_n (by omega), zt (38 + 17 * D 1 + 4) (by omega)]; exact a4
    · rw [tUp_n (by omega), tUp_s]; exact a5
    · rw [tUp_s]; exact a9
    · rw [tUp_n (by omega), tUp_n (by omega), zt (38 + 17 * D 1 + 10) (by omega)]; exact a10
  have r0 : rP (38 + 17 * D 1) (τ1 (42 + 1 + D 1)) (tUp (tUp D (38 + 17 * D 1 + 5) 1) (38 + 17 * D 1 + 9) 6) ∧ fD (38 + 17 * D 1) D (tUp (tUp D (38 + 17 * D 1 + 5) 1) (38 + 17 * D 1 + 9) 6) := by
    refine ⟨?_, fD_u (fD_u (fun k _ => rfl) (by omega)) (by omega)⟩
    rcases r0 with z | z
    · exact fun j hj => z.1 j (by omega)
    · exact z
  generalize hat : 38 + 17 * D 1 = at' at *
  refine c_P (a := 0) (at' := at') (Rl := fun f D' => rP at' f D' ∧ fD at' D D') (Rm := rQ at' D) g1 (by decide) k43 ?_ r0 (fun υ1 z1 g2 f1 rr1 => br_f (by decide) ?_) (fun υ1 z1 b => br_t rfl (hC.b (tl0_bad z1) z1 b))
  · intro f D' v1 v2 v3 hh
    refine ⟨fun j hj => ?_, fD_u (fD_u (fD_u hh.2 (by omega)) (by omega)) (by omega)⟩
    show (if j = 0 + 2 then nI v3 else if j = 0 + 1 then nI v2 else if j = 0 then nI v1 else f j) = _
    by_cases q2 : j = 2
    · rw [if_pos q2, q2, tUp_s]
    · rw [if_neg q2, tUp_n (by omega)]
      by_cases q1 : j = 1
      · rw [if_pos q1, q1, tUp_s]
      · rw [if_neg q1, tUp_n (by omega)]
        by_cases q0 : j = 0
        · rw [if_pos q0, q0, tUp_s]
        · rw [if_neg q0, tUp_n (by omega)]; exact hh.1 j (by omega)
  rw [Nat.add_zero] at z1 g2 rr1
  generalize pS B n at' ((0, nx B n s), tUp (tUp D (at' + 5) 1) (at' + 9) 6) = q1 at *
  obtain ⟨⟨x1, s1⟩, D1⟩ := q1
  have z1 : x1 = 0 := z1
  subst z1
  intro υ2 e2
  have g3 : cgood σ υ2 B n s1 := by rw [e2]; exact cgood.a g2 k43
  have f2 : ∀ k, k ≠ 1 → k ≠ 42 + 1 + D 1 → υ2 k = τ1 k := fun k a b => by rw [e2, upA_o b, f1 k a b]
  have rr2 : rA at' D (υ2 (42 + 1 + D 1)) D1 := by
    rw [e2, upA_k]
    have c0 : (0 : Int32).toNatClampNeg = 0 := rfl
    have c6 : (6 : Int32).toNatClampNeg = 6 := rfl
    have c3 : (3 : Int32).toNatClampNeg = 3 := rfl
    rw [c0, c6, c3]
    refine ⟨⟨fun j hj => ?_, rr1.2⟩, fun j hj => ?_⟩
    · rw [pk_cpy_out (by omega)]; exact rr1.1 j hj
    · rw [pk_cpy_in (by omega) (by omega), show 0 + (6 + j - 6) = j by omega]; exact rr1.1 j (by omega)
  unfold tl0 at hC
  refine c_O (i := 2) (a := 3) (at' := at') (lo := 0) (hi := 3) (Rl := rA at' D) g3 (by decide) (by decide) k43 (fun v h => bd_0 h) (fun v h => bd_4 (a := 2) h (by decide)) (fun f D' v hh => rA_o (by omega) hh) rr2 (fun υ3 z2 g4 f3 rr3 => br_f (by decide) ?_) (fun υ3 z2 b => br_t rfl (hC.b (by rw [oS_bad z2, oS_bad z2]; exact tl1_bad z2) z2 b))
  generalize oS B n 2 (at' + 3) 0 3 ((0, s1), D1) = q2 at *
  obtain ⟨⟨x2, s2⟩, D2⟩ := q2
  have z2 : x2 = 0 := z2
  subst z2
  refine c_O (i := 3) (a := 4) (at' := at') (lo := 0) (hi := 100000) (Rl := rA at' D) g4 (by decide) (by decide) k43 (fun v h => bd_0 h) (fun v h => bd_4 (a := 99999) h (by decide)) (fun f D' v hh => rA_o (by omega) hh) rr3 (fun υ4 z3 g5 f4 rr4 => br_f (by decide) ?_) (fun υ4 z3 b => br_t rfl (hC.b (by rw [oS_bad z3]; exact tl1_bad z3) z3 b))
  generalize oS B n 3 (at' + 4) 0 100000 ((0, s2), D2) = q3 at *
  obtain ⟨⟨x3, s3⟩, D3⟩ := q3
  have z3 : x3 = 0 := z3
  subst z3
  refine c_O (i := 4) (a := 5) (at' := at') (lo := 0) (hi := 4) (Rl := rA at' D) g5 (by decide) (by decide) k43 (fun v h => bd_0 h) (fun v h => bd_4 (a := 3) h (by decide)) (fun f D' v hh => rA_o (by omega) hh) rr4 (fun υ5 z4 g6 f5 rr5 => br_f (by decide) ?_) (fun υ5 z4 b => br_t rfl (hC.b (tl1_bad z4) z4 b))
  generalize oS B n 4 (at' + 5) 0 4 ((0, s3), D3) = q4 at *
  obtain ⟨⟨x4, s4⟩, D4⟩ := q4
  have z4 : x4 = 0 := z4
  subst z4
  have fr5 : ∀ k, k ≠ 1 → k ≠ 42 + 1 + D 1 → υ5 k = τ1 k := fun k a b => by rw [f5 k a b, f4 k a b, f3 k a b, f2 k a b]
  have tail : ∀ (υ6 : Sg) (q5 : (Nat × Nat) × (Nat → Nat)), q5.1.1 = 0 → cgood σ υ6 B n q5.1.2 → (∀ k, k ≠ 1 → k ≠ 42 + 1 + D 1 → υ6 k = τ1 k) → rB at' D (υ6 (42 + 1 + D 1)) q5.2 → Cres σ τ B n K (tl2 B n at' q5) → b_X0_readCup_118 K (42 + 1 + D 1) υ6 := by
    intro υ6 q5 z5 g7 f6 rr6 hC5
    obtain ⟨⟨x5, s5⟩, D5⟩ := q5
    have z5 : x5 = 0 := z5
    subst z5
    unfold tl2 at hC5
    unfold b_X0_readCup_118
    refine c_O (i := 6) (a := 9) (at' := at') (lo := 1) (hi := 7) (Rl := rB at' D) g7 (by decide) (by decide) k43 (fun v h => bd_3 (a := 1) h (by decide)) (fun v h => bd_4 (a := 6) h (by decide)) (fun f D' v hh => rB_o (by omega) hh) rr6 (fun υ7 z6 g8 f7 rr7 => br_f (by decide) ?_) (fun υ7 z6 b => br_t rfl (hC5.b (by show (oS B n 7 (at' + 10) 0 3 (oS B n 6 (at' + 9) 1 7 _)).1 = _; rw [oS_bad z6]) z6 b))
    generalize oS B n 6 (at' + 9) 1 7 ((0, s5), D5) = q6 at *
    obtain ⟨⟨x6, s6⟩, D6⟩ := q6
    have z6 : x6 = 0 := z6
    subst z6
    refine c_O (i := 7) (a := 10) (at' := at') (lo := 0) (hi := 3) (Rl := rB at' D) g8 (by decide) (by decide) k43 (fun v h => bd_0 h) (fun v h => bd_4 (a := 2) h (by decide)) (fun f D' v hh => rB_o (by omega) hh) rr7 (fun υ8 z7 g9 f8 rr8 => br_f (by decide) ?_) (fun υ8 z7 b => br_t rfl (hC5.b rfl z7 b))
    generalize oS B n 7 (at' + 10) 0 3 ((0, s6), D6) = q7 at *
    obtain ⟨⟨x7, s7⟩, D7⟩ := q7
    have z7 : x7 = 0 := z7
    subst z7
    subst hat
    exact c_cupE (q := ((0, s7), D7)) (τ1 := τ1) hD h4 hd ft ft0 ft1 (fun k a b => by rw [f8 k a b, f7 k a b, f6 k a b]) g9 rr8 hC5
  unfold tl1 at hC
  refine c_W g6 (by decide) (fun w υ6 g7 f6 => br_f (by decide) ?_) (fun w => br_t rfl ?_)
  · rw [ic_t (show wB B n 5 (0, s4) from ⟨rfl, w⟩)] at hC
    have hC : Cres σ τ B n K (tl2 B n at' (pS B n (at' + 6) (wS B n 5 (0, s4), D4))) := hC
    rw [wS_t w] at hC
    refine c_P (a := 6) (at' := at') (Rl := rA at' D) (Rm := rB at' D) g7 (by decide) k43 ?_ (by rw [f6 _ (by omega)]; exact rr5) (fun υ7 z5 g8 f7 rr7 => br_f (by decide) (tail υ7 _ z5 g8 (fun k a b => by rw [f7 k a b, f6 k a, fr5 k a b]) rr7 hC)) (fun υ7 z5 b => br_t rfl (hC.b (tl2_bad z5) z5 b))
    intro f D' v1 v2 v3 hh
    refine ⟨fun j hj => ?_, fD_u (j := 6 + 2) (fD_u (j := 6 + 1) (fD_u hh.1.2 (by omega)) (by omega)) (by omega)⟩
    show (if j = 6 + 2 then nI v3 else if j = 6 + 1 then nI v2 else if j = 6 then nI v1 else f j) = _
    by_cases q2 : j = 6 + 2
    · rw [if_pos q2, q2, show at' + (6 + 2) = at' + 6 + 2 by omega, tUp_s]
    · rw [if_neg q2, tUp_n (by omega)]
      by_cases q1 : j = 6 + 1
      · rw [if_pos q1, q1, show at' + (6 + 1) = at' + 6 + 1 by omega, tUp_s]
      · rw [if_neg q1, tUp_n (by omega)]
        by_cases q0 : j = 6
        · rw [if_pos q0, q0, tUp_s]
        · rw [if_neg q0, tUp_n (by omega)]; exact hh.1.1 j (by omega)
  · rw [ic_f (show ¬ wB B n 5 (0, s4) from fun z => w z.2)] at hC
    refine tail υ5 ((0, s4), cp3 D4 at') rfl g6 fr5 ?_ hC
    refine ⟨fun j hj => ?_, fD_u (j := 6 + 2) (fD_u (j := 6 + 1) (fD_u rr5.1.2 (by omega)) (by omega)) (by omega)⟩
    show _ = nI (cp3 D4 at' (at' + j))
    unfold cp3
    by_cases q2 : j = 6 + 2
    · rw [q2, show at' + (6 + 2) = at' + 6 + 2 by omega, tUp_s]; exact rr5.2 2 (by decide)
    · rw [tUp_n (by omega)]
      by_cases q1 : j = 6 + 1
      · rw [q1, show at' + (6 + 1) = at' + 6 + 1 by omega, tUp_s]; exact rr5.2 1 (by decide)
      · rw [tUp_n (by omega)]
        by_cases q0 : j = 6
        · rw [q0, tUp_s]; exact rr5.2 0 (by decide)
        · rw [tUp_n (by omega)]; exact rr5.1.1 j (by omega)
theorem c_way (h : cgood σ τ B n s) (hd : dr τ D) (hD : dOk D) (hC : Cres σ τ B n K (wayS B n (0, nx B n s) D)) : wp_X0_readWay τ K := by
  have b0 := hD.1.1
  have b1 := hD.1.2.1
  unfold wp_X0_readWay
  refine c_stp h.2.1 (fun υ c1 c2 => ?_)
  have g0 := h.c c1 c2
  have e28 : υ 28 1 = nI (D 1) := by rw [c1.1 28 (by decide)]; exact hd.2.1
  rw [e28]
  have hx4 : ∀ v, v < 100000 → (nI v ≤ nI (D 1) - 1 ↔ v < D 1) := fun v hv => by
    rw [Int32.le_iff_toInt_le, show (1 : Int32) = nI 1 from rfl, pk_sub_toInt (by omega) (by decide), nI_toInt (by omega)]
    omega
  have bd : ∀ {υ1 : Sg} {p : Nat × Nat}, (wayS B n (0, nx B n s) D).1 = p → p.1 ≠ 0 → cbad σ υ1 p → b_X0_readWay_70 K υ1 := fun {υ1 p} e hp b => br_t rfl ⟨isZ_0, hC.b e hp b⟩
  refine c_N (k1 := 52) (lo := 0) (hi := D 1) (a := 0) g0 (by decide) (by decide) (by omega) (fun v h => bd_0 h) hx4 (fun o1 υ1 g2 f1 r1 => br_f (by decide) ?_) (fun o1 υ1 b => br_t rfl (bd (by show nS B n 0 4 (nS B n 0 6 (nS B n 0 (D 1) _)) = _; rw [nS_no o1, nS_nF, nS_nF]) nF_0 b))
  refine c_N (k1 := 52) (lo := 0) (hi := 6) (a := 1) g2 (by decide) (by decide) (by omega) (fun v h => bd_0 h) (fun v h => bd_4 (a := 5) h (by decide)) (fun o2 υ2 g3 f2 r2 => br_f (by decide) ?_) (fun o2 υ2 b => br_t rfl (bd (by show nS B n 0 4 (nS B n 0 6 (nS B n 0 (D 1) _)) = _; rw [nS_ok o1, nS_no o2, nS_nF]) nF_0 b))
  refine c_N (k1 := 52) (lo := 0) (hi := 4) (a := 2) g3 (by decide) (by decide) (by omega) (fun v h => bd_0 h) (fun v h => bd_4 (a := 3) h (by decide)) (fun o3 υ3 g4 f3 r3 => br_f (by decide) ?_) (fun o3 υ3 b => br_t rfl (bd (by show nS B n 0 4 (nS B n 0 6 (nS B n 0 (D 1) _)) = _; rw [nS_ok o1, nS_ok o2, nS_no o3]) nF_0 b))
  have e : wayS B n (0, nx B n s) D = ((0, nx B n (nx B n (nx B n (nx B n s)))), tUp D (38 + 17 * dv B n (nx B n s) + 11 + dv B n (nx B n (nx B n s))) (dv B n (nx B n (nx B n (nx B n s))))) := by
    unfold wayS
    rw [nS_ok o1, nV_ok o1, nS_ok o2, nV_ok o2, nS_ok o3, nV_ok o3]
  rw [e] at hC
  have va4 := o1.2.2.2
  have vb6 := o2.2.2.2
  generalize dv B n (nx B n s) = va at *
  generalize dv B n (nx B n (nx B n s)) = vb at *
  generalize dv B n (nx B n (nx B n (nx B n s))) = vc at *
  refine br_f (by decide) ?_
  rw [r3 0, if_neg (by decide), r2 0, if_neg (by decide), r1 0, if_pos rfl, r3 1, if_neg (by decide), r2 1, if_pos rfl, r3 2, if_pos rfl, vin_T (show va < 4 by omega) (by decide), vin_T vb6 (by decide), cl_I (by omega), cl_I (by omega), true_and, true_and]
  intro υ4 e4
  refine ⟨isZ_1, ?_⟩
  have fr : ∀ k, k ≠ 1 → k ≠ 52 → k ≠ 48 + va → υ4 k = τ k := fun k a b c => by rw [e4, up_o c, f3 k a b, f2 k a b, f1 k a b, c1.1 k a]
  have fw : ∀ j, j ≠ vb → υ4 (48 + va) j = τ (48 + va) j := fun j hj => by
    rw [e4, show 47 + 1 + va = 48 + va from rfl, up_j hj, f3 _ (by omega) (by omega), f2 _ (by omega) (by omega), f1 _ (by omega) (by omega), c1.1 _ (by omega)]
  have fv : υ4 (48 + va) vb = nI vc := by rw [e4]; exact up_s
  obtain ⟨d1, d2, d3, d4, d5⟩ := hd
  refine hC.1 rfl υ4 (by rw [e4]; exact g4.u (by omega)) (show dr υ4 (tUp D (38 + 17 * va + 11 + vb) vc) from ⟨?_, ?_, fun c hc j hj => ?_, fun c hc => ⟨fun j hj => ?_, fun j hj => ?_⟩, fun c a b => ?_⟩) (by rw [fr 27 (by omega) (by omega) (by omega)])
  · rw [fr 28 (by omega) (by omega) (by omega), tUp_n (by omega)]; exact d1
  · rw [fr 28 (by omega) (by omega) (by omega), tUp_n (by omega)]; exact d2
  · rw [tUp_n (by omega)] at hc
    unfold tB
    rw [tUp_n (by omega), fr _ (by omega) (by omega) (by omega)]; exact d3 c hc j hj
  · rw [tUp_n (by omega)] at hc
    unfold tC
    rw [tUp_n (by omega), fr _ (by omega) (by omega) (by omega)]; exact (d4 c hc).1 j hj
  · rw [tUp_n (by omega)] at hc
    unfold tC
    by_cases z : c = va
    · by_cases z2 : j = vb
      · rw [z, z2, show 38 + 17 * va + (11 + vb) = 38 + 17 * va + 11 + vb by omega, tUp_s]; exact fv
      · rw [z, tUp_n (by omega), fw j z2]; rw [z] at hc; exact (d4 va hc).2 j hj
    · rw [tUp_n (by omega), fr _ (by omega) (by omega) (by omega)]; exact (d4 c hc).2 j hj
  · rw [tUp_n (by omega)] at a
    rw [fr (43 + c) (by omega) (by omega) (by omega), fr (48 + c) (by omega) (by omega) (by omega)]
    exact d5 c a b
theorem c_line (h : cgood σ τ B n s) (hd : dr τ D) (hD : dOk D) (hC : Cres σ τ B n K (lineS B n s D)) : wp_X0_readLine τ K := by
  have b0 := hD.1.1
  have b1 := hD.1.2.1
  unfold lineS at hC
  have cz : ∀ q, Cres σ τ B n K q → Cres σ τ B n (fun r υ => isZ r ∧ K r υ) q := fun q hq => ⟨fun a υ b c d => ⟨isZ_1, hq.1 a υ b c d⟩, fun a υ b => ⟨isZ_0, hq.2 a υ b⟩⟩
  unfold wp_X0_readLine
  refine c_isAt h.2.1 (by decide) ⟨fun w => br_f (by decide) ?_, fun w => br_t rfl ?_⟩
  · rw [ic_t w] at hC
    rw [hd.1, L12, br_iff (nI_leI (by decide) (by omega))]
    refine ⟨fun z => ?_, fun z => ?_⟩
    · rw [ic_t (show D 0 = 12 by omega)] at hC
      exact c_R h rfl (fun υ b => ⟨isZ_0, hC.b rfl (show (3 : Nat) ≠ 0 by decide) b⟩)
    · rw [ic_f (show ¬ D 0 = 12 by omega)] at hC
      exact c_club h hd hD (by omega) (cz _ hC)
  · rw [ic_f w] at hC
    refine c_isAt h.2.1 (by decide) ⟨fun w1 => br_f (by decide) ?_, fun w1 => br_t rfl ?_⟩
    · rw [ic_t w1] at hC
      rw [hd.2.1, L4, br_iff (nI_leI (by decide) (by omega))]
      refine ⟨fun z => ?_, fun z => ?_⟩
      · rw [ic_t (show D 1 = 4 by omega)] at hC
        exact c_R h rfl (fun υ b => ⟨isZ_0, hC.b rfl (show (3 : Nat) ≠ 0 by decide) b⟩)
      · rw [ic_f (show ¬ D 1 = 4 by omega)] at hC
        exact c_cup h hd hD (by omega) (cz _ hC)
    · rw [ic_f w1] at hC
      refine c_isAt h.2.1 (by decide) ⟨fun w2 => br_f (by decide) ?_, fun w2 => br_t rfl ?_⟩
      · rw [ic_t w2] at hC
        exact c_way h hd hD (cz _ hC)
      · rw [ic_f w2] at hC
        exact c_R h rfl (fun υ b => ⟨isZ_0, hC.b rfl (show (1 : Nat) ≠ 0 by decide) b⟩)
end
