/-! THE BOOK: what a line leaves; all lines -/
section
variable {B D : Nat → Nat} {n s at' : Nat} {p : Nat × Nat} {q : (Nat × Nat) × (Nat → Nat)}
theorem nx_mono (h : s ≤ n) : s ≤ nx B n s := Nat.le_trans (en_b h).1 (nx_ge h)
theorem wm_nx {i : Nat} (h : s ≤ n) (hi : i < 14) (w : wm B n i s) : s + 3 ≤ nx B n s := by
  have := nx_ge (B := B) h
  have := w.2.1
  have := (w_tab i hi).1
  omega
theorem nS_q {lo hi : Nat} (h : (nS B n lo hi p).1 = 0) (hp : p.2 ≤ n) : p.1 = 0 ∧ nOk B n lo hi p.2 ∧ nV B n lo hi p = dv B n p.2 ∧ p.2 ≤ (nS B n lo hi p).2 ∧ St B n (nS B n lo hi p).2 := by
  obtain ⟨z1, z2, z3, z4⟩ := nS_p h
  refine ⟨z1, z2, z4, ?_, ?_⟩
  · rw [z3]; exact nx_mono hp
  · rw [z3]; exact nx_St hp
theorem oS_p {i a lo hi : Nat} (h : (oS B n i a lo hi q).1.1 = 0) (hp : q.1.2 ≤ n) : q.1.1 = 0 ∧ ((oS B n i a lo hi q).2 = q.2 ∨ ∃ v, lo ≤ v ∧ v < hi ∧ v < 100000 ∧ (oS B n i a lo hi q).2 = tUp q.2 a v) ∧ q.1.2 ≤ (oS B n i a lo hi q).1.2 ∧ (St B n q.1.2 → St B n (oS B n i a lo hi q).1.2) := by
  by_cases w : wB B n i q.1
  · have e : oS B n i a lo hi q = (nS B n lo hi (wS B n i q.1), tUp q.2 a (nV B n lo hi (wS B n i q.1))) := ic_t w
    have ew : wS B n i q.1 = (0, nx B n q.1.2) := ic_t w
    rw [ew] at e
    rw [e] at h ⊢
    have hs := nx_St (B := B) hp
    obtain ⟨z1, z2, z3, z4, z5⟩ := nS_q h hs.1
    refine ⟨w.1, Or.inr ⟨_, z2.2.2.1, z2.2.2.2, dv_lt hs.1 z2.1 z2.2.1, by rw [z3]⟩, Nat.le_trans (nx_mono hp) z4, fun _ => z5⟩
  · have e : oS B n i a lo hi q = q := ic_f w
    rw [e] at h ⊢
    exact ⟨h, Or.inl rfl, Nat.le_refl _, fun z => z⟩
theorem pS_p (h : (pS B n at' q).1.1 = 0) (hp : q.1.2 ≤ n) : q.1.1 = 0 ∧ (∃ a b c, a + b + c = 100 ∧ (pS B n at' q).2 = tUp (tUp (tUp q.2 at' a) (at' + 1) b) (at' + 2) c) ∧ q.1.2 ≤ (pS B n at' q).1.2 ∧ St B n (pS B n at' q).1.2 := by
  unfold pS at h ⊢
  have h : (nS B n (100 - nV B n 0 101 q.1 - nV B n 0 101 (nS B n 0 101 q.1)) (101 - nV B n 0 101 q.1 - nV B n 0 101 (nS B n 0 101 q.1)) (nS B n 0 101 (nS B n 0 101 q.1))).1 = 0 := h
  obtain ⟨z2, -⟩ := nS_p h
  obtain ⟨z1, -⟩ := nS_p z2
  obtain ⟨a1, a2, a3, a4, a5⟩ := nS_q z1 hp
  obtain ⟨b1, b2, b3, b4, b5⟩ := nS_q z2 a5.1
  obtain ⟨c1, c2, c3, c4, c5⟩ := nS_q h b5.1
  refine ⟨a1, ⟨_, _, _, ?_, rfl⟩, Nat.le_trans a4 (Nat.le_trans b4 c4), c5⟩
  rw [c3]
  have := c2.2.2
  rw [a3, b3] at this ⊢
  have := a2.2.2.2
  have := b2.2.2.2
  omega
theorem cupOk_c {T T' : Nat → Nat} {c : Nat} (h : cupOk T c) (e : ∀ j, j < 17 → tC T' c j = tC T c j) : cupOk T' c := by
  unfold cupOk at h ⊢
  rw [e 0 (by omega), e 1 (by omega), e 2 (by omega), e 3 (by omega), e 4 (by omega), e 5 (by omega), e 6 (by omega), e 7 (by omega), e 8 (by omega), e 9 (by omega), e 10 (by omega)]
  obtain ⟨a1, a2, a3, a4, a5, a6, a7, a8, a9⟩ := h
  exact ⟨a1, a2, a3, a4, a5, a6, a7, a8, fun r hr => by rw [e _ (by omega)]; exact a9 r hr⟩
theorem dOk_club {a b c : Nat} (h : dOk D) (h0 : D 0 < 12) (ha : a ≤ 9999) (hb : b ≤ 9999) (hc : c ≤ 99999) : dOk (tUp (tUp (tUp (tUp D (2 + 3 * D 0) a) (2 + 3 * D 0 + 1) b) (2 + 3 * D 0 + 2) c) 0 (D 0 + 1)) := by
  obtain ⟨⟨t0, t1, t2, t3, t4⟩, zt⟩ := h
  have e1 : (tUp (tUp (tUp (tUp D (2 + 3 * D 0) a) (2 + 3 * D 0 + 1) b) (2 + 3 * D 0 + 2) c) 0 (D 0 + 1)) 1 = D 1 := by simp (disch := omega) only [tUp_n]
  refine ⟨⟨by rw [tUp_s]; omega, by rw [e1]; exact t1, fun k => ?_, fun x hx => ?_, fun x hx => ?_⟩, fun k hk => ?_⟩
  · unfold tUp
    split
    · omega
    · split
      · omega
      · split
        · omega
        · split
          · omega
          · exact t2 k
  · rw [tUp_s] at hx
    by_cases z : x = D 0
    · unfold tB
      rw [z]
      refine ⟨?_, ?_, ?_⟩
      · rw [tUp_n (by omega), tUp_n (by omega), tUp_n (by omega), Nat.add_zero, tUp_s]; exact ha
      · rw [tUp_n (by omega), tUp_n (by omega), tUp_s]; exact hb
      · rw [tUp_n (by omega), tUp_s]; exact hc
    · unfold tB
      simp (disch := omega) only [tUp_n]
      exact t3 x (by omega)
  · rw [e1] at hx
    exact cupOk_c (t4 x hx) (fun j hj => by unfold tC; simp (disch := omega) only [tUp_n])
  · rw [e1] at hk
    simp (disch := omega) only [tUp_n]
    exact zt k hk
theorem dOk_way {c r v : Nat} (h : dOk D) (hc : c < D 1) (hr : r < 6) (hv : v ≤ 3) : dOk (tUp D (38 + 17 * c + 11 + r) v) := by
  obtain ⟨⟨t0, t1, t2, t3, t4⟩, zt⟩ := h
  have e0 : (tUp D (38 + 17 * c + 11 + r) v) 0 = D 0 := tUp_n (by omega)
  have e1 : (tUp D (38 + 17 * c + 11 + r) v) 1 = D 1 := tUp_n (by omega)
  refine ⟨⟨by rw [e0]; exact t0, by rw [e1]; exact t1, fun k => ?_, fun x hx => ?_, fun x hx => ?_⟩, fun k hk => ?_⟩
  · unfold tUp
    split
    · omega
    · exact t2 k
  · rw [e0] at hx
    unfold tB
    simp (disch := omega) only [tUp_n]
    exact t3 x hx
  · rw [e1] at hx
    have e : ∀ j, j < 11 → tC (tUp D (38 + 17 * c + 11 + r) v) x j = tC D x j := fun j hj => by unfold tC; rw [tUp_n (by omega)]
    obtain ⟨a1, a2, a3, a4, a5, a6, a7, a8, a9⟩ := t4 x hx
    unfold cupOk
    rw [e 0 (by omega), e 1 (by omega), e 2 (by omega), e 3 (by omega), e 4 (by omega), e 5 (by omega), e 6 (by omega), e 7 (by omega), e 8 (by omega), e 9 (by omega), e 10 (by omega)]
    refine ⟨a1, a2, a3, a4, a5, a6, a7, a8, fun r' hr' => ?_⟩
    unfold tC tUp
    split
    · exact hv
    · exact a9 r' hr'
  · rw [e1] at hk
    rw [tUp_n (by omega)]
    exact zt k hk
def ci (at' : Nat) (D0 D : Nat → Nat) : Prop := fD at' D0 D ∧ (∀ k, D k < 100000) ∧ D at' + D (at' + 1) + D (at' + 2) = 100 ∧ D (at' + 3) ≤ 2 ∧ D (at' + 4) ≤ 99999 ∧ D (at' + 5) ≤ 3 ∧ (1 ≤ D (at' + 9) ∧ D (at' + 9) ≤ 6) ∧ D (at' + 10) ≤ 2
theorem ci_u {D0 : Nat → Nat} {j v : Nat} (h : ci at' D0 D) (hv : v < 100000) (hj : j = 3 ∧ v ≤ 2 ∨ j = 4 ∨ j = 5 ∧ v ≤ 3 ∨ j = 9 ∧ 1 ≤ v ∧ v ≤ 6 ∨ j = 10 ∧ v ≤ 2 ∨ (6 ≤ j ∧ j ≤ 8)) : ci at' D0 (tUp D (at' + j) v) := by
  obtain ⟨h1, h2, h3, h4, h5, h6, h7, h8⟩ := h
  refine ⟨fD_u h1 (by omega), fun k => ?_, ?_, ?_, ?_, ?_, ?_, ?_⟩
  · unfold tUp
    split
    · exact hv
    · exact h2 k
  · rw [tUp_n (by omega), tUp_n (by omega), tUp_n (by omega)]; exact h3
  · unfold tUp; split <;> omega
  · unfold tUp; split <;> omega
  · unfold tUp; split <;> omega
  · unfold tUp; split <;> omega
  · unfold tUp; split <;> omega
theorem ci_o {D0 : Nat → Nat} {i j lo hi : Nat} (h : ci at' D0 q.2) (hz : (oS B n i (at' + j) lo hi q).1.1 = 0) (hp : q.1.2 ≤ n) (hj : ∀ v, lo ≤ v → v < hi → j = 3 ∧ v ≤ 2 ∨ j = 4 ∨ j = 5 ∧ v ≤ 3 ∨ j = 9 ∧ 1 ≤ v ∧ v ≤ 6 ∨ j = 10 ∧ v ≤ 2 ∨ (6 ≤ j ∧ j ≤ 8)) : ci at' D0 (oS B n i (at' + j) lo hi q).2 := by
  obtain ⟨-, z2, -⟩ := oS_p hz hp
  rcases z2 with z | ⟨v, a, b, c, e⟩
  · rw [z]; exact h
  · rw [e]; exact ci_u h c (hj v a b)
theorem dOk_cup (h : dOk D) (h1 : D 1 < 4) {D' : Nat → Nat} (hc : ci (38 + 17 * D 1) D D') (h6 : D' (38 + 17 * D 1 + 6) + D' (38 + 17 * D 1 + 6 + 1) + D' (38 + 17 * D 1 + 6 + 2) = 100) : dOk (tUp D' 1 (D' 1 + 1)) := by
  obtain ⟨⟨t0, t1, t2, t3, t4⟩, zt⟩ := h
  obtain ⟨g1, g2, g3, g4, g5, g6', g7, g8⟩ := hc
  have e0 : D' 0 = D 0 := g1 0 (by omega)
  have e1 : D' 1 = D 1 := g1 1 (by omega)
  rw [e1]
  refine ⟨⟨by rw [tUp_n (by omega), e0]; exact t0, by rw [tUp_s]; omega, fun k => ?_, fun x hx => ?_, fun x hx => ?_⟩, fun k hk => ?_⟩
  · unfold tUp
    split
    · omega
    · exact g2 k
  · rw [tUp_n (by omega), e0] at hx
    unfold tB
    rw [tUp_n (by omega), tUp_n (by omega), tUp_n (by omega), g1 _ (by omega), g1 _ (by omega), g1 _ (by omega)]
    exact t3 x hx
  · rw [tUp_s] at hx
    have e : ∀ y j, tC (tUp D' 1 (D 1 + 1)) y j = D' (38 + 17 * y + j) := fun y j => tUp_n (by omega)
    by_cases z : x = D 1
    · rw [z]
      unfold cupOk
      simp only [e]
      refine ⟨by rw [Nat.add_zero]; exact g3, h6, g4, g5, g6', g7.1, g7.2, g8, fun r hr => ?_⟩
      rw [g1 _ (by omega), zt _ (by omega)]
      omega
    · refine cupOk_c (t4 x (by omega)) (fun j hj => ?_)
      rw [e, g1 _ (by omega)]
      rfl
  · rw [tUp_s] at hk
    rw [tUp_n (by omega), g1 _ (by omega)]
    exact zt k (by omega)
theorem cup_post (h : dOk D) (h1 : D 1 < 4) (hp : p.2 ≤ n) (hz : (cupS B n p D).1.1 = 0) : dOk (cupS B n p D).2 ∧ p.2 ≤ (cupS B n p D).1.2 ∧ St B n (cupS B n p D).1.2 := by
  unfold cupS tl0 tl1 tl2 at hz ⊢
  have c0 : ∀ {a b c}, a + b + c = 100 → ci (38 + 17 * D 1) D (tUp (tUp (tUp (tUp (tUp D (38 + 17 * D 1 + 5) 1) (38 + 17 * D 1 + 9) 6) (38 + 17 * D 1) a) (38 + 17 * D 1 + 1) b) (38 + 17 * D 1 + 2) c) := by
    intro a b c habc
    have zt := h.2
    have t2 := h.1.2.2.1
    refine ⟨fun k hk => by simp (disch := omega) only [tUp_n], fun k => ?_, ?_, ?_, ?_, ?_, ?_, ?_⟩
    · have := t2 k
      unfold tUp
      repeat (split; omega)
      exact this
    · rw [tUp_n (by omega), tUp_n (by omega), tUp_s, tUp_n (by omega), tUp_s, tUp_s]; exact habc
    · simp (disch := omega) only [tUp_n]; rw [zt (38 + 17 * D 1 + 3) (by omega)]; omega
    · simp (disch := omega) only [tUp_n]; rw [zt (38 + 17 * D 1 + 4) (by omega)]; omega
    · simp (disch := omega) only [tUp_n, tUp_s]; omega
    · simp (disch := omega) only [tUp_n, tUp_s]; omega
    · simp (disch := omega) only [tUp_n]; rw [zt (38 + 17 * D 1 + 10) (by omega)]; omega
  generalize hq1 : pS B n (38 + 17 * D 1) (p, tUp (tUp D (38 + 17 * D 1 + 5) 1) (38 + 17 * D 1 + 9) 6) = q1 at *
  generalize hq2 : oS B n 2 (38 + 17 * D 1 + 3) 0 3 q1 = q2 at *
  generalize hq3 : oS B n 3 (38 + 17 * D 1 + 4) 0 100000 q2 = q3 at *
  generalize hq4 : oS B n 4 (38 + 17 * D 1 + 5) 0 4 q3 = q4 at *
  generalize hq5 : ic (wB B n 5 q4.1) (pS B n (38 + 17 * D 1 + 6) (wS B n 5 q4.1, q4.2)) (q4.1, cp3 q4.2 (38 + 17 * D 1)) = q5 at *
  generalize hq6 : oS B n 6 (38 + 17 * D 1 + 9) 1 7 q5 = q6 at *
  generalize hq7 : oS B n 7 (38 + 17 * D 1 + 10) 0 3 q6 = q7 at *
  have hz : q7.1.1 = 0 := hz
  -- all were good
  have x6 : q6.1.1 = 0 := by
    apply Classical.byContradiction
    intro z; rw [oS_bad z] at hq7; rw [← hq7] at hz; exact z hz
  have x5 : q5.1.1 = 0 := by
    apply Classical.byContradiction
    intro z; rw [oS_bad z] at hq6; rw [← hq6] at x6; exact z x6
  have x4 : q4.1.1 = 0 := by
    apply Classical.byContradiction
    intro z
    rw [ic_f (fun y => z y.1)] at hq5
    rw [← hq5] at x5; exact z x5
  have x3 : q3.1.1 = 0 := by
    apply Classical.byContradiction
    intro z; rw [oS_bad z] at hq4; rw [← hq4] at x4; exact z x4
  have x2 : q2.1.1 = 0 := by
    apply Classical.byContradiction
    intro z; rw [oS_bad z] at hq3; rw [← hq3] at x3; exact z x3
  have x1 : q1.1.1 = 0 := by
    apply Classical.byContradiction
    intro z; rw [oS_bad z] at hq2; rw [← hq2] at x2; exact z x2
  obtain ⟨-, ⟨a, b, c, e1, e2⟩, l1, st1⟩ := pS_p (q := (p, tUp (tUp D (38 + 17 * D 1 + 5) 1) (38 + 17 * D 1 + 9) 6)) (at' := 38 + 17 * D 1) (B := B) (n := n) (by rw [hq1]; exact x1) hp
  rw [hq1] at e2 l1 st1
  have l1 : p.2 ≤ q1.1.2 := l1
  have k1 : ci (38 + 17 * D 1) D q1.2 := by rw [e2]; exact c0 e1
  have o2 := oS_p (B := B) (n := n) (q := q1) (i := 2) (a := 38 + 17 * D 1 + 3) (lo := 0) (hi := 3) (by rw [hq2]; exact x2) st1.1
  have k2 := ci_o (B := B) (n := n) (i := 2) (j := 3) (lo := 0) (hi := 3) k1 (by rw [hq2]; exact x2) st1.1 (fun v _ _ => by omega)
  rw [hq2] at o2 k2
  have st2 := o2.2.2.2 st1
  have o3 := oS_p (B := B) (n := n) (q := q2) (i := 3) (a := 38 + 17 * D 1 + 4) (lo := 0) (hi := 100000) (by rw [hq3]; exact x3) st2.1
  have k3 := ci_o (B := B) (n := n) (i := 3) (j := 4) (lo := 0) (hi := 100000) k2 (by rw [hq3]; exact x3) st2.1 (fun v _ _ => by omega)
  rw [hq3] at o3 k3
  have st3 := o3.2.2.2 st2
  have o4 := oS_p (B := B) (n := n) (q := q3) (i := 4) (a := 38 + 17 * D 1 + 5) (lo := 0) (hi := 4) (by rw [hq4]; exact x4) st3.1
  have k4 := ci_o (B := B) (n := n) (i := 4) (j := 5) (lo := 0) (hi := 4) k3 (by rw [hq4]; exact x4) st3.1 (fun v _ _ => by omega)
  rw [hq4] at o4 k4
  have st4 := o4.2.2.2 st3
  have m5 : ci (38 + 17 * D 1) D q5.2 ∧ q5.2 (38 + 17 * D 1 + 6) + q5.2 (38 + 17 * D 1 + 6 + 1) + q5.2 (38 + 17 * D 1 + 6 + 2) = 100 ∧ q4.1.2 ≤ q5.1.2 ∧ St B n q5.1.2 := by
    by_cases w : wB B n 5 q4.1
    · rw [ic_t w, show wS B n 5 q4.1 = (0, nx B n q4.1.2) from ic_t w] at hq5
      have hsn := nx_St (B := B) st4.1
      obtain ⟨-, ⟨a', b', c', f1, f2⟩, l5, st5⟩ := pS_p (q := ((0, nx B n q4.1.2), q4.2)) (at' := 38 + 17 * D 1 + 6) (B := B) (n := n) (by rw [hq5]; exact x5) hsn.1
      rw [hq5] at f2 l5 st5
      have l5 : nx B n q4.1.2 ≤ q5.1.2 := l5
      refine ⟨?_, ?_, Nat.le_trans (nx_mono st4.1) l5, st5⟩
      · rw [f2]
        exact ci_u (j := 8) (ci_u (j := 7) (ci_u (j := 6) k4 (by omega) (by omega)) (by omega) (by omega)) (by omega) (by omega)
      · rw [f2, tUp_n (by omega), tUp_n (by omega), tUp_s, tUp_n (by omega), tUp_s, tUp_s]
        exact f1
    · rw [ic_f w] at hq5
      rw [← hq5]
      refine ⟨?_, ?_, Nat.le_refl _, st4⟩
      · exact ci_u (j := 8) (ci_u (j := 7) (ci_u (j := 6) k4 (k4.2.1 _) (by omega)) (k4.2.1 _) (by omega)) (k4.2.1 _) (by omega)
      · show cp3 q4.2 (38 + 17 * D 1) (38 + 17 * D 1 + 6) + cp3 q4.2 (38 + 17 * D 1) (38 + 17 * D 1 + 6 + 1) + cp3 q4.2 (38 + 17 * D 1) (38 + 17 * D 1 + 6 + 2) = 100
        unfold cp3
        rw [tUp_n (by omega), tUp_n (by omega), tUp_s, tUp_n (by omega), tUp_s, tUp_s]
        exact k4.2.2.1
  obtain ⟨k5, r5, l5, st5⟩ := m5
  have rk : ∀ {i j lo hi : Nat} {qa : (Nat × Nat) × (Nat → Nat)}, (j = 9 ∨ j = 10) → qa.1.2 ≤ n → (oS B n i (38 + 17 * D 1 + j) lo hi qa).1.1 = 0 → qa.2 (38 + 17 * D 1 + 6) + qa.2 (38 + 17 * D 1 + 6 + 1) + qa.2 (38 + 17 * D 1 + 6 + 2) = 100 → (oS B n i (38 + 17 * D 1 + j) lo hi qa).2 (38 + 17 * D 1 + 6) + (oS B n i (38 + 17 * D 1 + j) lo hi qa).2 (38 + 17 * D 1 + 6 + 1) + (oS B n i (38 + 17 * D 1 + j) lo hi qa).2 (38 + 17 * D 1 + 6 + 2) = 100 := by
    intro i j lo hi qa hj hn hh hr
    obtain ⟨-, z2, -⟩ := oS_p hh hn
    rcases z2 with z | ⟨v, -, -, -, e⟩
    · rw [z]; exact hr
    · rw [e, tUp_n (by omega), tUp_n (by omega), tUp_n (by omega)]; exact hr
  have o6 := oS_p (B := B) (n := n) (q := q5) (i := 6) (a := 38 + 17 * D 1 + 9) (lo := 1) (hi := 7) (by rw [hq6]; exact x6) st5.1
  have k6 := ci_o (B := B) (n := n) (i := 6) (j := 9) (lo := 1) (hi := 7) k5 (by rw [hq6]; exact x6) st5.1 (fun v _ _ => by omega)
  have r6 := rk (i := 6) (j := 9) (lo := 1) (hi := 7) (Or.inl rfl) st5.1 (by rw [hq6]; exact x6) r5
  rw [hq6] at o6 k6 r6
  have st6 := o6.2.2.2 st5
  have o7 := oS_p (B := B) (n := n) (q := q6) (i := 7) (a := 38 + 17 * D 1 + 10) (lo := 0) (hi := 3) (by rw [hq7]; exact hz) st6.1
  have k7 := ci_o (B := B) (n := n) (i := 7) (j := 10) (lo := 0) (hi := 3) k6 (by rw [hq7]; exact hz) st6.1 (fun v _ _ => by omega)
  have r7 := rk (i := 7) (j := 10) (lo := 0) (hi := 3) (Or.inr rfl) st6.1 (by rw [hq7]; exact hz) r6
  rw [hq7] at o7 k7 r7
  have st7 := o7.2.2.2 st6
  refine ⟨dOk_cup h h1 k7 r7, ?_, st7⟩
  have := o2.2.2.1
  have := o3.2.2.1
  have := o4.2.2.1
  have := o6.2.2.1
  have := o7.2.2.1
  show p.2 ≤ q7.1.2
  omega
theorem line_post (h : dOk D) (hs : s ≤ n) (hz : (lineS B n s D).1.1 = 0) : dOk (lineS B n s D).2 ∧ s + 3 ≤ (lineS B n s D).1.2 ∧ St B n (lineS B n s D).1.2 := by
  have b0 := h.1.1
  have b1 := h.1.2.1
  have hsn := nx_St (B := B) hs
  unfold lineS at hz ⊢
  by_cases w0 : wm B n 0 s
  · have l3 := wm_nx hs (by decide) w0
    rw [ic_t w0] at hz ⊢
    by_cases q : D 0 = 12
    · rw [ic_t q] at hz
      exact absurd hz (by show ¬ (3 : Nat) = 0; decide)
    · rw [ic_f q] at hz ⊢
      have hz : (nS B n 0 100000 (nS B n 0 10000 (nS B n 0 10000 (0, nx B n s)))).1 = 0 := hz
      obtain ⟨z2, -⟩ := nS_p hz
      obtain ⟨z1, -⟩ := nS_p z2
      obtain ⟨a1, a2, a3, a4, a5⟩ := nS_q z1 hsn.1
      obtain ⟨c1, c2, c3, c4, c5⟩ := nS_q z2 a5.1
      obtain ⟨d1, d2, d3, d4, d5⟩ := nS_q hz c5.1
      refine ⟨dOk_club h (by omega) (by rw [a3]; have := a2.2.2.2; omega) (by rw [c3]; have := c2.2.2.2; omega) (by rw [d3]; have := d2.2.2.2; omega), ?_, d5⟩
      show s + 3 ≤ (nS B n 0 100000 (nS B n 0 10000 (nS B n 0 10000 (0, nx B n s)))).2
      have a4 : nx B n s ≤ _ := a4
      omega
  · rw [ic_f w0] at hz ⊢
    by_cases w1 : wm B n 1 s
    · have l3 := wm_nx hs (by decide) w1
      rw [ic_t w1] at hz ⊢
      by_cases q : D 1 = 4
      · rw [ic_t q] at hz
        exact absurd hz (by show ¬ (3 : Nat) = 0; decide)
      · rw [ic_f q] at hz ⊢
        obtain ⟨k1, k2, k3⟩ := cup_post h (by omega) hsn.1 hz
        have k2 : nx B n s ≤ _ := k2
        exact ⟨k1, by omega, k3⟩
    · rw [ic_f w1] at hz ⊢
      by_cases w2 : wm B n 8 s
      · have l3 := wm_nx hs (by decide) w2
        rw [ic_t w2] at hz ⊢
        have hz : (nS B n 0 4 (nS B n 0 6 (nS B n 0 (D 1) (0, nx B n s)))).1 = 0 := hz
        obtain ⟨z2, -⟩ := nS_p hz
        obtain ⟨z1, -⟩ := nS_p z2
        obtain ⟨a1, a2, a3, a4, a5⟩ := nS_q z1 hsn.1
        obtain ⟨c1, c2, c3, c4, c5⟩ := nS_q z2 a5.1
        obtain ⟨d1, d2, d3, d4, d5⟩ := nS_q hz c5.1
        refine ⟨dOk_way h (by rw [a3]; exact a2.2.2.2) (by rw [c3]; exact c2.2.2.2) (by rw [d3]; have := d2.2.2.2; omega), ?_, d5⟩
        show s + 3 ≤ (nS B n 0 4 (nS B n 0 6 (nS B n 0 (D 1) (0, nx B n s)))).2
        have a4 : nx B n s ≤ _ := a4
        omega
      · rw [ic_f w2] at hz
        exact absurd hz (by show ¬ (1 : Nat) = 0; decide)
end
/-- the end of a BOOK -/
noncomputable def finS (n : Nat) (q : (Nat × Nat) × (Nat → Nat)) : (Nat × Nat) × (Nat → Nat) := ic (q.1.2 < n) ((1, q.1.2), q.2) (ic (q.2 0 < 2 ∨ q.2 1 = 0) ((4, q.1.2), q.2) q)
noncomputable def bkS (B : Nat → Nat) (n : Nat) : Nat → Nat → Nat → (Nat → Nat) → Nat × ((Nat × Nat) × (Nat → Nat))
  | 0, m, s, D => (m, ((1, s), D))
  | f + 1, m, s, D => ic ((lineS B n s D).1.1 = 0) (ic ((lineS B n s D).1.2 < n ∧ B (lineS B n s D).1.2 = 59) (bkS B n f (m + 1) (nx B n (lineS B n s D).1.2) (lineS B n s D).2) (m + 1, finS n (lineS B n s D))) (m, lineS B n s D)
