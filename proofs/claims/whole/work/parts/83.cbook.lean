/-! THE BOOK, the class's reading -/
def dr (τ : Sg) (D : Nat → Nat) : Prop := τ 28 0 = nI (D 0) ∧ τ 28 1 = nI (D 1) ∧ (∀ c, c < D 0 → ∀ j, j < 3 → τ (30 + c) j = nI (tB D c j)) ∧ (∀ c, c < D 1 → (∀ j, j < 11 → τ (43 + c) j = nI (tC D c j)) ∧ ∀ j, j < 6 → τ (48 + c) j = nI (tC D c (11 + j))) ∧ ∀ c, D 1 ≤ c → c < 4 → (τ (43 + c) 3 = 0 ∧ τ (43 + c) 4 = 0 ∧ τ (43 + c) 5 = 1 ∧ τ (43 + c) 9 = 6 ∧ τ (43 + c) 10 = 0) ∧ ∀ j, j < 6 → τ (48 + c) j = 0
def dOk (D : Nat → Nat) : Prop := toldOk D ∧ ∀ k, 38 + 17 * D 1 ≤ k → D k = 0
theorem dr_fr {τ υ : Sg} {D : Nat → Nat} (h : dr τ D) (hD : dOk D) (f : ∀ k, 28 ≤ k → k ≤ 51 → υ k = τ k) : dr υ D := by
  obtain ⟨h1, h2, h3, h4, h5⟩ := h
  have b0 := hD.1.1
  have b1 := hD.1.2.1
  refine ⟨by rw [f 28 (by omega) (by omega)]; exact h1, by rw [f 28 (by omega) (by omega)]; exact h2, fun c hc j hj => by rw [f _ (by omega) (by omega)]; exact h3 c hc j hj, fun c hc => ⟨fun j hj => by rw [f _ (by omega) (by omega)]; exact (h4 c hc).1 j hj, fun j hj => by rw [f _ (by omega) (by omega)]; exact (h4 c hc).2 j hj⟩, fun c c1 c2 => ?_⟩
  rw [f (43 + c) (by omega) (by omega), f (48 + c) (by omega) (by omega)]
  exact h5 c c1 c2
def Cres (σ τ : Sg) (B : Nat → Nat) (n : Nat) (K : Int32 → Sg → Prop) (q : (Nat × Nat) × (Nat → Nat)) : Prop := (q.1.1 = 0 → ∀ υ : Sg, cgood σ υ B n q.1.2 → dr υ q.2 → υ 27 = τ 27 → K 1 υ) ∧ (q.1.1 ≠ 0 → ∀ υ : Sg, cbad σ υ q.1 → K 0 υ)
section
variable {σ τ : Sg} {B D : Nat → Nat} {n s : Nat} {K Q : Int32 → Sg → Prop}
theorem Cres.b {q : (Nat × Nat) × (Nat → Nat)} {p : Nat × Nat} {υ : Sg} (h : Cres σ τ B n K q) (e : q.1 = p) (hp : p.1 ≠ 0) (b : cbad σ υ p) : K 0 υ := h.2 (by rw [e]; exact hp) υ (by rw [e]; exact b)
theorem nS_nF {lo hi : Nat} : nS B n lo hi (nF B n s, s) = (nF B n s, s) := nS_bad nF_0
theorem oS_w {i a lo hi : Nat} (w : wm B n i s) : oS B n i a lo hi ((0, s), D) = (nS B n lo hi (0, nx B n s), tUp D a (nV B n lo hi (0, nx B n s))) := by
  unfold oS
  rw [ic_t (show wB B n i (0, s) from ⟨rfl, w⟩)]
  show (nS B n lo hi (wS B n i (0, s)), tUp D a (nV B n lo hi (wS B n i (0, s)))) = _
  rw [wS_t w]
theorem oS_n {i a lo hi : Nat} (w : ¬ wm B n i s) : oS B n i a lo hi ((0, s), D) = ((0, s), D) := ic_f (fun z => w z.2)
theorem c_club (h : cgood σ τ B n s) (hd : dr τ D) (hD : dOk D) (h12 : D 0 < 12) (hC : Cres σ τ B n K (clubS B n (0, nx B n s) D)) : wp_X0_readClub τ K := by
  have b1 := hD.1.2.1
  unfold wp_X0_readClub
  refine c_stp h.2.1 (fun υ c1 c2 => ?_)
  have g0 := h.c c1 c2
  have e28 : υ 28 0 = nI (D 0) := by rw [c1.1 28 (by decide)]; exact hd.1
  rw [e28, vin_T h12 (by decide), cl_I (by omega), true_and]
  intro τ1 e1
  have g1 : cgood σ τ1 B n (nx B n s) := by rw [e1]; exact g0.u (by omega)
  refine c_N (lo := 0) (hi := 10000) (a := 0) g1 (by decide) (by decide) (by omega) (fun v h => bd_0 h) (fun v h => bd_4 (a := 9999) h (by decide)) (fun o1 υ1 g2 f1 r1 => br_f (by decide) ?_) (fun o1 υ1 b => br_t rfl (hC.b (by show nS B n 0 100000 (nS B n 0 10000 (nS B n 0 10000 _)) = _; rw [nS_no o1, nS_nF, nS_nF]) nF_0 b))
  refine c_N (lo := 0) (hi := 10000) (a := 1) g2 (by decide) (by decide) (by omega) (fun v h => bd_0 h) (fun v h => bd_4 (a := 9999) h (by decide)) (fun o2 υ2 g3 f2 r2 => br_f (by decide) ?_) (fun o2 υ2 b => br_t rfl (hC.b (by show nS B n 0 100000 (nS B n 0 10000 (nS B n 0 10000 _)) = _; rw [nS_ok o1, nS_no o2, nS_nF]) nF_0 b))
  refine c_N (lo := 0) (hi := 100000) (a := 2) g3 (by decide) (by decide) (by omega) (fun v h => bd_0 h) (fun v h => bd_4 (a := 99999) h (by decide)) (fun o3 υ3 g4 f3 r3 => br_f (by decide) ?_) (fun o3 υ3 b => br_t rfl (hC.b (by show nS B n 0 100000 (nS B n 0 10000 (nS B n 0 10000 _)) = _; rw [nS_ok o1, nS_ok o2, nS_no o3]) nF_0 b))
  have e : clubS B n (0, nx B n s) D = ((0, nx B n (nx B n (nx B n (nx B n s)))), tUp (tUp (tUp (tUp D (2 + 3 * D 0) (dv B n (nx B n s))) (2 + 3 * D 0 + 1) (dv B n (nx B n (nx B n s)))) (2 + 3 * D 0 + 2) (dv B n (nx B n (nx B n (nx B n s))))) 0 (D 0 + 1)) := by
    unfold clubS
    rw [nS_ok o1, nV_ok o1, nS_ok o2, nV_ok o2, nS_ok o3, nV_ok o3]
  rw [e] at hC
  generalize dv B n (nx B n s) = va at *
  generalize dv B n (nx B n (nx B n s)) = vb at *
  generalize dv B n (nx B n (nx B n (nx B n s))) = vc at *
  have fr : ∀ k, k ≠ 1 → k ≠ 30 + D 0 → υ3 k = τ1 k := fun k a b => by rw [f3 k a b, f2 k a b, f1 k a b]
  have ft : ∀ k, k ≠ 1 → k ≠ 28 → τ1 k = τ k := fun k a b => by rw [e1, up_o b, c1.1 k a]
  obtain ⟨d1, d2, d3, d4, d5⟩ := hd
  have fin : dr υ3 (tUp (tUp (tUp (tUp D (2 + 3 * D 0) va) (2 + 3 * D 0 + 1) vb) (2 + 3 * D 0 + 2) vc) 0 (D 0 + 1)) := by
   refine ⟨?_, ?_, fun c hc j hj => ?_, fun c hc => ?_, fun c a b => ?_⟩
   · rw [fr 28 (by omega) (by omega), e1, up_s, nI_1, tUp_s]
   · rw [fr 28 (by omega) (by omega), e1, up_j (by decide), c1.1 28 (by decide), d2]
     simp (disch := omega) only [tUp_n]
   · rw [tUp_s] at hc
     unfold tB
     rw [tUp_n (by omega)]
     by_cases q : c = D 0
     · rw [q]
       rcases (show j = 0 ∨ j = 1 ∨ j = 2 by omega) with rfl | rfl | rfl
       · rw [tUp_n (by omega), tUp_n (by omega), Nat.add_zero, tUp_s, r3, if_neg (by decide), r2, if_neg (by decide), r1, if_pos rfl]
       · rw [tUp_n (by omega), tUp_s, r3, if_neg (by decide), r2, if_pos rfl]
       · rw [tUp_s, r3, if_pos rfl]
     · rw [tUp_n (by omega), tUp_n (by omega), tUp_n (by omega), fr _ (by omega) (by omega), ft _ (by omega) (by omega)]
       exact d3 c (by omega) j hj
   · have e1' : (tUp (tUp (tUp (tUp D (2 + 3 * D 0) va) (2 + 3 * D 0 + 1) vb) (2 + 3 * D 0 + 2) vc) 0 (D 0 + 1)) 1 = D 1 := by simp (disch := omega) only [tUp_n]
     rw [e1'] at hc
     have tc : ∀ j, tC (tUp (tUp (tUp (tUp D (2 + 3 * D 0) va) (2 + 3 * D 0 + 1) vb) (2 + 3 * D 0 + 2) vc) 0 (D 0 + 1)) c j = tC D c j := fun j => by unfold tC; simp (disch := omega) only [tUp_n]
     refine ⟨fun j hj => ?_, fun j hj => ?_⟩
     · rw [tc, fr _ (by omega) (by omega), ft _ (by omega) (by omega)]; exact (d4 c hc).1 j hj
     · rw [tc, fr _ (by omega) (by omega), ft _ (by omega) (by omega)]; exact (d4 c hc).2 j hj
   · have e1' : (tUp (tUp (tUp (tUp D (2 + 3 * D 0) va) (2 + 3 * D 0 + 1) vb) (2 + 3 * D 0 + 2) vc) 0 (D 0 + 1)) 1 = D 1 := by simp (disch := omega) only [tUp_n]
     rw [e1'] at a
     rw [fr (43 + c) (by omega) (by omega), ft (43 + c) (by omega) (by omega), fr (48 + c) (by omega) (by omega), ft (48 + c) (by omega) (by omega)]
     exact d5 c a b
  exact hC.1 rfl υ3 g4 fin (by rw [fr 27 (by omega) (by omega), ft 27 (by omega) (by omega)])
theorem c_O {i a at' lo hi k1 : Nat} {x4 x5 : Int32} {Rl : (Nat → Int32) → (Nat → Nat) → Prop} (h : cgood σ τ B n s) (hi14 : i < 14) (ha : a < 11) (hk1 : 27 ≤ k1 ∧ k1 ≤ 54) (hx3 : ∀ v, v < 100000 → (nI v < x4 ↔ v < lo)) (hx4 : ∀ v, v < 100000 → (nI v ≤ x5 ↔ v < hi)) (hR : ∀ f D v, Rl f D → Rl (fun j => if j = a then nI v else f j) (tUp D (at' + a) v)) (hr : Rl (τ k1) D) (hy : ∀ υ : Sg, (oS B n i (at' + a) lo hi ((0, s), D)).1.1 = 0 → cgood σ υ B n (oS B n i (at' + a) lo hi ((0, s), D)).1.2 → (∀ k, k ≠ 1 → k ≠ k1 → υ k = τ k) → Rl (υ k1) (oS B n i (at' + a) lo hi ((0, s), D)).2 → Q 1 υ) (hn : ∀ υ : Sg, (oS B n i (at' + a) lo hi ((0, s), D)).1.1 ≠ 0 → cbad σ υ (oS B n i (at' + a) lo hi ((0, s), D)).1 → Q 0 υ) : wp_X0_readOption i k1 11 (nI a) x4 x5 τ Q := by
  unfold wp_X0_readOption
  refine c_W h hi14 (fun w υ g f => br_f (by decide) ?_) (fun w => br_t rfl ?_)
  · rw [oS_w w] at hy hn
    refine c_N g ha (by decide) hk1 hx3 hx4 (fun o υ1 g1 f1 r1 => br_f (by decide) ?_) (fun o υ1 b => br_t rfl ?_)
    · rw [nS_ok o, nV_ok o] at hy
      refine hy υ1 rfl g1 (fun k a b => by rw [f1 k a b, f k a]) ?_
      rw [show υ1 k1 = fun j => if j = a then nI (dv B n (nx B n s)) else τ k1 j from funext (fun j => by rw [r1 j, f k1 (by omega)])]
      exact hR _ _ _ hr
    · rw [nS_no o] at hn
      exact hn υ1 nF_0 b
  · rw [oS_n w] at hy
    exact hy τ rfl h (fun _ _ _ => rfl) hr
theorem third {a b v : Nat} {w : Int32} (ha : a ≤ 100) (hb : b ≤ 100) (hw : w = 100 - nI a - nI b) (hv : v < 100000) : (nI v < w ↔ v < 100 - a - b) ∧ (nI v ≤ w ↔ v < 101 - a - b) := by
  have e1 : (nI v).toInt = v := nI_toInt (by omega)
  have e2 : (nI a).toInt = a := nI_toInt (by omega)
  have e3 : (nI b).toInt = b := nI_toInt (by omega)
  have e4 : (100 : Int32).toInt = 100 := rfl
  have e5 : (100 - nI a : Int32).toInt = 100 - a := by rw [t_sub (by rw [e4, e2]; omega) (by rw [e4, e2]; omega), e4, e2]
  have e6 : w.toInt = 100 - a - b := by rw [hw, t_sub (by rw [e5, e3]; omega) (by rw [e5, e3]; omega), e5, e3]
  rw [Int32.lt_iff_toInt_lt, Int32.le_iff_toInt_le, e1, e6]
  omega
theorem c_P {a at' k1 : Nat} {Rl Rm : (Nat → Int32) → (Nat → Nat) → Prop} (h : cgood σ τ B n s) (ha : a + 2 < 11) (hk1 : 27 ≤ k1 ∧ k1 ≤ 54) (hR : ∀ f D v1 v2 v3, Rl f D → Rm (fun j => if j = a + 2 then nI v3 else if j = a + 1 then nI v2 else if j = a then nI v1 else f j) (tUp (tUp (tUp D (at' + a) v1) (at' + a + 1) v2) (at' + a + 2) v3)) (hr : Rl (τ k1) D) (hy : ∀ υ : Sg, (pS B n (at' + a) ((0, s), D)).1.1 = 0 → cgood σ υ B n (pS B n (at' + a) ((0, s), D)).1.2 → (∀ k, k ≠ 1 → k ≠ k1 → υ k = τ k) → Rm (υ k1) (pS B n (at' + a) ((0, s), D)).2 → Q 1 υ) (hn : ∀ υ : Sg, (pS B n (at' + a) ((0, s), D)).1.1 ≠ 0 → cbad σ υ (pS B n (at' + a) ((0, s), D)).1 → Q 0 υ) : wp_X0_readParts k1 11 (nI a) τ Q := by
  unfold wp_X0_readParts
  unfold pS at hy hn
  refine c_N (lo := 0) (hi := 101) h (by omega) (by decide) hk1 (fun v h => bd_0 h) (fun v h => bd_4 (a := 100) h (by decide)) (fun o1 υ1 g1 f1 r1 => br_f (by decide) ?_) (fun o1 υ1 b => br_t rfl (hn υ1 (by show (nS B n _ _ (nS B n 0 101 (nS B n 0 101 _))).1 ≠ 0; rw [nS_no o1, nS_nF, nS_nF]; exact nF_0) (by show cbad σ υ1 (nS B n _ _ (nS B n 0 101 (nS B n 0 101 _))); rw [nS_no o1, nS_nF, nS_nF]; exact b)))
  rw [nI_1]
  refine c_N (lo := 0) (hi := 101) g1 (show a + 1 < 11 by omega) (by decide) hk1 (fun v h => bd_0 h) (fun v h => bd_4 (a := 100) h (by decide)) (fun o2 υ2 g2 f2 r2 => br_f (by decide) ?_) (fun o2 υ2 b => br_t rfl (hn υ2 (by show (nS B n _ _ (nS B n 0 101 (nS B n 0 101 _))).1 ≠ 0; rw [nS_ok o1, nS_no o2, nS_nF]; exact nF_0) (by show cbad σ υ2 (nS B n _ _ (nS B n 0 101 (nS B n 0 101 _))); rw [nS_ok o1, nS_no o2, nS_nF]; exact b)))
  rw [vin_T (show a < 11 by omega) (by decide), vin_T (show a + 1 < 11 by omega) (by decide), cl_I (by omega), cl_I (by omega), true_and, true_and, r2 a, if_neg (by omega), r1 a, if_pos rfl, r2 (a + 1), if_pos rfl, L2, nI_add]
  intro w ew
  rw [nS_ok o1, nV_ok o1, nS_ok o2, nV_ok o2] at hy hn
  have t3 := fun v hv => third (v := v) (show dv B n s ≤ 100 by have := o1.2.2.2; omega) (show dv B n (nx B n s) ≤ 100 by have := o2.2.2.2; omega) ew hv
  refine c_N (lo := 100 - dv B n s - dv B n (nx B n s)) (hi := 101 - dv B n s - dv B n (nx B n s)) g2 (show a + 2 < 11 by omega) (by decide) hk1 (fun v hv => (t3 v hv).1) (fun v hv => (t3 v hv).2) (fun o3 υ3 g3 f3 r3 => ⟨isZ_1, ?_⟩) (fun o3 υ3 b => ⟨isZ_0, ?_⟩)
  · rw [nS_ok o3, nV_ok o3] at hy
    refine hy υ3 rfl g3 (fun k a b => by rw [f3 k a b, f2 k a b, f1 k a b]) ?_
    rw [show υ3 k1 = fun j => if j = a + 2 then nI (dv B n (nx B n (nx B n s))) else if j = a + 1 then nI (dv B n (nx B n s)) else if j = a then nI (dv B n s) else τ k1 j from funext (fun j => by rw [r3 j, r2 j, r1 j])]
    exact hR _ _ _ _ _ hr
  · rw [nS_no o3] at hn
    exact hn υ3 nF_0 b
end
