/-! THE BOOK, the reference's reading -/
def md (τ : Sg) (D : Nat → Nat) : Prop := ∀ k, k < 106 → τ 235 k = nI (D k)
theorem md_u {τ : Sg} {D : Nat → Nat} {a v : Nat} (h : md τ D) : md (up τ 235 a (nI v)) (tUp D a v) := fun k hk => by
  rw [up_r]
  unfold tUp
  by_cases q : k = a
  · rw [if_pos q, if_pos q]
  · rw [if_neg q, if_neg q]; exact h k hk
theorem md_k {τ υ : Sg} {D : Nat → Nat} (h : md τ D) (m : mk2 τ υ) : md υ D := fun k hk => by rw [m.1 235 (by decide)]; exact h k hk
section
variable {σ τ : Sg} {B D : Nat → Nat} {n : Nat} {p : Nat × Nat} {K : Sg → Prop}
def Mres (σ : Sg) (B : Nat → Nat) (n : Nat) (K : Sg → Prop) (q : (Nat × Nat) × (Nat → Nat)) : Prop := ∀ υ : Sg, mst σ υ B n q.1 → (q.1.1 = 0 → md υ q.2) → K υ
theorem m_nx {Q : Int32 → Sg → Prop} (ht : mtp σ B n) (h : mst σ τ B n p) (hK : ∀ υ v, mst σ υ B n p → mk2 τ υ → (p.1 = 0 → υ 233 10 = nI p.2) → Q v υ) : wp_X10_next τ Q := by
  obtain ⟨rd, r1, r2, r3⟩ := h.2.1
  have hsn := ex_le (B := B) (k := 1) r1
  refine m_nxt (h.tp ht) r2 r1 (fun υ v m _ _ => ?_)
  by_cases q : p.1 = 0
  · obtain ⟨f, s⟩ := p
    have q : f = 0 := q
    subst q
    have r3 : ex B n 1 rd = s := r3 rfl
    rw [r3] at m
    exact hK υ v (h.g m (by omega) (by rw [← r3]; exact St_ex (ex_St r1))) m.k (fun _ => m.2.2)
  · exact hK υ v (h.b q m hsn) m.k (fun z => absurd z q)
theorem m_rClub {s : Nat} (ht : mtp σ B n) (h : mst σ τ B n (0, nx B n s)) (hd : md τ D) (hD : dOk D) (hs : s ≤ n) (hr : τ 233 10 = nI (s + wl 0)) (hK : Mres σ B n K (ic (D 0 = 12) ((3, s), D) (clubS B n (0, nx B n s) D))) : wp_X10_readClub τ K := by
  have b0 := hD.1.1
  have h6 := ht.1
  unfold wp_X10_readClub
  intro v ev
  rw [hd 0 (by omega)] at ev
  rw [ev, L12, br_iff (nI_eq (by omega) (by decide))]
  refine ⟨fun q => ?_, fun q => ?_⟩
  · rw [ic_t q] at hK
    refine m_X h rfl (by decide) ?_ (fun υ m k => hK υ m (fun z => absurd z (by show ¬ (3 : Nat) = 0; decide)))
    rw [hr, show wl 0 = 4 from rfl, L4, pk_sub (by omega)]
    congr 1
  · rw [ic_f q] at hK
    have i1 : (2 : Int32) + 3 * nI (D 0) = nI (2 + 3 * D 0) := by rw [L2, L3, pk_mul, nI_add]
    rw [i1, nI_1, L2, nI_add, vin_T (show 2 + 3 * D 0 < 106 by omega) (by decide), vin_T (show 2 + 3 * D 0 + 1 < 106 by omega) (by decide), vin_T (show 2 + 3 * D 0 + 2 < 106 by omega) (by decide), cl_I (by omega), cl_I (by omega), cl_I (by omega)]
    refine m_N (lo := 0) (hi := 10000) ht h (fun v hv => bx_0 (a := 9999) hv (by decide)) (fun υ1 m1 k1 => ⟨trivial, fun τ1 e1 => ?_⟩)
    refine m_N (lo := 0) (hi := 10000) ht (show mst σ τ1 B n _ by rw [e1]; exact m1.u (Or.inl rfl)) (fun v hv => bx_0 (a := 9999) hv (by decide)) (fun υ2 m2 k2 => ⟨trivial, fun τ2 e2 => ?_⟩)
    refine m_N (lo := 0) (hi := 100000) ht (show mst σ τ2 B n _ by rw [e2]; exact m2.u (Or.inl rfl)) (fun v hv => bx_0 (a := 99999) hv (by decide)) (fun υ3 m3 k3 => ⟨trivial, fun τ3 e3 τ4 e4 => ?_⟩)
    refine hK τ4 (by rw [e4, e3]; exact (m3.u (Or.inl rfl)).u (Or.inl rfl)) (fun z => ?_)
    obtain ⟨z2, -⟩ := nS_p z
    obtain ⟨z1, -⟩ := nS_p z2
    have d1 : md τ1 (tUp D (2 + 3 * D 0) (nV B n 0 10000 (0, nx B n s))) := by rw [e1]; exact md_u (md_k hd k1)
    have d2 : md τ2 (tUp (tUp D (2 + 3 * D 0) (nV B n 0 10000 (0, nx B n s))) (2 + 3 * D 0 + 1) (nV B n 0 10000 (nS B n 0 10000 (0, nx B n s)))) := by rw [e2]; exact md_u (md_k d1 k2)
    have d3 : md τ3 (tUp (tUp (tUp D (2 + 3 * D 0) (nV B n 0 10000 (0, nx B n s))) (2 + 3 * D 0 + 1) (nV B n 0 10000 (nS B n 0 10000 (0, nx B n s)))) (2 + 3 * D 0 + 2) (nV B n 0 100000 (nS B n 0 10000 (nS B n 0 10000 (0, nx B n s))))) := by rw [e3]; exact md_u (md_k d2 k3)
    have e0 : τ3 235 0 + 1 = nI (D 0 + 1) := by
      rw [d3 0 (by omega), nI_1]
      simp (disch := omega) only [tUp_n]
    rw [e0] at e4
    rw [e4]
    exact md_u d3
theorem m_opt {i at' lo hi : Nat} {x3 x4 : Int32} (ht : mtp σ B n) (h : mst σ τ B n p) (hd : p.1 = 0 → md τ D) (hi14 : i < 14) (ha : at' < 106) (hx : ∀ v, v < 100000 → (x3 ≤ nI v ∧ nI v ≤ x4 ↔ lo ≤ v ∧ v < hi)) (hK : Mres σ B n K (oS B n i at' lo hi (p, D))) : wp_X10_readOption i (nI at') x3 x4 τ K := by
  unfold wp_X10_readOption
  refine m_W ht h hi14 (fun w υ m k _ => br_f (by decide) ?_) (fun w υ m k _ => br_t rfl ?_)
  · have e : oS B n i at' lo hi (p, D) = (nS B n lo hi (wS B n i p), tUp D at' (nV B n lo hi (wS B n i p))) := ic_t w
    rw [e] at hK
    refine m_N ht m hx (fun υ1 m1 k1 => ?_)
    rw [vin_T ha (by decide), cl_I (by omega), true_and]
    intro τ1 e1
    refine hK τ1 (by rw [e1]; exact m1.u (Or.inl rfl)) (fun _ => ?_)
    rw [e1]
    exact md_u (md_k (md_k (hd w.1) k) k1)
  · rw [show oS B n i at' lo hi (p, D) = (p, D) from ic_f w] at hK
    exact hK υ m (fun z => md_k (hd z) k)
theorem m_parts {at' : Nat} (ht : mtp σ B n) (h : mst σ τ B n p) (hd : p.1 = 0 → md τ D) (ha : at' + 2 < 106) (hK : Mres σ B n K (pS B n at' (p, D))) : wp_X10_readParts (nI at') τ K := by
  unfold wp_X10_readParts
  unfold pS at hK
  rw [nI_1, L2, nI_add, vin_T (show at' < 106 by omega) (by decide), vin_T (show at' + 1 < 106 by omega) (by decide), vin_T ha (by decide), cl_I (by omega), cl_I (by omega), cl_I (by omega)]
  simp only [true_and]
  refine m_N (lo := 0) (hi := 101) ht h (fun v hv => bx_0 (a := 100) hv (by decide)) (fun υ1 m1 k1 τ1 e1 => ?_)
  refine m_N (lo := 0) (hi := 101) ht (show mst σ τ1 B n _ by rw [e1]; exact m1.u (Or.inl rfl)) (fun v hv => bx_0 (a := 100) hv (by decide)) (fun υ2 m2 k2 τ2 e2 => ?_)
  have m2' : mst σ τ2 B n (nS B n 0 101 (nS B n 0 101 p)) := by rw [e2]; exact m2.u (Or.inl rfl)
  have dd : (nS B n 0 101 (nS B n 0 101 p)).1 = 0 → md τ2 (tUp (tUp D at' (nV B n 0 101 p)) (at' + 1) (nV B n 0 101 (nS B n 0 101 p))) ∧ nV B n 0 101 p ≤ 100 ∧ nV B n 0 101 (nS B n 0 101 p) ≤ 100 := fun z => by
    obtain ⟨z2, o2, -, v2⟩ := nS_p z
    obtain ⟨z1, o1, -, v1⟩ := nS_p z2
    have d1 : md τ1 (tUp D at' (nV B n 0 101 p)) := by rw [e1]; exact md_u (md_k (hd z1) k1)
    refine ⟨by rw [e2]; exact md_u (md_k d1 k2), ?_, ?_⟩
    · rw [v1]; have := o1.2.2.2; omega
    · rw [v2]; have := o2.2.2.2; omega
  have hK : Mres σ B n K (nS B n (100 - nV B n 0 101 p - nV B n 0 101 (nS B n 0 101 p)) (101 - nV B n 0 101 p - nV B n 0 101 (nS B n 0 101 p)) (nS B n 0 101 (nS B n 0 101 p)), tUp (tUp (tUp D at' (nV B n 0 101 p)) (at' + 1) (nV B n 0 101 (nS B n 0 101 p))) (at' + 2) (nV B n (100 - nV B n 0 101 p - nV B n 0 101 (nS B n 0 101 p)) (101 - nV B n 0 101 p - nV B n 0 101 (nS B n 0 101 p)) (nS B n 0 101 (nS B n 0 101 p)))) := hK
  generalize nS B n 0 101 (nS B n 0 101 p) = p2 at *
  generalize nV B n 0 101 p = va at *
  generalize nV B n 0 101 (nS B n 0 101 p) = vb at *
  refine m_nx ht m2' (fun υ3 v3 m3 k3 rr w ew => ?_)
  refine m_N (lo := 0) (hi := 101) ht m3 (fun v hv => bx_0 (a := 100) hv (by decide)) (fun υ4 m4 k4 τ4 e4 => ?_)
  have m4' : mst σ τ4 B n (nS B n 0 101 p2) := by rw [e4]; exact m4.u (Or.inl rfl)
  by_cases q : p2.1 = 0
  · obtain ⟨f, s3⟩ := p2
    have q : f = 0 := q
    subst q
    obtain ⟨d2, ba, bb⟩ := dd rfl
    by_cases o : nOk B n 0 101 s3
    · rw [nS_ok o] at m4'
      rw [nV_ok o] at e4
      have g4 := (m4'.2.2.1 rfl).1
      have d4 : md τ4 (tUp (tUp (tUp D at' va) (at' + 1) vb) (at' + 2) (dv B n s3)) := by rw [e4]; exact md_u (md_k (md_k d2 k3) k4)
      have hv := o.2.2.2
      refine br_f (by rw [g4]; decide) ?_
      rw [d4 at' (by omega), d4 (at' + 1) (by omega), d4 (at' + 2) (by omega), tUp_s, tUp_n (show at' + 1 ≠ at' + 2 by omega), tUp_s, tUp_n (show at' ≠ at' + 2 by omega), tUp_n (show at' ≠ at' + 1 by omega), tUp_s, nI_add, nI_add, L100, br_iff (nI_eq (by omega) (by decide))]
      refine ⟨fun z => ?_, fun z => ?_⟩
      · have o' : nOk B n (100 - va - vb) (101 - va - vb) s3 := ⟨o.1, o.2.1, by omega, by omega⟩
        rw [nS_ok o', nV_ok o'] at hK
        exact hK τ4 m4' (fun _ => d4)
      · have o' : ¬ nOk B n (100 - va - vb) (101 - va - vb) s3 := fun y => by have := y.2.2; omega
        rw [nS_no o', show nF B n s3 = 2 from if_pos o.1] at hK
        have hw : w = nI s3 := by rw [ew]; exact rr rfl
        exact m_X m4' rfl (by decide) hw (fun υ m k => hK υ m (fun y => absurd y (by show ¬ (2 : Nat) = 0; decide)))
    · rw [nS_no o] at m4'
      have o' : ¬ nOk B n (100 - va - vb) (101 - va - vb) s3 := fun y => o ⟨y.1, y.2.1, by omega, by have := y.2.2.2; omega⟩
      rw [nS_no o'] at hK
      exact br_t (m4'.2.2.2 nF_0).1 (hK τ4 m4' (fun y => absurd y nF_0))
  · rw [nS_bad q] at m4' hK
    exact br_t (m4'.2.2.2 q).1 (hK τ4 m4' (fun y => absurd y q))
theorem m_147 {at' : Nat} {q : (Nat × Nat) × (Nat → Nat)} (ht : mtp σ B n) (h : mst σ τ B n q.1) (hd : q.1.1 = 0 → md τ q.2) (ha : at' + 11 ≤ 106) (h38 : 38 ≤ at') (hK : Mres σ B n K (tl2 B n at' q)) : b_X10_readCup_147 K (nI at') τ := by
  unfold b_X10_readCup_147
  unfold tl2 at hK
  rw [L9, L10, nI_add, nI_add]
  refine m_opt (D := q.2) (lo := 1) (hi := 7) ht h hd (by decide) (by omega) (fun v hv => ?_) (fun υ1 m1 d1 => ?_)
  · rw [L1, L6, nI_leI (by decide) (by omega), nI_leI (by omega) (by decide)]; omega
  · refine m_opt (D := (oS B n 6 (at' + 9) 1 7 (q.1, q.2)).2) (lo := 0) (hi := 3) ht m1 d1 (by decide) (by omega) (fun v hv => bx_0 (a := 2) hv (by decide)) (fun υ2 m2 d2 τ3 e3 => ?_)
    refine hK τ3 (by rw [e3]; exact m2.u (Or.inl rfl)) (fun z => ?_)
    have d2 := d2 z
    rw [d2 1 (by omega), nI_1] at e3
    rw [e3]
    exact md_u d2
theorem m_rCup {s : Nat} (ht : mtp σ B n) (h : mst σ τ B n (0, nx B n s)) (hd : md τ D) (hD : dOk D) (hs : s ≤ n) (hr : τ 233 10 = nI (s + wl 1)) (hK : Mres σ B n K (ic (D 1 = 4) ((3, s), D) (cupS B n (0, nx B n s) D))) : wp_X10_readCup τ K := by
  have b1 := hD.1.2.1
  have h6 := ht.1
  unfold wp_X10_readCup
  intro v ev
  rw [hd 1 (by omega)] at ev
  rw [ev, L4, br_iff (nI_eq (by omega) (by decide))]
  refine ⟨fun q => ?_, fun q => ?_⟩
  · rw [ic_t q] at hK
    refine m_X h rfl (by decide) ?_ (fun υ m k => hK υ m (fun z => absurd z (by show ¬ (3 : Nat) = 0; decide)))
    rw [hr, show wl 1 = 3 from rfl, L3, pk_sub (by omega)]
    congr 1
  · rw [ic_f q] at hK
    unfold cupS at hK
    intro w ew
    have ew : w = nI (38 + 17 * D 1) := by rw [ew, L38, L17, pk_mul, nI_add]
    rw [ew]
    have ha : 38 + 17 * D 1 + 17 ≤ 106 := by omega
    have h38 : 38 ≤ 38 + 17 * D 1 := by omega
    generalize 38 + 17 * D 1 = at' at *
    rw [← L4, L5, L9, L3, L0, L6, nI_add, nI_add, nI_add, nI_add, Nat.add_zero, show nI at' + 4 = nI (at' + 4) by rw [L4, nI_add], nI_add, vin_T (show at' + 5 < 106 by omega) (by decide), vin_T (show at' + 9 < 106 by omega) (by decide), cl_I (by omega), cl_I (by omega)]
    refine ⟨trivial, fun τ1 e1 => ⟨trivial, fun τ2 e2 => ?_⟩⟩
    have e1 : τ1 = up τ 235 (at' + 5) (nI 1) := e1
    have m2 : mst σ τ2 B n (0, nx B n s) := by rw [e2, e1]; exact (h.u (Or.inl rfl)).u (Or.inl rfl)
    have d2 : md τ2 (tUp (tUp D (at' + 5) 1) (at' + 9) 6) := by rw [e2, e1]; exact md_u (md_u hd)
    refine m_parts ht m2 (fun _ => d2) (by omega) (fun υ1 n1 d3 => ?_)
    unfold tl0 at hK
    generalize pS B n at' ((0, nx B n s), tUp (tUp D (at' + 5) 1) (at' + 9) 6) = q1 at *
    refine m_opt (D := q1.2) (lo := 0) (hi := 3) ht n1 d3 (by decide) (by omega) (fun v hv => bx_0 (a := 2) hv (by decide)) (fun υ2 n2 d4 => ?_)
    have hq : ((q1.1, q1.2) : (Nat × Nat) × (Nat → Nat)) = q1 := rfl
    rw [hq] at n2 d4
    generalize oS B n 2 (at' + 3) 0 3 q1 = q2 at *
    refine m_opt (D := q2.2) (lo := 0) (hi := 100000) ht n2 d4 (by decide) (by omega) (fun v hv => bx_0 (a := 99999) hv (by decide)) (fun υ3 n3 d5 => ?_)
    have hq : ((q2.1, q2.2) : (Nat × Nat) × (Nat → Nat)) = q2 := rfl
    rw [hq] at n3 d5
    generalize oS B n 3 (at' + 4) 0 100000 q2 = q3 at *
    refine m_opt (D := q3.2) (lo := 0) (hi := 4) ht n3 d5 (by decide) (by omega) (fun v hv => bx_0 (a := 3) hv (by decide)) (fun υ4 n4 d6 => ?_)
    have hq : ((q3.1, q3.2) : (Nat × Nat) × (Nat → Nat)) = q3 := rfl
    rw [hq] at n4 d6
    generalize oS B n 4 (at' + 5) 0 4 q3 = q4 at *
    unfold tl1 at hK
    refine m_W ht n4 (by decide) (fun w υ5 n5 k5 _ => br_f (by decide) ?_) (fun w υ5 n5 k5 _ => br_t rfl ?_)
    · rw [ic_t w] at hK
      refine m_parts (D := q4.2) ht n5 (fun _ => md_k (d6 w.1) k5) (by omega) (fun υ6 n6 d7 => m_147 ht n6 d7 (by omega) h38 hK)
    · rw [ic_f w] at hK
      have cp : ∀ d j υ, j + d = 3 → mst σ υ B n q4.1 → (q4.1.1 = 0 → ∀ k, k < 106 → υ 235 k = nI (if at' + 6 ≤ k ∧ k < at' + 6 + j then q4.2 (k - 6) else q4.2 k)) → b_X10_readCup_115 K (d + 1) (nI at') (nI j) υ := by
        intro d
        induction d with
        | zero =>
          intro j υ hj hm hdd
          have : j = 3 := by omega
          subst this
          refine br_t (by decide) (m_147 (q := (q4.1, cp3 q4.2 at')) ht hm (fun z k hk => ?_) (by omega) h38 hK)
          rw [hdd z k hk]
          congr 1
          show _ = cp3 q4.2 at' k
          unfold cp3 tUp
          by_cases c2 : k = at' + 6 + 2
          · rw [if_pos c2, if_pos (by omega), c2]
            congr 1
          · rw [if_neg c2]
            by_cases c1 : k = at' + 6 + 1
            · rw [if_pos c1, if_pos (by omega), c1]
              congr 1
            · rw [if_neg c1]
              by_cases c0 : k = at' + 6
              · rw [if_pos c0, if_pos (by omega), c0]
                congr 1
              · rw [if_neg c0, if_neg (by omega)]
        | succ d ih =>
          intro j υ hj hm hdd
          refine br_f (nI_ge (b := 3) (by omega) (by decide)) ?_
          rw [show nI at' + 0 + nI j = nI (at' + j) by rw [Int32.add_zero, nI_add], show nI at' + 6 + nI j = nI (at' + 6 + j) by rw [L6, nI_add, nI_add], vin_T (show at' + j < 106 by omega) (by decide), vin_T (show at' + 6 + j < 106 by omega) (by decide), cl_I (by omega), cl_I (by omega), true_and, true_and]
          intro υ1 e1 v ev
          rw [ev, nI_1]
          refine ih (j + 1) υ1 (by omega) (by rw [e1]; exact hm.u (Or.inl rfl)) (fun z k hk => ?_)
          rw [e1, up_r]
          by_cases c : k = at' + 6 + j
          · rw [if_pos c, if_pos (by omega), hdd z _ (by omega), if_neg (by omega), show k - 6 = at' + j by omega]
          · rw [if_neg c, hdd z k hk]
            congr 1
            by_cases c' : at' + 6 ≤ k ∧ k < at' + 6 + j
            · rw [if_pos c', if_pos (by omega)]
            · rw [if_neg c', if_neg (by omega)]
      exact ⟨_, cp 3 0 υ5 (by omega) n5 (fun z k hk => by rw [if_neg (by omega)]; exact md_k (d6 z) k5 k hk)⟩
theorem m_rWay (ht : mtp σ B n) (h : mst σ τ B n p) (hp : p.1 = 0) (hd : md τ D) (hD : dOk D) (hK : Mres σ B n K (wayS B n p D)) : wp_X10_readWay τ K := by
  have b1 := hD.1.2.1
  unfold wp_X10_readWay
  rw [hd 1 (by omega)]
  refine m_N (lo := 0) (hi := D 1) ht h (fun v hv => ?_) (fun υ1 m1 k1 => ?_)
  · rw [Int32.le_iff_toInt_le, Int32.le_iff_toInt_le, show (1 : Int32) = nI 1 from rfl, pk_sub_toInt (by omega) (by decide), nI_toInt (by omega), t_0]
    omega
  refine m_N (lo := 0) (hi := 6) ht m1 (fun v hv => bx_0 (a := 5) hv (by decide)) (fun υ2 m2 k2 => ?_)
  refine m_N (lo := 0) (hi := 4) ht m2 (fun v hv => bx_0 (a := 3) hv (by decide)) (fun υ3 m3 k3 => ?_)
  unfold wayS at hK
  by_cases q : (nS B n 0 4 (nS B n 0 6 (nS B n 0 (D 1) p))).1 = 0
  · obtain ⟨z2, o3, -, v3⟩ := nS_p q
    obtain ⟨z1, o2, -, v2⟩ := nS_p z2
    obtain ⟨z0, o1, -, v1⟩ := nS_p z1
    have g3 := (m3.2.2.1 q).1
    have a1 := o1.2.2.2
    have a2 := o2.2.2.2
    refine br_f (by rw [g3]; decide) ?_
    rw [← v1] at a1
    rw [← v2] at a2
    generalize nV B n 0 (D 1) p = va at *
    generalize nV B n 0 6 (nS B n 0 (D 1) p) = vb at *
    rw [show 38 + 17 * nI va + 11 + nI vb = nI (38 + 17 * va + 11 + vb) by rw [L38, L17, L11, pk_mul, nI_add, nI_add, nI_add], vin_T (show 38 + 17 * va + 11 + vb < 106 by omega) (by decide), cl_I (by omega), true_and]
    intro τ4 e4
    refine hK τ4 (by rw [e4]; exact m3.u (Or.inl rfl)) (fun _ => ?_)
    rw [e4]
    exact md_u (md_k (md_k (md_k hd k1) k2) k3)
  · exact br_t (m3.2.2.2 q).1 (hK υ3 m3 (fun z => absurd z q))
theorem m_rLine {s : Nat} (ht : mtp σ B n) (h : mst σ τ B n (0, s)) (hs : s ≤ n) (hd : md τ D) (hD : dOk D) (hK : Mres σ B n K (lineS B n s D)) : wp_X10_readLine τ K := by
  unfold lineS at hK
  unfold wp_X10_readLine
  refine m_W ht h (by decide) (fun w υ m k r => br_f (by decide) ?_) (fun w υ m k r => br_t rfl ?_)
  · rw [ic_t w.2] at hK
    rw [wS_t w.2] at m
    exact m_rClub ht m (md_k hd k) hD hs r hK
  · have w : ¬ wm B n 0 s := fun z => w ⟨rfl, z⟩
    rw [ic_f w] at hK
    have hd := md_k hd k
    refine m_W ht m (by decide) (fun w1 υ1 m1 k1 r1 => br_f (by decide) ?_) (fun w1 υ1 m1 k1 r1 => br_t rfl ?_)
    · rw [ic_t w1.2] at hK
      rw [wS_t w1.2] at m1
      exact m_rCup ht m1 (md_k hd k1) hD hs r1 hK
    · have w1 : ¬ wm B n 1 s := fun z => w1 ⟨rfl, z⟩
      rw [ic_f w1] at hK
      have hd := md_k hd k1
      refine m_W ht m1 (by decide) (fun w2 υ2 m2 k2 r2 => br_f (by decide) ?_) (fun w2 υ2 m2 k2 r2 => br_t rfl ?_)
      · rw [ic_t w2.2] at hK
        rw [wS_t w2.2] at m2
        exact m_rWay ht m2 rfl (md_k hd k2) hD hK
      · have w2 : ¬ wm B n 8 s := fun z => w2 ⟨rfl, z⟩
        rw [ic_f w2] at hK
        exact m_X m2 rfl (by decide) (r2 rfl) (fun υ3 m3 k3 => hK υ3 m3 (fun z => absurd z (by show ¬ (1 : Nat) = 0; decide)))
end
