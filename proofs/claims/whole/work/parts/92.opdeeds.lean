/-! deeds() -/
theorem In.dd {σ υ : Sg} {n : Nat} {B T R R' : Nat → Nat} {m nx m' nx' : Nat} {U U' : Nat → Nat → Nat} {kb : Nat → Nat} {V : Nat → Nat → Nat} (h : In σ n B T R m nx U kb V) (o : ∀ k, ((3 ≤ k ∧ k < 27) ∨ (162 ≤ k ∧ k < 179) ∨ k = 229 ∨ k = 229 ∨ k = 234 ∨ k = 238 ∨ k = 239) → υ k = σ k) (ht : tapeR υ 0 B) (hf : υ 1 5 = υ 233 11 ∧ υ 1 6 = υ 233 12) (hrow : rowOk T R') (hR : rowR (υ 236) R') (hs : sea υ 55 R') (hh : histR υ T m' nx' U') (hT0 : T 0 ≠ 0) (hz : isZ (υ 180 6)) (hl : υ 180 6 = 1 → led υ T R') : In υ 0 B T R' m' nx' U' kb V :=
  ⟨ht, hf, ⟨h.2.2.1.1, hrow, bookR_congr h.2.2.1.1 h.2.2.1.2.2.1 (o 234 (by omega)) (o 3 (by omega)) (fun k _ _ => o k (by omega)), hR, hs⟩, hh, keptR_congr h.2.2.2.2.1 (o 178 (by omega)) (o 239 (by omega)) (o 238 (by omega)) (fun k _ _ => o k (by omega)), ⟨fun z => absurd z hT0, hz, hl⟩, by rw [o 229 (by omega)]; exact h.2.2.2.2.2.2.1, by rw [o 229 (by omega)]; exact h.2.2.2.2.2.2.2⟩
theorem ringR_f {σ τ : Sg} {m nx : Nat} {U : Nat → Nat → Nat} (h : ringR σ m nx U) (f : ∀ k, 63 ≤ k → k < 161 → τ k = σ k) : ringR τ m nx U := by
  obtain ⟨r1, r2, r3, r4, r5⟩ := h
  refine ⟨r1, r2, by rw [f 63 (by omega) (by omega)]; exact r3, by rw [f 63 (by omega) (by omega)]; exact r4, fun i hi => ?_⟩
  have hb : (nx + 12 - m + i) % 12 < 12 := Nat.mod_lt _ (by decide)
  exact sea_congr (r5 i hi) (fun k a b => f k (by omega) (by omega))
theorem op_deeds : Op_deeds Inv := by
  intro σ h
  obtain ⟨n, B, T, R, m, nx, U, kb, V, h⟩ := h
  have h : In σ n B T R m nx U kb V := h
  have hco := h.2.2.1
  obtain ⟨hT, hr, hR, hs, hB, e3, e31, e5, e51, e7, t12, t4, r30⟩ := h.e
  obtain ⟨hring, hu, hro⟩ := hist_to h.2.2.2.1
  have hm12 := hring.2.1
  have htp := h.1
  have hn6 := htp.1
  have t1 : tp σ B n := ⟨htp.1, htp.2.1, fun i hi => ⟨(htp.2.2.2 i hi).1, (htp.2.2.2 i hi).2.1⟩⟩
  have s0 : St B n (ex B n 1 0) := ex_St (Nat.zero_le _)
  have mdl : ∀ (τ : Sg) (v : Int32), (∀ k, k = 233 ∨ k = 240 → τ k = σ k) → (∀ υ : Sg, mst (up τ 233 0 0) υ B n (dsS B n (n + 1) 0 (ex B n 1 0) (fun _ => 0)).2.1 → ((dsS B n (n + 1) 0 (ex B n 1 0) (fun _ => 0)).2.1.1 = 0 → er (υ 241) (dsS B n (n + 1) 0 (ex B n 1 0) (fun _ => 0)).2.2 (dsS B n (n + 1) 0 (ex B n 1 0) (fun _ => 0)).1 ∧ υ 233 15 = nI (dsS B n (n + 1) 0 (ex B n 1 0) (fun _ => 0)).1) → b_X10_deeds_57 (fun r' υ => v = r' ∧ Inv υ) υ) → wp_X10_deeds τ (fun r' υ => v = r' ∧ Inv υ) := by
    intro τ v hτ hK τ1 e1
    have ht1 : mtp τ1 B n := ⟨htp.1, by rw [e1, up_j (by decide), hτ 233 (Or.inl rfl)]; exact htp.2.2.1, fun i hi => ⟨(htp.2.2.2 i hi).1, by rw [e1, up_o (by decide), hτ 240 (Or.inr rfl)]; exact (htp.2.2.2 i hi).2.2⟩⟩
    rw [← e1] at hK
    refine m_btx ht1 (fun τ2 o2 m2 _ τ3 e3 => ?_)
    have m3 : mst τ1 τ3 B n (0, ex B n 1 0) := by
      have o : ∀ j, j ≠ 15 → τ3 233 j = τ2 233 j := fun j hj => by rw [e3, up_j hj]
      obtain ⟨a1, a2, a3, a4⟩ := m2
      exact ⟨⟨fun k b c d => by rw [e3, up_o b]; exact a1.1 k b c d, fun j hj => by rw [o j (by omega)]; exact a1.2 j hj⟩, by rw [o 10 (by decide)]; exact a2, by rw [o 13 (by decide), o 11 (by decide), o 12 (by decide)]; exact a3, by rw [o 13 (by decide), o 11 (by decide), o 12 (by decide)]; exact a4⟩
    refine m_deed (m := 0) (E := fun _ => 0) ht1 m3 (by decide) (fun d hd => by omega) (by rw [e3, up_s]; rfl) (fun υ m4 d4 => ⟨_, m_deedsL ht1 (n + 1) 0 (ex B n 1 0) υ (fun _ => 0) (by omega) s0 (by omega) m4 d4 hK⟩)
  unfold wp_X9_deeds wp_X1_readDeeds
  refine c_rew t1 (fun τ3 f3 f31 c3 f35 f36 τ4 e4 => ?_)
  have g4 : cgood σ τ4 B n (ex B n 1 0) := by
    rw [e4]
    exact cgood.u ⟨⟨fun k hk => f3 k (by omega), f31⟩, c3, f35, f36⟩ (by omega)
  refine ⟨_, c_deedsL hn6 (n + 1) 0 (ex B n 1 0) τ4 (fun _ => 0) (by omega) s0 (by omega) g4 (fun d hd => by omega) (by rw [e4, up_s]; rfl) ⟨fun z τ5 g5 er5 m67 l5 τ6 e6 => br_f (by decide) ?_, fun z τ5 b5 τ6 e6 => br_t rfl ?_⟩⟩
  · -- read
    generalize hrr : dsS B n (n + 1) 0 (ex B n 1 0) (fun _ => 0) = rr at *
    obtain ⟨mm, ⟨⟨x0, sx⟩, E⟩⟩ := rr
    have z : x0 = 0 := z
    subst z
    have er5 : er (τ5 54) E mm := er5
    have m67 : mm ≤ 67 := m67
    have l5 : τ5 53 2 = nI mm := l5
    have o6 : ∀ k, ¬ (k = 1 ∨ (27 ≤ k ∧ k ≤ 54)) → τ6 k = σ k := fun k hk => by rw [e6, up_o (by omega)]; exact g5.1.1 k hk
    have er6 : er (τ6 54) E mm := er_f er5 (by rw [e6, up_o (by decide)])
    have l6 : τ6 53 2 = nI mm := by rw [e6, up_o (by decide)]; exact l5
    have e30 : τ6 3 0 = nI (T 0) := by rw [o6 3 (by omega)]; exact e3
    have r11 : τ6 1 1 = 0 := by rw [e6, up_s]
    have r15 : τ6 1 5 = 0 := by rw [e6, up_j (by decide)]; exact g5.2.2.1
    have r16 : τ6 1 6 = -1 := by rw [e6, up_j (by decide)]; exact g5.2.2.2
    rw [c_has e30 (by omega)]
    refine ⟨fun q => br_f (by decide) ?_, fun q => br_t rfl ?_⟩
    · have hT0 : T 0 ≠ 0 := by omega
      obtain ⟨e, hem, hg, hx⟩ := run_end (T := T) (R := R) (E := E) mm
      have cc6 : ccore τ6 T R := ⟨hT, hr, bookR_congr hT hco.2.2.1 (o6 234 (by omega)) (o6 3 (by omega)) (fun k _ _ => o6 k (by omega)), sea_congr hs (fun k _ _ => o6 k (by omega))⟩
      have ring6 : ringR τ6 m nx U := ringR_f hring (fun k _ _ => o6 k (by omega))
      -- the reference's doing
      have go : ∀ (τ : Sg), (∀ k, k = 233 ∨ k = 234 ∨ k = 236 ∨ k = 237 ∨ k = 240 → τ k = σ k) → (∀ υ : Sg, (∀ k, ¬ (k = 233 ∨ (235 ≤ k ∧ k ≤ 237) ∨ (241 ≤ k ∧ k ≤ 254)) → υ k = τ k) → υ 233 9 = 0 → υ 233 11 = 0 → υ 233 12 = -1 → rowR (υ 236) (Rn R E e) → (e = 0 → undoR υ m U) → (e ≠ 0 → undoR υ (min (m + 1) 12) (hU m U R)) → Inv υ) → wp_X10_deeds τ (fun r' υ => nI e = r' ∧ Inv υ) := by
        intro τ hτ hK
        refine mdl τ (nI e) (fun k hk => hτ k (by omega)) (fun υ m5 dm => ?_)
        obtain ⟨d5, d15⟩ := dm rfl
        have d5 : er (υ 241) E mm := d5
        have d15 : υ 233 15 = nI mm := d15
        obtain ⟨g13, g11, g12⟩ := m5.2.2.1 rfl
        intro υ1 u1
        have ou : ∀ k, k ≠ 233 → k ≠ 235 → k ≠ 241 → υ1 k = τ k := fun k a b c => by rw [u1, up_o a, m5.1.1 k a b c, up_o a]
        have oj : ∀ j, j ≠ 9 → υ1 233 j = υ 233 j := fun j hj => by rw [u1, up_j hj]
        refine br_f (by rw [oj 13 (by decide), g13]; decide) ?_
        have e50 : υ1 234 0 = nI (T 0) := by rw [ou 234 (by decide) (by decide) (by decide), hτ 234 (by omega)]; exact e5
        rw [m_has e50 (by omega), br_T q, br_F (by decide)]
        have hR1 : rowR (υ1 236) R := by rw [ou 236 (by decide) (by decide) (by decide), hτ 236 (by omega)]; exact hR
        have hu1 : undoR υ1 m U := ⟨by rw [oj 5 (by decide), m5.1.2 5 (by omega), up_j (by decide), hτ 233 (by omega)]; exact hu.1, fun i hi => by rw [ou 237 (by decide) (by decide) (by decide), hτ 237 (by omega)]; exact hu.2 i hi⟩
        refine m_prep hm12 hu1 hR1 (fun υ2 v1 v2 v3 v4 v5 => ?_)
        have mc2 : mcore υ2 T R := ⟨hT, hr, by rw [v1 234 (by decide), ou 234 (by decide) (by decide) (by decide), hτ 234 (by omega)]; exact hB, by rw [v1 236 (by decide)]; exact hR1⟩
        refine ⟨_, m_run mc2 (er_f d5 (by rw [v1 241 (by decide), u1, up_o (by decide)])) (by rw [v2 15 (by decide) (by decide), oj 15 (by decide)]; exact d15) m67 hem hg hx (fun υ3 w1 w2 => ?_) e 0 υ2 (by omega) (CF.rf υ2) mc2.2.2.2⟩
        have b9 : υ3 233 9 = 0 := by rw [w1.2 9 (by omega) (by omega), v2 9 (by decide) (by decide), u1, up_s]
        have b11 : υ3 233 11 = 0 := by rw [w1.2 11 (by omega) (by omega), v2 11 (by decide) (by decide), oj 11 (by decide), g11]
        have b12 : υ3 233 12 = -1 := by rw [w1.2 12 (by omega) (by omega), v2 12 (by decide) (by decide), oj 12 (by decide), g12]
        have o3 : ∀ k, ¬ (k = 233 ∨ (235 ≤ k ∧ k ≤ 237) ∨ (241 ≤ k ∧ k ≤ 254)) → υ3 k = τ k := fun k hk => by rw [w1.1 k (by omega), v1 k (by simp; omega), ou k (by omega) (by omega) (by omega)]
        have u3 : undoR υ3 (min (m + 1) 12) (hU m U R) := ⟨by rw [w1.2 5 (by omega) (by omega)]; exact v3.1, fun i hi => by rw [w1.1 237 (by omega)]; exact v3.2 i hi⟩
        unfold b_X10_deeds_108 b_X10_deeds_118
        by_cases y : e = 0
        · refine br_t (by rw [y]; rfl) (m_forg hm12 u3 (by rw [w1.2 17 (by omega) (by omega)]; exact v4) (fun z k hk => by rw [w1.1 242 (by omega)]; exact v5 z k hk) (fun υ4 x1 x2 x3 => ⟨rfl, hK υ4 (fun k hk => ?_) ?_ ?_ ?_ ?_ (fun _ => x3) (fun z => absurd y z)⟩))
          · rw [x1 k (by simp; omega), o3 k hk]
          · rw [x2 9 (by decide)]; exact b9
          · rw [x2 11 (by decide)]; exact b11
          · rw [x2 12 (by decide)]; exact b12
          · rw [x1 236 (by decide)]; exact w2
        · refine br_f (nI_ne0 (by omega) (by omega)) ?_
          unfold wp_X10_forgetIf
          exact br_t rfl ⟨rfl, hK υ3 o3 b9 b11 b12 w2 (fun z => absurd z y) (fun _ => u3)⟩
      by_cases y : e = 0
      · have fin : wp_X10_deeds τ6 (fun r' υ => nI e = r' ∧ Inv υ) := by
          refine go τ6 (fun k hk => o6 k (by omega)) (fun υ a1 a2 a3 a4 a5 a6 _ => ?_)
          rw [y] at a5
          have o : ∀ k, ¬ (k = 1 ∨ (27 ≤ k ∧ k ≤ 54) ∨ k = 233 ∨ (235 ≤ k ∧ k ≤ 237) ∨ (241 ≤ k ∧ k ≤ 254)) → υ k = σ k := fun k hk => by rw [a1 k (by omega), o6 k (by omega)]
          refine (h.dd (fun k hk => o k (by omega)) ⟨by omega, ?_, ?_, fun i hi => by omega⟩ ⟨?_, ?_⟩ hr a5 (sea_congr hs (fun k _ _ => o k (by omega))) (hist_of (ringR_f hring (fun k _ _ => o k (by omega))) (a6 y) hro) hT0 ?_ (fun w => ?_)).inv
          · rw [a1 1 (by omega), r11]; rfl
          · rw [a2]; rfl
          · rw [a1 1 (by omega), r15, a3]
          · rw [a1 1 (by omega), r16, a4]
          · rw [o 180 (by omega)]; exact h.2.2.2.2.2.1.2.1
          · rw [o 180 (by omega)] at w
            exact led_congr hT (h.2.2.2.2.2.1.2.2 w) (fun k _ _ => o k (by omega))
        refine ⟨1, ⟨fun _ => ?_, fun w => ?_⟩⟩
        · rw [y] at fin; exact fin
        · rw [l6] at w
          have hmm : 0 < mm := by
            apply Classical.byContradiction
            intro w2
            exact w (nI_le (b := 0) (by omega) (by decide))
          refine c_dCode (d := 0) cc6 er6 hmm m67 (fun gg => ?_) (fun gg c hc => br_t hc ?_)
          · rw [y] at hx
            rcases hx with w2 | w2
            · omega
            · exact absurd gg w2
          · rw [y] at fin; exact fin
      · refine ⟨e - 1 + 1 + 1, br_f ?_ ?_⟩
        · rw [l6]; exact nI_ge (a := 0) (by omega) (by omega)
        · refine c_dCode (d := 0) cc6 er6 (by omega) m67 (fun gg => br_f (by decide) (br_t rfl ?_)) (fun gg => absurd (hg 0 (by omega)) gg)
          refine c_rem ring6 cc6.2.2.2 r30 (row4 hr) (fun τ7 f7 f71 f72 f73 => ?_)
          have cc7 : ccore τ7 T R := ⟨hT, hr, bookR_congr hT cc6.2.2.1 (f7 234 (by omega)) (f7 3 (by omega)) (fun k _ _ => f7 k (by omega)), sea_congr cc6.2.2.2 (fun k _ _ => f7 k (by omega))⟩
          unfold b_X9_deeds_58
          refine c_carry (d := 0) cc7 (er_f er6 (f7 54 (by omega))) (by omega) m67 (hg 0 (by omega)) (fun τ8 f8 s8 v ev => ?_)
          rw [ev]
          refine c_run (τ1 := τ7) cc6 er6 l6 m67 hem hg hx (fun k hk => f7 k (by omega)) (fun τ9 f9 s9 => ?_) (e - 1) 1 τ8 (by omega) (by decide) f8 s8
          refine go τ9 (fun k hk => by rw [f9 k (by omega), f7 k (by omega), o6 k (by omega)]) (fun υ a1 a2 a3 a4 a5 _ a7 => ?_)
          have o : ∀ k, ¬ (k = 1 ∨ (27 ≤ k ∧ k ≤ 160) ∨ k = 180 ∨ k = 233 ∨ (235 ≤ k ∧ k ≤ 237) ∨ (241 ≤ k ∧ k ≤ 254)) → υ k = σ k := fun k hk => by rw [a1 k (by omega), f9 k (by omega), f7 k (by omega), o6 k (by omega)]
          have z6 : υ 180 6 = 0 := by rw [a1 180 (by omega), f9 180 (by omega), f72]
          refine (h.dd (R' := Rn R E e) (m' := min (m + 1) 12) (nx' := hN nx) (U' := hU m U R) (fun k hk => o k (by omega)) ⟨by omega, ?_, ?_, fun i hi => by omega⟩ ⟨?_, ?_⟩ (Rn_ok hT hr er6 hem hg e (Nat.le_refl _)) a5 (sea_congr s9 (fun k _ _ => a1 k (by omega))) (hist_of (ringR_f f73 (fun k _ _ => by rw [a1 k (by omega), f9 k (by omega)])) (a7 y) (hU_ok hm12 hro hr)) hT0 (by rw [z6]; exact isZ_0) (fun w => by rw [z6] at w; exact absurd w (by decide))).inv
          · rw [a1 1 (by omega), f9 1 (by omega), f7 1 (by omega), r11]; rfl
          · rw [a2]; rfl
          · rw [a1 1 (by omega), f9 1 (by omega), f7 1 (by omega), r15, a3]
          · rw [a1 1 (by omega), f9 1 (by omega), f7 1 (by omega), r16, a4]
    · -- no BOOK
      refine mdl τ6 (-1) (fun k hk => o6 k (by omega)) (fun υ m5 dm => ?_)
      obtain ⟨g13, g11, g12⟩ := m5.2.2.1 rfl
      intro υ1 u1
      have oυ : ∀ k, k ≠ 233 → k ≠ 235 → k ≠ 241 → υ1 k = τ6 k := fun k c1 c2 c3 => by rw [u1, up_o c1, m5.1.1 k c1 c2 c3, up_o c1]
      refine br_f (by rw [u1, up_j (by decide), g13]; decide) ?_
      have e50 : υ1 234 0 = nI (T 0) := by rw [oυ 234 (by decide) (by decide) (by decide), o6 234 (by omega)]; exact e5
      rw [m_has e50 (by omega), br_F q, br_T rfl]
      refine ⟨rfl, (h.tp (n' := 0) (B' := B) (fun k hk => ?_) ?_ ⟨by omega, ?_, ?_, fun i hi => by omega⟩ ⟨?_, ?_⟩).inv⟩
      · unfold Kp at hk
        rw [oυ k (by omega) (by omega) (by omega), o6 k (by omega)]
      · rw [u1, up_j (by decide), m5.1.2 5 (by omega), up_j (by decide), o6 233 (by omega)]
      · rw [oυ 1 (by decide) (by decide) (by decide), r11]; rfl
      · rw [u1, up_s]; rfl
      · rw [oυ 1 (by decide) (by decide) (by decide), r15, u1, up_j (by decide), g11]
      · rw [oυ 1 (by decide) (by decide) (by decide), r16, u1, up_j (by decide), g12]
  · -- a FAULT
    generalize hrr : dsS B n (n + 1) 0 (ex B n 1 0) (fun _ => 0) = rr at *
    have o6 : ∀ k, ¬ (k = 1 ∨ (27 ≤ k ∧ k ≤ 54)) → τ6 k = σ k := fun k hk => by rw [e6, up_o (by omega)]; exact b5.1.1 k hk
    refine mdl τ6 (-1) (fun k hk => o6 k (by omega)) (fun υ m5 dm => ?_)
    obtain ⟨g13, g11, g12⟩ := m5.2.2.2 z
    intro υ1 u1
    refine br_t (by rw [u1, up_j (by decide)]; exact g13) ⟨rfl, ?_⟩
    have oυ : ∀ k, k ≠ 233 → k ≠ 235 → k ≠ 241 → υ1 k = τ6 k := fun k c1 c2 c3 => by rw [u1, up_o c1, m5.1.1 k c1 c2 c3, up_o c1]
    refine (h.tp (n' := 0) (B' := B) (fun k hk => ?_) ?_ ⟨by omega, ?_, ?_, fun i hi => by omega⟩ ⟨?_, ?_⟩).inv
    · unfold Kp at hk
      rw [oυ k (by omega) (by omega) (by omega), o6 k (by omega)]
    · rw [u1, up_j (by decide), m5.1.2 5 (by omega), up_j (by decide), o6 233 (by omega)]
    · rw [oυ 1 (by decide) (by decide) (by decide), e6, up_s]; rfl
    · rw [u1, up_s]; rfl
    · rw [oυ 1 (by decide) (by decide) (by decide), e6, up_j (by decide), b5.2.1, u1, up_j (by decide), g11]
    · rw [oυ 1 (by decide) (by decide) (by decide), e6, up_j (by decide), b5.2.2, u1, up_j (by decide), g12]
