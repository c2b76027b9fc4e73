/-! THE LEDGER: a round's pool is handed out; a cup's pools -/
section
variable {σ : Sg} {T R : Nat → Nat} {c r : Nat} {K : Sg → Prop}
theorem vI2 : vp_in (2 : Int32) 7 := (vin_I (n := 2) (by decide)).mpr (by decide)
theorem vI3 : vp_in (3 : Int32) 7 := (vin_I (n := 3) (by decide)).mpr (by decide)
theorem vI5 : vp_in (5 : Int32) 7 := (vin_I (n := 5) (by decide)).mpr (by decide)
theorem closed_de (hr : rowOk T R) {t : Nat} (ht : t < R 0) (ho : isO R t c r) (hcd : cd R c r = 1) : de R t := (hr.2.2.1 t ht).2.2.2.2.2.2.2.2 (by rw [ho.1, ho.2]; exact hcd)
/-- t ties through -/
def HO (σ τ : Sg) (T R G0 : Nat → Nat) (c r t : Nat) : Prop := (∀ k, ¬ (182 ≤ k ∧ k < 194) → τ k = σ k) ∧ (∀ b, b < 12 → ∀ j, j ≠ 7 → τ (182 + b) j = σ (182 + b) j) ∧ ∀ b, b < 12 → τ (182 + b) 7 = nI (G0 b + su (gG T R b c r) t)
theorem HO_no {τ : Sg} {G0 : Nat → Nat} {t : Nat} (h : HO σ τ T R G0 c r t) (ho : ¬ isO R t c r) : HO σ τ T R G0 c r (t + 1) := by
  refine ⟨h.1, h.2.1, fun b hb => ?_⟩
  rw [h.2.2 b hb]
  congr 2
  show _ = su (gG T R b c r) t + gG T R b c r t
  rw [show gG T R b c r t = 0 from if_neg ho, Nat.add_zero]
theorem HO_yes {τ υ : Sg} {G0 : Nat → Nat} {t : Nat} (h : HO σ τ T R G0 c r t) (ho : isO R t c r) (f1 : ∀ k, ¬ (182 ≤ k ∧ k < 194) → υ k = τ k) (f2 : ∀ b, b < 12 → ∀ j, j ≠ 7 → υ (182 + b) j = τ (182 + b) j) (f3 : ∀ b, b < 12 → υ (182 + b) 7 = τ (182 + b) 7 + nI ((if wnr R t = b ∧ tC T c (11 + r) < 2 then pE T R c r else 0) + (if lsr R t = b ∧ (tC T c (11 + r) = 1 ∨ tC T c (11 + r) = 2) then pE T R c r else 0))) : HO σ υ T R G0 c r (t + 1) := by
  refine ⟨fun k hk => by rw [f1 k hk]; exact h.1 k hk, fun b hb j hj => by rw [f2 b hb j hj]; exact h.2.1 b hb j hj, fun b hb => ?_⟩
  rw [f3 b hb, h.2.2 b hb, nI_add]
  congr 1
  rw [Nat.add_assoc]
  congr 1
  show _ = su (gG T R b c r) t + gG T R b c r t
  rw [show gG T R b c r t = _ from if_pos ho]
theorem c_hand {G0 : Nat → Nat} (h : ccore σ T R) (hc : c < T 1) (hr6 : r < 6) (hcd : cd R c r = 1) (e5 : σ (200 + (6 * c + r)) 5 = nI (tC T c (11 + r))) (e2 : σ (200 + (6 * c + r)) 2 = nI (pE T R c r)) (e3 : σ (200 + (6 * c + r)) 3 = nI (pM T R c r)) (hG : ∀ b, b < 12 → σ (182 + b) 7 = nI (G0 b)) (hK : ∀ τ : Sg, (∀ k, ¬ (182 ≤ k ∧ k < 194) → k ≠ 226 → τ k = σ k) → (∀ b, b < 12 → ∀ j, j ≠ 7 → τ (182 + b) j = σ (182 + b) j) → (∀ j, j ≠ 4 → τ 226 j = σ 226 j) → τ 226 4 = σ 226 4 + nI (pE T R c r * pM T R c r) → (∀ b, b < 12 → τ (182 + b) 7 = nI (G0 b + su (gG T R b c r) (R 0))) → K τ) : wp_X3_handOut (nI c) (nI r) (200 + (6 * c + r)) 7 σ K := by
  have h12 := h.1.1
  have h4 := h.1.2.1
  have h30 := h.2.1.1
  have hw := (h.1.2.2.2.2 c hc).2.2.2.2.2.2.2.2 r hr6
  have main : ∀ d t τ, t + d = R 0 → HO σ τ T R G0 c r t → b_X3_handOut_3 (nI c) (nI r) (200 + (6 * c + r)) 7 K (d + 1) (nI t) τ := by
    intro d
    induction d with
    | zero =>
      intro t τ ht ho
      have : t = R 0 := by omega
      subst this
      obtain ⟨f1, f2, f3⟩ := ho
      refine br_t ?_ ⟨vI2, vI3, fun υ e => ?_⟩
      · rw [f1 55 (by omega), show σ 55 0 = nI (R 0) from h.2.2.2.1]; exact nI_le (Nat.le_refl _) (by omega)
      · rw [f1 (200 + (6 * c + r)) (by omega), e2, e3, pk_mul] at e
        have e : υ = ad τ 226 4 (nI (pE T R c r * pM T R c r)) := e
        refine hK υ (fun k a b => by rw [e, ad_ok b]; exact f1 k a) (fun b hb j hj => by rw [e, ad_ok (by omega)]; exact f2 b hb j hj) (fun j hj => by rw [e, ad_o (by omega), f1 226 (by omega)]) (by rw [e, ad_s, f1 226 (by omega)]) (fun b hb => by rw [e, ad_ok (by omega)]; exact f3 b hb)
    | succ d ih =>
      intro t τ ht ho
      have f1 := ho.1
      have hc2 : ccore τ T R := ⟨h.1, h.2.1, bookR_congr h.1 h.2.2.1 (f1 234 (by omega)) (f1 3 (by omega)) (fun k _ _ => f1 k (by omega)), sea_congr h.2.2.2 (fun k _ _ => f1 k (by omega))⟩
      have htr : t < R 0 := by omega
      have e5' : τ (200 + (6 * c + r)) 5 = nI (tC T c (11 + r)) := by rw [f1 _ (by omega)]; exact e5
      have e2' : τ (200 + (6 * c + r)) 2 = nI (pE T R c r) := by rw [f1 _ (by omega)]; exact e2
      refine br_f ?_ ?_
      · rw [f1 55 (by omega), show σ 55 0 = nI (R 0) from h.2.2.2.1]; exact nI_ge (by omega) (by omega)
      · rw [c_isOf hc2.2.2.2 h.2.1 htr (by omega) (by omega)]
        by_cases q : isO R t c r
        · have hd := closed_de h.2.1 htr q hcd
          have hwl := wnr_lt h.2.1 htr hd
          rw [br_T q, br_F (by decide), c_dec hc2.2.2.2 h.2.1 htr, br_T hd, br_F (by decide), e5']
          have nxt : ∀ υ : Sg, HO σ υ T R G0 c r (t + 1) → ∀ v : Int32, v = nI t + 1 → b_X3_handOut_3 (nI c) (nI r) (200 + (6 * c + r)) 7 K (d + 1) v υ := by
            intro υ hu v ev
            rw [ev, nI_1]
            exact ih (t + 1) υ (by omega) hu
          have lose : ∀ υ : Sg, (∀ k, ¬ (182 ≤ k ∧ k < 194) → υ k = τ k) → HO σ (ad υ (182 + lsr R t) 7 (nI (pE T R c r))) T R G0 c r (t + 1) → b_X3_handOut_84 (nI c) (nI r) (200 + (6 * c + r)) 7 (fun y5' τ => b_X3_handOut_3 (nI c) (nI r) (200 + (6 * c + r)) 7 K (d + 1) y5' τ) K (nI t) υ := by
            intro υ hu ho'
            unfold b_X3_handOut_84
            rw [c_los (sea_congr hc2.2.2.2 (fun k _ _ => hu k (by omega))) h.2.1 htr, br_T hd, vin_T (by omega) (by decide), cl_I (by omega), true_and, hu (200 + (6 * c + r)) (by omega), e2']
            refine ⟨vI2, fun υ' e => nxt υ' ?_⟩
            have e : υ' = ad υ (182 + lsr R t) 7 (nI (pE T R c r)) := e
            rw [e]; exact ho'
          have win : ∀ υ' : Sg, υ' = ad τ (182 + wnr R t) 7 (nI (pE T R c r)) → b_X3_handOut_68 (nI c) (nI r) (200 + (6 * c + r)) 7 (fun y5' τ => b_X3_handOut_3 (nI c) (nI r) (200 + (6 * c + r)) 7 K (d + 1) y5' τ) K (nI t) υ' → b_X3_handOut_47 (nI c) (nI r) (200 + (6 * c + r)) 7 (fun y5' τ => b_X3_handOut_3 (nI c) (nI r) (200 + (6 * c + r)) 7 K (d + 1) y5' τ) K (nI t) τ := by
            intro υ' eu hn
            unfold b_X3_handOut_47
            rw [c_win hc2.2.2.2 h.2.1 htr, br_T hd, vin_T (by omega) (by decide), cl_I (by omega), true_and, e2']
            refine ⟨vI2, fun υ e => ?_⟩
            have e : υ = ad τ (182 + wnr R t) 7 (nI (pE T R c r)) := e
            rw [e, ← eu]; exact hn
          have hw4 : tC T c (11 + r) = 0 ∨ tC T c (11 + r) = 1 ∨ tC T c (11 + r) = 2 ∨ tC T c (11 + r) = 3 := by omega
          refine ⟨vI5, ?_⟩
          rcases hw4 with w | w | w | w
          · rw [w]
            refine br_t rfl (win _ rfl ?_)
            unfold b_X3_handOut_68
            rw [show (ad τ (182 + wnr R t) 7 (nI (pE T R c r))) (200 + (6 * c + r)) 5 = nI 0 by rw [ad_ok (by omega), e5', w]]
            refine ⟨vI5, br_f (by decide) ⟨vI5, br_f (by decide) (nxt _ (HO_yes ho q (fun k hk => ad_ok (by omega)) (fun b hb j hj => ad_o (by omega)) (fun b hb => ?_)))⟩⟩
            rw [ad_c, nI_if]
            congr 2
            by_cases z : wnr R t = b
            · rw [if_pos z, if_pos (by omega), if_neg (by omega)]; rfl
            · rw [if_neg z, if_neg (by omega), if_neg (by omega)]
          · rw [w]
            refine br_f (by decide) ⟨vI5, br_t rfl (win _ rfl ?_)⟩
            unfold b_X3_handOut_68
            rw [show (ad τ (182 + wnr R t) 7 (nI (pE T R c r))) (200 + (6 * c + r)) 5 = nI 1 by rw [ad_ok (by omega), e5', w]]
            refine ⟨vI5, br_f (by decide) ⟨vI5, br_t rfl (lose _ (fun k hk => ad_ok (by omega)) (HO_yes ho q (fun k hk => by rw [ad_ok (by omega), ad_ok (by omega)]) (fun b hb j hj => by rw [ad_o (by omega), ad_o (by omega)]) (fun b hb => ?_)))⟩⟩
            rw [ad_c, ad_c, nI_if, nI_if, Int32.add_assoc, nI_add]
            congr 3
            · by_cases z : wnr R t = b
              · rw [if_pos z, if_pos (by omega)]
              · rw [if_neg z, if_neg (by omega)]
            · by_cases z : lsr R t = b
              · rw [if_pos z, if_pos (by omega)]
              · rw [if_neg z, if_neg (by omega)]
          · rw [w]
            refine br_f (by decide) ⟨vI5, br_f (by decide) ?_⟩
            unfold b_X3_handOut_68
            rw [e5', w]
            refine ⟨vI5, br_t rfl (lose τ (fun k hk => rfl) (HO_yes ho q (fun k hk => ad_ok (by omega)) (fun b hb j hj => ad_o (by omega)) (fun b hb => ?_)))⟩
            rw [ad_c, nI_if]
            congr 2
            by_cases z : lsr R t = b
            · rw [if_pos z, if_neg (by omega), if_pos (by omega)]; omega
            · rw [if_neg z, if_neg (by omega), if_neg (by omega)]
          · rw [w]
            refine br_f (by decide) ⟨vI5, br_f (by decide) ?_⟩
            unfold b_X3_handOut_68
            rw [e5', w]
            refine ⟨vI5, br_f (by decide) ⟨vI5, br_f (by decide) (nxt τ (HO_yes ho q (fun k hk => rfl) (fun b hb j hj => rfl) (fun b hb => ?_)))⟩⟩
            rw [if_neg (by omega), if_neg (by omega)]
            exact (Int32.add_zero _).symm
        · rw [br_F q, br_T rfl]
          intro v ev
          rw [ev, nI_1]
          exact ih (t + 1) τ (by omega) (HO_no ho q)
  exact ⟨_, main (R 0) 0 σ (by omega) ⟨fun _ _ => rfl, fun _ _ _ _ => rfl, hG⟩⟩
/-- what a cup's settling leaves -/
def sFr (σ τ : Sg) (c : Nat) : Prop := LF σ τ ∧ (∀ b, b < 12 → ∀ j, j ≠ 7 → τ (182 + b) j = σ (182 + b) j) ∧ τ 224 = σ 224 ∧ (∀ d, d < 4 → d ≠ c → τ (195 + d) = σ (195 + d)) ∧ (∀ j, j ≠ 0 → τ (195 + c) j = σ (195 + c) j) ∧ (∀ k, k < 24 → ¬ (6 * c ≤ k ∧ k < 6 * c + 6) → τ (200 + k) = σ (200 + k)) ∧ ∀ j, j < 4 → τ 226 j = σ 226 j
/-- r rounds of cup c are settled -/
def sIn (σ τ : Sg) (T R G0 : Nat → Nat) (S0 c r : Nat) : Prop := sFr σ τ c ∧ (∀ s, s < r → ledP τ T R c s) ∧ (∀ s, r ≤ s → s < 6 → τ (200 + (6 * c + s)) = σ (200 + (6 * c + s))) ∧ (∀ b, b < 12 → τ (182 + b) 7 = nI (G0 b + gC T R b c r)) ∧ τ 226 4 = nI (S0 + su (fun s => pE T R c s * pM T R c s) r) ∧ τ 226 5 = σ 226 5 ∧ τ (195 + c) = σ (195 + c)
/-- the step of a round -/
theorem sIn_s {τ υ : Sg} {G0 : Nat → Nat} {S0 : Nat} (hc : c < 4) (hr6 : r < 6) (h : sIn σ τ T R G0 S0 c r) (f1 : ∀ k, ¬ (182 ≤ k ∧ k < 194) → k ≠ 226 → k ≠ 200 + (6 * c + r) → υ k = τ k) (f2 : ∀ b, b < 12 → ∀ j, j ≠ 7 → υ (182 + b) j = τ (182 + b) j) (f3 : ∀ j, j ≠ 4 → υ 226 j = τ 226 j) (hp : ledP υ T R c r) (hg : ∀ b, b < 12 → υ (182 + b) 7 = τ (182 + b) 7 + nI (gR T R b c r (R 0))) (ht : υ 226 4 = τ 226 4 + nI (pE T R c r * pM T R c r)) : sIn σ υ T R G0 S0 c (r + 1) := by
  obtain ⟨⟨a1, a2, a3, a4, a5, a6, a7⟩, b1, b2, b3, b4, b5, b6⟩ := h
  refine ⟨⟨fun k hk => by rw [f1 k (by omega) (by omega) (by omega)]; exact a1 k hk, fun b hb j hj => by rw [f2 b hb j hj]; exact a2 b hb j hj, by rw [f1 224 (by omega) (by omega) (by omega)]; exact a3, fun d hd hn => by rw [f1 _ (by omega) (by omega) (by omega)]; exact a4 d hd hn, fun j hj => by rw [f1 _ (by omega) (by omega) (by omega)]; exact a5 j hj, fun k hk hn => by rw [f1 _ (by omega) (by omega) (by omega)]; exact a6 k hk hn, fun j hj => by rw [f3 j (by omega)]; exact a7 j hj⟩, fun s hs => ?_, fun s h1 h2 => by rw [f1 _ (by omega) (by omega) (by omega)]; exact b2 s (by omega) h2, fun b hb => ?_, ?_, by rw [f3 5 (by omega)]; exact b5, by rw [f1 _ (by omega) (by omega) (by omega)]; exact b6⟩
  · by_cases q : s = r
    · subst q; exact hp
    · have := b1 s (by omega)
      unfold ledP at this ⊢
      rw [f1 (200 + (6 * c + s)) (by omega) (by omega) (by omega)]
      exact this
  · rw [hg b hb, b3 b hb, nI_add, Nat.add_assoc]; rfl
  · rw [ht, b4, nI_add, Nat.add_assoc]; rfl
theorem c_settle {G0 : Nat → Nat} {S0 S5 : Nat} (h : ccore σ T R) (hc : c < T 1) (hp : ∀ k, 6 * c ≤ k → k < 6 * c + 6 → lgP σ T R (R 0) 0 (R 0) k) (hG : ∀ b, b < 12 → σ (182 + b) 7 = nI (G0 b)) (h4 : σ 226 4 = nI S0) (h5 : σ 226 5 = nI S5) (hK : ∀ τ : Sg, sFr σ τ c → (∀ s, s < 6 → ledP τ T R c s) → (∀ b, b < 12 → τ (182 + b) 7 = nI (G0 b + gC T R b c 6)) → τ 226 4 = nI (S0 + su (fun s => pE T R c s * pM T R c s) 6) → τ 226 5 = nI (S5 + pOn T R c 6) → τ (195 + c) 0 = nI (pOn T R c 6) → K τ) : wp_X3_settlePools (nI c) σ K := by
  have h12 := h.1.1
  have hc4 := h.1.2.1
  have h30 := h.2.1.1
  have main : ∀ d r τ, r + d = 6 → sIn σ τ T R G0 S0 c r → b_X3_settlePools_6 (nI c) K (d + 1) (nI (pOn T R c r)) (nI r) τ := by
    intro d
    induction d with
    | zero =>
      intro r τ hr hs
      have : r = 6 := by omega
      subst this
      obtain ⟨⟨a1, a2, a3, a4, a5, a6, a7⟩, b1, b2, b3, b4, b5, b6⟩ := hs
      refine br_t (by decide) ?_
      rw [vin_T (by omega) (by decide), cl_I (by omega), true_and]
      intro τ1 e1 τ2 e2
      have e1 : τ1 = up τ (195 + c) 0 (nI (pOn T R c 6)) := e1
      have e2 : τ2 = ad τ1 226 5 (nI (pOn T R c 6)) := e2
      have o : ∀ k, k ≠ 195 + c → k ≠ 226 → τ2 k = τ k := fun k k1 k2 => by rw [e2, ad_ok k2, e1, up_o k1]
      have o6 : ∀ j, j ≠ 5 → τ2 226 j = τ 226 j := fun j hj => by rw [e2, ad_o (by omega), e1, up_o (by omega)]
      refine hK τ2 ⟨fun k hk => by rw [o k (by omega) (by omega)]; exact a1 k hk, fun b hb j hj => by rw [o _ (by omega) (by omega)]; exact a2 b hb j hj, by rw [o 224 (by omega) (by omega)]; exact a3, fun d hd hn => by rw [o _ (by omega) (by omega)]; exact a4 d hd hn, fun j hj => by rw [e2, ad_ok (by omega), e1, up_j hj]; exact a5 j hj, fun k hk hn => by rw [o _ (by omega) (by omega)]; exact a6 k hk hn, fun j hj => by rw [o6 j (by omega)]; exact a7 j hj⟩ (fun s hs => ?_) (fun b hb => by rw [o _ (by omega) (by omega)]; exact b3 b hb) (by rw [o6 4 (by omega)]; exact b4) ?_ ?_
      · have := b1 s hs
        unfold ledP at this ⊢
        rw [o (200 + (6 * c + s)) (by omega) (by omega)]
        exact this
      · rw [e2, ad_s, e1, up_o (by omega), b5, h5, nI_add]
      · rw [e2, ad_ok (by omega), e1, up_s]
    | succ d ih =>
      intro r τ hr hs
      have hr6 : r < 6 := by omega
      have hs0 := hs
      obtain ⟨⟨a1, a2, a3, a4, a5, a6, a7⟩, b1, b2, b3, b4, b5, b6⟩ := hs
      have hck : ccore τ T R := h.l a1
      obtain ⟨p0, p6, p2, p3, p4⟩ := hp (6 * c + r) (by omega) (by omega)
      have erow := b2 r (Nat.le_refl _) hr6
      rw [← erow] at p0 p6 p2 p3 p4
      rw [nK_nOf h.2.1 hr6 _ (Nat.le_refl _)] at p6
      have hway : τ (23 + c) r = nI (tC T c (11 + r)) := (hck.2.2.1.2.2.2.2 c hc).2 r hr6
      have hw3 := (h.1.2.2.2.2 c hc).2.2.2.2.2.2.2.2 r hr6
      have hcdle : cd R c r ≤ 1 := by have := h.2.1.2.2.2 (6 * c + r) (by omega); rw [show 391 + (6 * c + r) = 391 + 6 * c + r by omega] at this; exact this
      have bT := b_Tot h.1 h.2.1 c hr6
      have bM := b_many (T := T) h.2.1 c r
      have bN := b_nOf (T := T) h.2.1 c r
      refine br_f (nI_ge (b := 6) (by omega) (by decide)) ?_
      have ek : nI c * 6 + nI r = nI (6 * c + r) := by rw [L6, pk_mul, nI_add, Nat.mul_comm]
      rw [ek, vin_T (by omega) (by decide), cl_I (by omega), true_and]
      intro τ1 e1 τ2 e2
      rw [vin_T (by omega) (by decide), cl_I (by omega), true_and, vin_T (by omega) (by decide), cl_I (by omega), true_and]
      intro τ3 e3
      have e1 : τ1 = up τ (200 + (6 * c + r)) 1 (nI (pOn T R c r)) := e1
      have e2 : τ2 = ad τ1 (200 + (6 * c + r)) 0 (nI (pOn T R c r)) := e2
      have e3 : τ3 = up τ2 (200 + (6 * c + r)) 5 (nI (tC T c (11 + r))) := by
        rw [e3, show τ2 (22 + 1 + c) r = nI (tC T c (11 + r)) by rw [e2, ad_ok (by omega), e1, up_o (by omega)]; exact hway]
      have o3 : ∀ k, k ≠ 200 + (6 * c + r) → τ3 k = τ k := fun k hk => by rw [e3, up_o hk, e2, ad_ok hk, e1, up_o hk]
      have v0 : τ3 (200 + (6 * c + r)) 0 = nI (pTot T R c r) := by
        rw [e3, up_j (by decide), e2, ad_s, e1, up_j (by decide), p0, nI_add]; rfl
      have v1 : τ3 (200 + (6 * c + r)) 1 = nI (pOn T R c r) := by rw [e3, up_j (by decide), e2, ad_o (by omega), e1, up_s]
      have v5 : τ3 (200 + (6 * c + r)) 5 = nI (tC T c (11 + r)) := by rw [e3, up_s]
      have vj : ∀ j, j ≠ 0 → j ≠ 1 → j ≠ 5 → τ3 (200 + (6 * c + r)) j = τ (200 + (6 * c + r)) j := fun j j0 j1 j5 => by rw [e3, up_j j5, e2, ad_o (by omega), e1, up_j j1]
      have hck3 : ccore τ3 T R := hck.l (fun k hk => o3 k (by omega))
      rw [c_closed hck3.2.2.2 (by omega) hr6]
      by_cases q : cd R c r = 1
      · rw [br_T q, br_F (by decide)]
        intro τ4 e4
        have e4 : τ4 = up τ3 (200 + (6 * c + r)) 4 1 := e4
        have w5 : τ4 (200 + (6 * c + r)) 5 = nI (tC T c (11 + r)) := by rw [e4, up_j (by decide)]; exact v5
        have w6 : τ4 (200 + (6 * c + r)) 6 = nI (nOf R c r (R 0)) := by rw [e4, up_j (by decide), vj 6 (by decide) (by decide) (by decide)]; exact p6
        have tk : ∀ K2 : Int32 → Sg → Prop, K2 (nI (pMany T R c r)) τ4 → wp_X3_takersBy (nI (tC T c (11 + r))) (nI (nOf R c r (R 0))) τ4 K2 := by
          intro K2 hK2
          unfold wp_X3_takersBy
          rw [L3, L1, br_iff (nI_eq (by omega) (by decide)), br_iff (nI_eq (by omega) (by decide))]
          unfold pMany at hK2
          by_cases z3 : tC T c (11 + r) = 3
          · rw [if_pos z3] at hK2; rw [br_T z3]; exact hK2
          · rw [if_neg z3] at hK2; rw [br_F z3]
            by_cases z1 : tC T c (11 + r) = 1
            · rw [if_pos z1] at hK2; rw [br_T z1, L2, pk_mul]; exact hK2
            · rw [if_neg z1] at hK2; rw [br_F z1]; exact hK2
        rw [show 199 + 1 + (6 * c + r) = 200 + (6 * c + r) from rfl, w5, w6]
        refine tk _ ?_
        intro τ5 e5
        have x3 : τ5 (200 + (6 * c + r)) 3 = nI (pMany T R c r) := by rw [e5, up_s]
        have x0 : τ5 (200 + (6 * c + r)) 0 = nI (pTot T R c r) := by rw [e5, up_j (by decide), e4, up_j (by decide)]; exact v0
        rw [x3, x0]
        have hEM : pE T R c r = pEach T R c r (pTot T R c r) ∧ pM T R c r = pMany T R c r := ⟨if_pos q, if_pos q⟩
        have hle : pE T R c r * pM T R c r ≤ pTot T R c r := by rw [hEM.1, hEM.2]; exact p_each c r _
        have hOn : pTot T R c r - pE T R c r * pM T R c r = pOn T R c (r + 1) := by
          rw [hEM.1, hEM.2]
          show _ = if cd R c r = 1 then _ else 0
          rw [if_pos q]; rfl
        have fin : b_X3_settlePools_112 (nI c) (fun y4' y5' τ => b_X3_settlePools_6 (nI c) K (d + 1) y4' y5' τ) K (nI r) (200 + (6 * c + r)) (nI (pE T R c r)) 2 (200 + (6 * c + r)) τ5 := by
          unfold b_X3_settlePools_112
          refine ⟨vI2, fun τ6 e6 => ?_⟩
          have e6 : τ6 = up τ5 (200 + (6 * c + r)) 2 (nI (pE T R c r)) := e6
          have o6 : ∀ k, k ≠ 200 + (6 * c + r) → τ6 k = τ k := fun k hk => by rw [e6, up_o hk, e5, up_o hk, e4, up_o hk]; exact o3 k hk
          have y0 : τ6 (200 + (6 * c + r)) 0 = nI (pTot T R c r) := by rw [e6, up_j (by decide)]; exact x0
          have y1 : τ6 (200 + (6 * c + r)) 1 = nI (pOn T R c r) := by rw [e6, up_j (by decide), e5, up_j (by decide), e4, up_j (by decide)]; exact v1
          have y2 : τ6 (200 + (6 * c + r)) 2 = nI (pE T R c r) := by rw [e6, up_s]
          have y3 : τ6 (200 + (6 * c + r)) 3 = nI (pM T R c r) := by rw [e6, up_j (by decide), x3, hEM.2]
          have y4 : τ6 (200 + (6 * c + r)) 4 = nI (cd R c r) := by rw [e6, up_j (by decide), e5, up_j (by decide), e4, up_s, q]; rfl
          have y5 : τ6 (200 + (6 * c + r)) 5 = nI (tC T c (11 + r)) := by rw [e6, up_j (by decide), e5, up_j (by decide)]; exact w5
          have y6 : τ6 (200 + (6 * c + r)) 6 = nI (nOf R c r (R 0)) := by rw [e6, up_j (by decide), e5, up_j (by decide)]; exact w6
          have hck6 : ccore τ6 T R := hck.l (fun k hk => o6 k (by omega))
          refine c_hand (G0 := fun b => G0 b + gC T R b c r) hck6 hc hr6 q y5 y2 y3 (fun b hb => by rw [o6 _ (by omega)]; exact b3 b hb) (fun υ g1 g2 g3 g4 g5 => ?_)
          have gk : υ (200 + (6 * c + r)) = τ6 (200 + (6 * c + r)) := g1 _ (by omega) (by omega)
          intro v ev w ew
          rw [gk, y0, y2, y3, pk_mul, pk_sub hle, hOn] at ev
          rw [ev, ew, nI_1]
          refine ih (r + 1) υ (by omega) (sIn_s (by omega) hr6 hs0 (fun k k1 k2 k3 => by rw [g1 k k1 k2]; exact o6 k k3) (fun b hb j hj => by rw [g2 b hb j hj, o6 _ (by omega)]) (fun j hj => by rw [g3 j hj, o6 _ (by omega)]) ?_ (fun b hb => ?_) (by rw [g4, o6 _ (by omega)]))
          · unfold ledP
            rw [gk]
            exact ⟨y0, y1, y2, y3, y4, y5, y6⟩
          · rw [g5 b hb, b3 b hb, nI_add]
            unfold gR
            rw [if_pos q]
        rw [L0, br_iff (nI_leI (by omega) (by decide)), nI_eq (by omega) (by decide)]
        by_cases z : pMany T R c r = 0
        · rw [br_T (by omega)]
          have : pE T R c r = 0 := by rw [hEM.1]; unfold pEach; rw [if_pos z]
          rw [this] at fin
          exact fin
        · rw [br_F (by omega)]
          refine ⟨z, ?_⟩
          rw [pk_div (by omega) (by omega) (by omega), show pTot T R c r / pMany T R c r = pE T R c r by rw [hEM.1]; unfold pEach; rw [if_neg z]]
          exact fin
      · rw [br_F q, br_T rfl]
        have hE : pE T R c r = 0 := if_neg q
        have hM : pM T R c r = 0 := if_neg q
        have hOn : pOn T R c (r + 1) = 0 := if_neg q
        intro v ev
        rw [ev, nI_1, show (0 : Int32) = nI (pOn T R c (r + 1)) by rw [hOn]; rfl]
        refine ih (r + 1) τ3 (by omega) (sIn_s (by omega) hr6 hs0 (fun k _ _ k3 => o3 k k3) (fun b hb j hj => by rw [o3 _ (by omega)]) (fun j hj => by rw [o3 _ (by omega)]) ⟨v0, v1, ?_, ?_, ?_, v5, ?_⟩ (fun b hb => ?_) ?_)
        · rw [vj 2 (by decide) (by decide) (by decide), p2, hE]; rfl
        · rw [vj 3 (by decide) (by decide) (by decide), p3, hM]; rfl
        · rw [vj 4 (by decide) (by decide) (by decide), p4, show cd R c r = 0 by omega]; rfl
        · rw [vj 6 (by decide) (by decide) (by decide)]; exact p6
        · rw [o3 _ (by omega), show gR T R b c r (R 0) = 0 from if_neg q]
          exact (Int32.add_zero _).symm
        · rw [o3 _ (by omega), hE, Nat.zero_mul]
          exact (Int32.add_zero _).symm
  exact ⟨_, main 6 0 σ (by omega) ⟨⟨LF.rf σ, fun _ _ _ _ => rfl, rfl, fun _ _ _ => rfl, fun _ _ => rfl, fun _ _ _ => rfl, fun _ _ => rfl⟩, fun s hs => by omega, fun s _ _ => rfl, fun b hb => by rw [hG b hb]; rfl, h4, rfl, rfl⟩⟩
end
