/-! THE SPLIT OF A GATE -/
def xEh (w dh dg v : Nat) : Nat := if w = 0 then min dh v else if w = 1 then min dh (v - min dg v) else if v < dh + dg then v - v * dg / (dh + dg) else dh
def xEg (w dh dg v : Nat) : Nat := if w = 0 then min dg (v - min dh v) else if w = 1 then min dg v else if v < dh + dg then v * dg / (dh + dg) else dg
theorem minI {a b : Nat} (ha : a < 2 ^ 31) (hb : b < 2 ^ 31) : (if nI a < nI b then nI a else nI b) = nI (min a b) := by
  by_cases h : a < b
  · rw [if_pos (nI_lt h hb), Nat.min_eq_left (by omega)]
  · rw [if_neg (nI_nlt (by omega) ha), Nat.min_eq_right (by omega)]
theorem minN {a b : Nat} [Decidable (a < b)] : (if a < b then nI a else nI b) = nI (min a b) := by
  by_cases h : a < b
  · rw [if_pos h, Nat.min_eq_left (by omega)]
  · rw [if_neg h, Nat.min_eq_right (by omega)]
theorem tsubI {a b : Nat} (ha : a < 2 ^ 30) (hb : b < 2 ^ 30) : (if (0 : Int32) < nI a - nI b then nI a - nI b else (0 : Int32)) = nI (a - b) := by
  have h0 : (0 : Int32).toInt = 0 := rfl
  by_cases h : b < a
  · rw [if_pos (by rw [Int32.lt_iff_toInt_lt, pk_sub_toInt ha hb, h0]; omega), pk_sub (by omega)]
  · rw [if_neg (by rw [Int32.lt_iff_toInt_lt, pk_sub_toInt ha hb, h0]; omega), show a - b = 0 by omega]
    rfl
theorem q_le {v dg dh : Nat} : v * dg / (dh + dg) ≤ v := by
  rcases Nat.eq_zero_or_pos (dh + dg) with h | h
  · rw [h, Nat.div_zero]; exact Nat.zero_le _
  · apply Nat.div_le_of_le_mul
    rw [Nat.mul_comm (dh + dg) v]
    exact Nat.mul_le_mul_left v (by omega)
theorem xE_le {w dh dg v : Nat} : xEh w dh dg v + xEg w dh dg v ≤ v := by
  unfold xEh xEg
  have := @q_le v dg dh
  repeat' split
  all_goals omega
section
variable {σ : Sg} {K : Sg → Prop}
theorem c_pay {w dh dg v : Nat} (h0 : σ 179 0 = nI dh) (h1 : σ 179 1 = nI dg) (hd : dh ≤ 9999) (hg : dg ≤ 9999) (hv : v < 100000) (hw : w ≤ 2) (hK : ∀ τ : Sg, Fr [179] σ τ → (∀ j, j ≠ 2 → j ≠ 3 → τ 179 j = σ 179 j) → τ 179 2 = nI (xEh w dh dg v) → τ 179 3 = nI (xEg w dh dg v) → K τ) : wp_X8_payExpenses (nI w) (nI v) σ K := by
  have hm : v * dg ≤ 99999 * 9999 := Nat.mul_le_mul (by omega) hg
  have hq := @q_le v dg dh
  unfold wp_X8_payExpenses b_X8_payExpenses_19
  simp (disch := omega) only [L0, L1, L2, L3, L4, L5, L6, L7, L8, L9, L10, L11, L12, L13, L17, L24, L30, L31, L32, L38, L67, L100, L120, L335, L391, L415, L500, L600, L830, L4096, L4564, L4980, L8192, L9999, L99999, L100000, forall_eq, h0, h1, nI_add, nI_leI, nI_ltI, nI_eq, up_s, up_j, up_o, minN, pk_mul]
  have same : dh + dg ≤ v → K (up (up σ 179 2 (nI dh)) 179 3 (nI dg)) := fun q => by
    refine hK _ (Fr.rf.up (by decide) |>.up (by decide)) (fun j a b => by rw [up_j b, up_j a]) ?_ ?_
    · rw [up_j (by decide), up_s]; unfold xEh; congr 1; repeat' split
      all_goals omega
    · rw [up_s]; unfold xEg; congr 1; repeat' split
      all_goals omega
  refine ⟨same, fun q => ⟨fun q2 => ⟨fun q3 => ?_, fun q3 => ⟨fun q4 => ?_, fun q4 => ⟨by omega, ?_⟩⟩⟩, fun q2 => by omega⟩⟩
  · refine hK _ (Fr.rf.up (by decide) |>.up (by decide)) (fun j a b => by rw [up_j b, up_j a]) ?_ ?_
    · rw [up_j (by decide), up_s]; unfold xEh; rw [if_pos q3, Nat.min_comm]
    · rw [up_s, pk_sub (by omega)]; unfold xEg; rw [if_pos q3]; congr 1; omega
  · refine hK _ (Fr.rf.up (by decide) |>.up (by decide)) (fun j a b => by rw [up_j a, up_j b]) ?_ ?_
    · rw [up_s, pk_sub (by omega)]; unfold xEh; rw [if_neg q3, if_pos q4]; congr 1; omega
    · rw [up_j (by decide), up_s]; unfold xEg; rw [if_neg q3, if_pos q4, Nat.min_comm]
  · refine hK _ (Fr.rf.up (by decide) |>.up (by decide)) (fun j a b => by rw [up_j a, up_j b]) ?_ ?_
    · rw [up_s, pk_div (by omega) (by omega) (by omega), pk_sub hq]; unfold xEh; rw [if_neg q3, if_neg q4, if_pos (by omega)]
    · rw [up_j (by decide), up_s, pk_div (by omega) (by omega) (by omega)]; unfold xEg; rw [if_neg q3, if_neg q4, if_pos (by omega)]
theorem m_pay {w dh dg v : Nat} (h0 : σ 233 20 = nI v) (hd : dh ≤ 9999) (hg : dg ≤ 9999) (hv : v < 100000) (hw : w ≤ 2) (hK : ∀ τ : Sg, Fr [233] σ τ → (∀ j, j ≠ 21 → j ≠ 22 → τ 233 j = σ 233 j) → τ 233 21 = nI (xEh w dh dg v) → τ 233 22 = nI (xEg w dh dg v) → K τ) : wp_X10_layExpenses (nI w) (nI dh) (nI dg) σ K := by
  have hm : v * dg ≤ 99999 * 9999 := Nat.mul_le_mul (by omega) hg
  have hq := @q_le v dg dh
  have less : ∀ {a b : Nat} {τ : Sg} {K : Int32 → Sg → Prop}, a < 2 ^ 31 → b < 2 ^ 31 → wp_X10_less (nI a) (nI b) τ K = K (nI (min a b)) τ := by
    intro a b τ K ha hb
    unfold wp_X10_less
    by_cases q : b ≤ a
    · rw [br_T (nI_le q ha), Nat.min_eq_right q]
    · rw [br_F (nI_ge (by omega) hb), Nat.min_eq_left (by omega)]
  unfold wp_X10_layExpenses
  simp (disch := omega) only [L0, L1, L2, L3, L4, L5, L6, L7, L8, L9, L10, L11, L12, L13, L17, L24, L30, L31, L32, L38, L67, L100, L120, L335, L391, L415, L500, L600, L830, L4096, L4564, L4980, L8192, L9999, L99999, L100000, forall_eq, h0, nI_add, nI_leI, nI_ltI, nI_eq, up_s, up_j, up_o, less, pk_mul, pk_sub]
  refine ⟨fun q3 => ?_, fun q3 => ⟨fun q4 => ?_, fun q4 => ⟨fun q5 => ?_, fun q5 => ⟨by omega, ?_⟩⟩⟩⟩
  · refine hK _ (Fr.rf.up (by decide) |>.up (by decide)) (fun j a b => by rw [up_j b, up_j a]) ?_ ?_
    · rw [up_j (by decide), up_s]; unfold xEh; rw [if_pos q3]
    · rw [up_s]; unfold xEg; rw [if_pos q3]
  · refine hK _ (Fr.rf.up (by decide) |>.up (by decide)) (fun j a b => by rw [up_j a, up_j b]) ?_ ?_
    · rw [up_s]; unfold xEh; rw [if_neg q3, if_pos q4]
    · rw [up_j (by decide), up_s]; unfold xEg; rw [if_neg q3, if_pos q4]
  · refine hK _ (Fr.rf.up (by decide) |>.up (by decide)) (fun j a b => by rw [up_j b, up_j a]) ?_ ?_
    · rw [up_j (by decide), up_s]; unfold xEh; rw [if_neg q3, if_neg q4, if_neg (by omega)]
    · rw [up_s]; unfold xEg; rw [if_neg q3, if_neg q4, if_neg (by omega)]
  · refine hK _ (Fr.rf.up (by decide) |>.up (by decide)) (fun j a b => by rw [up_j a, up_j b]) ?_ ?_
    · rw [up_s, pk_div (by omega) (by omega) (by omega), pk_sub hq]; unfold xEh; rw [if_neg q3, if_neg q4, if_pos (by omega)]
    · rw [up_j (by decide), up_s, pk_div (by omega) (by omega) (by omega)]; unfold xEg; rw [if_neg q3, if_neg q4, if_pos (by omega)]
end
theorem parts_le {x a b c : Nat} (h : a + b + c = 100) : x * a / 100 + x * b / 100 + x * c / 100 ≤ x := by
  have e : x * a + x * b + x * c = x * 100 := by rw [← Nat.mul_add, ← Nat.mul_add, h]
  omega
theorem part_b {x a : Nat} (hx : x < 100000) (ha : a ≤ 100) : x * a ≤ 99999 * 100 := Nat.mul_le_mul (by omega) ha
/-- shares ahead of the guarantee: parts oh, og, op; what is left goes by o -/
def xLe (oh og op x : Nat) : Nat := x - x * oh / 100 - x * og / 100 - x * op / 100
section
variable {σ : Sg} {K : Sg → Prop}
theorem c_sh51 {k oh og op o x : Nat} (hs : oh + og + op = 100) (h4 : σ 179 4 = nI x) (hx : x < 100000) (hk : k ≠ 179) (ho : σ k 10 = nI o) (ho2 : o ≤ 2) {a b : Int32} (hK : ∀ τ : Sg, Fr [179] σ τ → (∀ j, j ≠ 5 → j ≠ 6 → j ≠ 7 → τ 179 j = σ 179 j) → τ 179 5 = nI (x * oh / 100 + (if o = 0 then xLe oh og op x else 0)) → τ 179 6 = nI (x * og / 100 + (if o = 1 then xLe oh og op x else 0)) → τ 179 7 = nI (x * op / 100 + (if o = 2 then xLe oh og op x else 0)) → K τ) : b_X8_shareRest_51 k 11 a b K (nI oh) (nI og) (nI op) σ := by
  have b1 := part_b (a := oh) hx (by omega)
  have b2 := part_b (a := og) hx (by omega)
  have b3 := part_b (a := op) hx (by omega)
  have hle := parts_le (x := x) hs
  unfold b_X8_shareRest_51
  simp (disch := omega) only [L0, L1, L2, L3, L4, L5, L6, L7, L8, L9, L10, L11, L12, L13, L17, L24, L30, L31, L32, L38, L67, L100, L120, L335, L391, L415, L500, L600, L830, L4096, L4564, L4980, L8192, L9999, L99999, L100000, forall_eq, h4, ho, nI_add, nI_eq, up_s, up_j, up_o, pk_mul, pk_div, pk_sub, vin_T, true_and]
  have fr : ∀ {u1 u2 u3 u4 : Int32} {q : Nat}, Fr [179] σ (up (up (up (up σ 179 5 u1) 179 6 u2) 179 7 u3) 179 q u4) := fun {u1 u2 u3 u4 q} => Fr.rf.up (by decide) |>.up (by decide) |>.up (by decide) |>.up (by decide)
  refine ⟨fun q => ?_, fun q => ⟨fun q2 => ?_, fun q2 => ?_⟩⟩
  · refine hK _ fr (fun j a b c => by rw [up_j a, up_j c, up_j b, up_j a]) ?_ ?_ ?_
    · rw [up_s, if_pos q]; rfl
    · simp (disch := omega) only [up_s, up_j]; rw [if_neg (by omega)]; rfl
    · simp (disch := omega) only [up_s, up_j]; rw [if_neg (by omega)]; rfl
  · refine hK _ fr (fun j a b c => by rw [up_j b, up_j c, up_j b, up_j a]) ?_ ?_ ?_
    · simp (disch := omega) only [up_s, up_j]; rw [if_neg (by omega)]; rfl
    · simp (disch := omega) only [up_s, up_j]; rw [if_pos q2]; rfl
    · simp (disch := omega) only [up_s, up_j]; rw [if_neg (by omega)]; rfl
  · refine hK _ fr (fun j a b c => by rw [up_j c, up_j c, up_j b, up_j a]) ?_ ?_ ?_
    · simp (disch := omega) only [up_s, up_j]; rw [if_neg (by omega)]; rfl
    · simp (disch := omega) only [up_s, up_j]; rw [if_neg (by omega)]; rfl
    · simp (disch := omega) only [up_s, up_j]; rw [if_pos (by omega)]; rfl
theorem c_guar {l a b p : Nat} (h5 : σ 179 5 = nI a) (h6 : σ 179 6 = nI b) (h7 : σ 179 7 = nI p) (hl : l ≤ a + b + p) (hb : a + b + p < 2 ^ 30) (hK : ∀ τ : Sg, Fr [179] σ τ → (∀ j, j < 5 → τ 179 j = σ 179 j) → τ 179 5 = nI (a - min (l - b) a) → τ 179 6 = nI (b + (l - b)) → τ 179 7 = nI (p - (l - b - min (l - b) a)) → τ 179 8 = nI (l - b) → K τ) : wp_X8_guarantee (nI l) σ K := by
  unfold wp_X8_guarantee
  simp (disch := omega) only [forall_eq, h5, h6, h7, tsubI, up_s, up_j, up_o, minI, nI_add, pk_sub]
  refine hK _ (Fr.rf.up (by decide) |>.up (by decide) |>.up (by decide) |>.up (by decide)) (fun j a => by rw [up_j (by omega), up_j (by omega), up_j (by omega), up_j (by omega)]) ?_ ?_ ?_ ?_
  · simp (disch := omega) only [up_s, up_j]; rw [Nat.min_comm]
  · simp (disch := omega) only [up_s, up_j]
  · simp (disch := omega) only [up_s, up_j]; rw [Nat.min_comm]
  · simp (disch := omega) only [up_s, up_j]
end
