def wp_X5_setUsual (k0 n0 : Nat) (σ : Sg) (K : Sg → Prop) : Prop :=
  vp_in (3 : Int32) n0 ∧ (∀ τ3 : Sg, τ3 = up σ k0 3 0 → (vp_in (4 : Int32) n0 ∧ (∀ τ7 : Sg, τ7 = up τ3 k0 4 0 → (vp_in (5 : Int32) n0 ∧ (∀ τ11 : Sg, τ11 = up τ7 k0 5 1 → (vp_in (9 : Int32) n0 ∧ (∀ τ17 : Sg, τ17 = up τ11 k0 9 6 → (vp_in (10 : Int32) n0 ∧ (∀ τ22 : Sg, τ22 = up τ17 k0 10 0 → (K τ22))))))))))
set_option maxRecDepth 20000 in
set_option maxHeartbeats 2000000 in
theorem ev_X5_setUsual (l : Launch) (k0 n0 : Nat) (hk0 : aOk k0 n0) {σ : Sg} {K : Sg → Prop} (h : wp_X5_setUsual k0 n0 σ K) : Ev l yX5_setUsual cX5_setUsual 1 none 0 [.ref k0] σ (qV K) := by
  refine ev_ov (by decide) (Nat.le_of_ble_eq_true rfl) ?_
  show AV l RX5 cX5_setUsual 1 none 0 (qV K) 0 [(0, .ref k0)] [] σ
  refine aw_aload_n (pc := 0) 0 dX5_setUsual_0 rfl ?_
  refine aw_iconst (pc := 1) 3 dX5_setUsual_1 (by decide) ?_
  refine aw_iconst (pc := 2) 0 dX5_setUsual_2 (by decide) ?_
  refine aw_iast (pc := 3) (j := 3) (v := 0) dX5_setUsual_3 hk0.1 hk0.2.1 hk0.2.2 h.1 (by decide) rfl ?_
  have h := h.2
  refine aw_tops (fun τ3 eτ3 => ?_)
  have h := h τ3 eτ3
  refine aw_aload_n (pc := 4) 0 dX5_setUsual_4 rfl ?_
  refine aw_iconst (pc := 5) 4 dX5_setUsual_5 (by decide) ?_
  refine aw_iconst (pc := 6) 0 dX5_setUsual_6 (by decide) ?_
  refine aw_iast (pc := 7) (j := 4) (v := 0) dX5_setUsual_7 hk0.1 hk0.2.1 hk0.2.2 h.1 (by decide) rfl ?_
  have h := h.2
  refine aw_tops (fun τ7 eτ7 => ?_)
  have h := h τ7 eτ7
  refine aw_aload_n (pc := 8) 0 dX5_setUsual_8 rfl ?_
  refine aw_iconst (pc := 9) 5 dX5_setUsual_9 (by decide) ?_
  refine aw_iconst (pc := 10) 1 dX5_setUsual_10 (by decide) ?_
  refine aw_iast (pc := 11) (j := 5) (v := 1) dX5_setUsual_11 hk0.1 hk0.2.1 hk0.2.2 h.1 (by decide) rfl ?_
  have h := h.2
  refine aw_tops (fun τ11 eτ11 => ?_)
  have h := h τ11 eτ11
  refine aw_aload_n (pc := 12) 0 dX5_setUsual_12 rfl ?_
  refine aw_bipush (pc := 13) 9 dX5_setUsual_13 (by decide) ?_
  refine aw_bipush (pc := 15) 6 dX5_setUsual_15 (by decide) ?_
  refine aw_iast (pc := 17) (j := 9) (v := 6) dX5_setUsual_17 hk0.1 hk0.2.1 hk0.2.2 h.1 (by decide) rfl ?_
  have h := h.2
  refine aw_tops (fun τ17 eτ17 => ?_)
  have h := h τ17 eτ17
  refine aw_aload_n (pc := 18) 0 dX5_setUsual_18 rfl ?_
  refine aw_bipush (pc := 19) 10 dX5_setUsual_19 (by decide) ?_
  refine aw_iconst (pc := 21) 0 dX5_setUsual_21 (by decide) ?_
  refine aw_iast (pc := 22) (j := 10) (v := 0) dX5_setUsual_22 hk0.1 hk0.2.1 hk0.2.2 h.1 (by decide) rfl ?_
  have h := h.2
  refine aw_tops (fun τ22 eτ22 => ?_)
  have h := h τ22 eτ22
  exact aw_vret (pc := 23) rfl dX5_setUsual_23 ⟨rfl, h⟩
def b_X5_clear_19 (k0 : Nat) (B12 : Int32 → Sg → Prop) (K : Sg → Prop) : Nat → Int32 → Int32 → Sg → Prop
  | 0, _, _, _ => False
  | n + 1, y1, y2, σ =>
  br (6 ≤ y2) (vp_in y1 4 ∧ (wp_X5_setUsual (k0 + 14 + 1 + y1.toNatClampNeg) 11 σ <| fun τ46 => (∀ v49 : Int32, v49 = y1 + 1 → (B12 v49 τ46)))) (vp_in y1 4 ∧ (vp_in y2 6 ∧ (∀ τ33 : Sg, τ33 = up σ (k0 + 19 + 1 + y1.toNatClampNeg) y2.toNatClampNeg 0 → (∀ v34 : Int32, v34 = y2 + 1 → (b_X5_clear_19 k0 B12 K n y1 v34 τ33)))))
set_option maxRecDepth 20000 in
set_option maxHeartbeats 2000000 in
theorem bt_X5_clear_19 (l : Launch) (k0 : Nat) (hk0 : k0 ∈ rulL) {K : Sg → Prop} (B12 : Int32 → Sg → Prop) (hB12 : ∀ (y1 : Int32)  (τ : Sg), B12 y1 τ → AV l RX5 cX5_clear 3 none 1 (qV K) 12 [(0, .ref k0), (1, .int y1)] [] τ) : ∀ (n : Nat) (y1 : Int32) (y2 : Int32)  (σ : Sg), b_X5_clear_19 k0 B12 K n y1 y2 σ → AV l RX5 cX5_clear 3 none 1 (qV K) 19 [(0, .ref k0), (1, .int y1), (2, .int y2)] [] σ := by
  intro n
  induction n with
  | zero => intro y1 y2 σ h; exact h.elim
  | succ n ih =>
    intro y1 y2 σ h
    refine aw_iload_n (pc := 19) 2 dX5_clear_19 rfl ?_
    refine aw_bipush (pc := 20) 6 dX5_clear_20 (by decide) ?_
    refine aw_icmp_ge (pc := 22) 40 dX5_clear_22 (by decide) (fun q => ?_) (fun q => ?_)
    · have h := h.1 q
      refine aw_aload_n (pc := 40) 0 dX5_clear_40 rfl ?_
      refine aw_getR (pc := 41) 3 kcX5 dX5_clear_41 lfX5_16 (rul_nn hk0) (rul_ki hk0) (by decide) rfl (rul_r3 hk0) ?_
      refine aw_iload_n (pc := 44) 1 dX5_clear_44 rfl ?_
      have hin45 := h.1
      have h := h.2
      refine aw_aldI (pc := 45) dX5_clear_45 (rul_o14 hk0).1 (rul_o14 hk0).2.1 (rul_o14 hk0).2.2 hin45 (rf15 (rul_o14 hk0).2.1) ?_
      refine aw_callS (pc := 46) (As := [.ref (k0 + 14 + 1 + y1.toNatClampNeg)]) (rest := []) (ev_X5_setUsual l (k0 + 14 + 1 + y1.toNatClampNeg) 11 (rul_row14 hk0 (vp_lt hin45)) h) mfX5_setUsual dX5_clear_46 lmX5_29 ⟨Nat.le_refl _, Nat.le_refl _⟩ (by decide) rfl rfl (Nat.le_of_ble_eq_true rfl) (nxV (fun τ46 h => ?_))
      obtain ⟨v49, ev49⟩ : ∃ v : Int32, v = y1 + 1 := ⟨_, rfl⟩
      have h := h v49 ev49
      refine aw_iinc (pc := 49) 1 v49 [(1, .int v49), (0, .ref k0), (2, .int y2)] dX5_clear_49 rfl (by rw [ev49]; rfl) (by decide) rfl ?_
      refine aw_goto (pc := 52) 12 dX5_clear_52 (by decide) ?_
      refine aw_sub (L' := [(0, .ref k0), (1, .int v49)]) [1, 0] rfl ?_
      exact hB12 v49  _ h
    · have h := h.2 q
      refine aw_aload_n (pc := 25) 0 dX5_clear_25 rfl ?_
      refine aw_getR (pc := 26) 4 kcX5 dX5_clear_26 lfX5_19 (rul_nn hk0) (rul_ki hk0) (by decide) rfl (rul_r4 hk0) ?_
      refine aw_iload_n (pc := 29) 1 dX5_clear_29 rfl ?_
      have hin30 := h.1
      have h := h.2
      refine aw_aldI (pc := 30) dX5_clear_30 (rul_o19 hk0).1 (rul_o19 hk0).2.1 (rul_o19 hk0).2.2 hin30 (rf15 (rul_o19 hk0).2.1) ?_
      refine aw_iload_n (pc := 31) 2 dX5_clear_31 rfl ?_
      refine aw_iconst (pc := 32) 0 dX5_clear_32 (by decide) ?_
      refine aw_iast (pc := 33) (j := y2.toNatClampNeg) (v := 0) dX5_clear_33 (rul_row19 hk0 (vp_lt hin30)).1 (rul_row19 hk0 (vp_lt hin30)).2.1 (rul_row19 hk0 (vp_lt hin30)).2.2 h.1 rfl rfl ?_
      have h := h.2
      refine aw_tops (fun τ33 eτ33 => ?_)
      have h := h τ33 eτ33
      obtain ⟨v34, ev34⟩ : ∃ v : Int32, v = y2 + 1 := ⟨_, rfl⟩
      have h := h v34 ev34
      refine aw_iinc (pc := 34) 2 v34 [(2, .int v34), (0, .ref k0), (1, .int y1)] dX5_clear_34 rfl (by rw [ev34]; rfl) (by decide) rfl ?_
      refine aw_goto (pc := 37) 19 dX5_clear_37 (by decide) ?_
      refine aw_sub (L' := [(0, .ref k0), (1, .int y1), (2, .int v34)]) [1, 2, 0] rfl ?_
      exact ih y1 v34  _ h
def b_X5_clear_12 (k0 : Nat)  (K : Sg → Prop) : Nat → Int32 → Sg → Prop
  | 0, _, _ => False
  | n + 1, y1, σ =>
  br (4 ≤ y1) (K σ) (∃ nf, b_X5_clear_19 k0 (fun y1' τ => b_X5_clear_12 k0  K n y1' τ) K nf y1 0 σ)
set_option maxRecDepth 20000 in
set_option maxHeartbeats 2000000 in
theorem bt_X5_clear_12 (l : Launch) (k0 : Nat) (hk0 : k0 ∈ rulL) {K : Sg → Prop}   : ∀ (n : Nat) (y1 : Int32)  (σ : Sg), b_X5_clear_12 k0  K n y1 σ → AV l RX5 cX5_clear 3 none 1 (qV K) 12 [(0, .ref k0), (1, .int y1)] [] σ := by
  intro n
  induction n with
  | zero => intro y1 σ h; exact h.elim
  | succ n ih =>
    intro y1 σ h
    refine aw_iload_n (pc := 12) 1 dX5_clear_12 rfl ?_
    refine aw_iconst (pc := 13) 4 dX5_clear_13 (by decide) ?_
    refine aw_icmp_ge (pc := 14) 55 dX5_clear_14 (by decide) (fun q => ?_) (fun q => ?_)
    · have h := h.1 q
      exact aw_vret (pc := 55) rfl dX5_clear_55 ⟨rfl, h⟩
    · have h := h.2 q
      refine aw_iconst (pc := 17) 0 dX5_clear_17 (by decide) ?_
      refine aw_istore_n (pc := 18) (i := 2) [(2, .int 0), (0, .ref k0), (1, .int y1)] dX5_clear_18 rfl (by decide) rfl ?_
      refine aw_sub (L' := [(0, .ref k0), (1, .int y1), (2, .int 0)]) [1, 2, 0] rfl ?_
      obtain ⟨nf, h⟩ := h
      exact bt_X5_clear_19 l k0 hk0 (fun y1' τ => b_X5_clear_12 k0  K n y1' τ) (fun y1' τ h => ih y1' τ h) nf y1 0  _ h
def wp_X5_clear (k0 : Nat) (σ : Sg) (K : Sg → Prop) : Prop :=
  ∀ τ2 : Sg, τ2 = up σ k0 0 0 → (∀ τ7 : Sg, τ7 = up τ2 k0 1 0 → (∃ nf, b_X5_clear_12 k0  K nf 0 τ7))
set_option maxRecDepth 20000 in
set_option maxHeartbeats 2000000 in
theorem ev_X5_clear (l : Launch) (k0 : Nat) (hk0 : k0 ∈ rulL) {σ : Sg} {K : Sg → Prop} (h : wp_X5_clear k0 σ K) : Ev l yX5_clear cX5_clear 3 none 1 [.ref k0] σ (qV K) := by
  refine ev_ov (by decide) (Nat.le_of_ble_eq_true rfl) ?_
  show AV l RX5 cX5_clear 3 none 1 (qV K) 0 [(0, .ref k0)] [] σ
  refine aw_aload_n (pc := 0) 0 dX5_clear_0 rfl ?_
  refine aw_iconst (pc := 1) 0 dX5_clear_1 (by decide) ?_
  refine aw_put (pc := 2) 0 kcX5 dX5_clear_2 lfX5_22 (rul_nn hk0) (rul_ki hk0) (by decide) rfl rfl rfl rfl ?_
  refine aw_tops (fun τ2 eτ2 => ?_)
  have h := h τ2 eτ2
  refine aw_aload_n (pc := 5) 0 dX5_clear_5 rfl ?_
  refine aw_iconst (pc := 6) 0 dX5_clear_6 (by decide) ?_
  refine aw_put (pc := 7) 1 kcX5 dX5_clear_7 lfX5_26 (rul_nn hk0) (rul_ki hk0) (by decide) rfl rfl rfl rfl ?_
  refine aw_tops (fun τ7 eτ7 => ?_)
  have h := h τ7 eτ7
  refine aw_iconst (pc := 10) 0 dX5_clear_10 (by decide) ?_
  refine aw_istore_n (pc := 11) (i := 1) [(1, .int 0), (0, .ref k0)] dX5_clear_11 rfl (by decide) rfl ?_
  refine aw_sub (L' := [(0, .ref k0), (1, .int 0)]) [1, 0] rfl ?_
  obtain ⟨nf, h⟩ := h
  exact bt_X5_clear_12 l k0 hk0   nf 0  _ h
def b_X5_copyFrom_52 (k0 : Nat) (k1 : Nat)  (K : Sg → Prop) : Nat → Int32 → Sg → Prop
  | 0, _, _ => False
  | n + 1, y2, σ =>
  br ((σ k0 1) ≤ y2) (K σ) (vp_in y2 4 ∧ (vp_in y2 4 ∧ (∀ τ76 : Sg, τ76 = upA σ (k0 + 14 + 1 + y2.toNatClampNeg) (va_cpy (σ (k1 + 14 + 1 + y2.toNatClampNeg)) (σ (k0 + 14 + 1 + y2.toNatClampNeg)) (0 : Int32).toNatClampNeg (0 : Int32).toNatClampNeg (11 : Int32).toNatClampNeg) → (vp_in y2 4 ∧ (vp_in y2 4 ∧ (∀ τ95 : Sg, τ95 = upA τ76 (k0 + 19 + 1 + y2.toNatClampNeg) (va_cpy (τ76 (k1 + 19 + 1 + y2.toNatClampNeg)) (τ76 (k0 + 19 + 1 + y2.toNatClampNeg)) (0 : Int32).toNatClampNeg (0 : Int32).toNatClampNeg (6 : Int32).toNatClampNeg) → (∀ v98 : Int32, v98 = y2 + 1 → (b_X5_copyFrom_52 k0 k1  K n v98 τ95))))))))
set_option maxRecDepth 20000 in
set_option maxHeartbeats 2000000 in
theorem bt_X5_copyFrom_52 (l : Launch) (k0 : Nat) (hk0 : k0 ∈ rulL) (k1 : Nat) (hk1 : k1 ∈ rulL) {K : Sg → Prop}   : ∀ (n : Nat) (y2 : Int32)  (σ : Sg), b_X5_copyFrom_52 k0 k1  K n y2 σ → AV l RX5 cX5_copyFrom 3 none 1 (qV K) 52 [(0, .ref k0), (1, .ref k1), (2, .int y2)] [] σ := by
  intro n
  induction n with
  | zero => intro y2 σ h; exact h.elim
  | succ n ih =>
    intro y2 σ h
    refine aw_iload_n (pc := 52) 2 dX5_copyFrom_52 rfl ?_
    refine aw_aload_n (pc := 53) 0 dX5_copyFrom_53 rfl ?_
    refine aw_getI (pc := 54) 1 kcX5 dX5_copyFrom_54 lfX5_26 (rul_nn hk0) (rul_ki hk0) (by decide) rfl ?_
    refine aw_icmp_ge (pc := 57) 104 dX5_copyFrom_57 (by decide) (fun q => ?_) (fun q => ?_)
    · have h := h.1 q
      exact aw_vret (pc := 104) rfl dX5_copyFrom_104 ⟨rfl, h⟩
    · have h := h.2 q
      refine aw_aload_n (pc := 60) 1 dX5_copyFrom_60 rfl ?_
      refine aw_getR (pc := 61) 3 kcX5 dX5_copyFrom_61 lfX5_16 (rul_nn hk1) (rul_ki hk1) (by decide) rfl (rul_r3 hk1) ?_
      refine aw_iload_n (pc := 64) 2 dX5_copyFrom_64 rfl ?_
      have hin65 := h.1
      have h := h.2
      refine aw_aldI (pc := 65) dX5_copyFrom_65 (rul_o14 hk1).1 (rul_o14 hk1).2.1 (rul_o14 hk1).2.2 hin65 (rf15 (rul_o14 hk1).2.1) ?_
      refine aw_iconst (pc := 66) 0 dX5_copyFrom_66 (by decide) ?_
      refine aw_aload_n (pc := 67) 0 dX5_copyFrom_67 rfl ?_
      refine aw_getR (pc := 68) 3 kcX5 dX5_copyFrom_68 lfX5_16 (rul_nn hk0) (rul_ki hk0) (by decide) rfl (rul_r3 hk0) ?_
      refine aw_iload_n (pc := 71) 2 dX5_copyFrom_71 rfl ?_
      have hin72 := h.1
      have h := h.2
      refine aw_aldI (pc := 72) dX5_copyFrom_72 (rul_o14 hk0).1 (rul_o14 hk0).2.1 (rul_o14 hk0).2.2 hin72 (rf15 (rul_o14 hk0).2.1) ?_
      refine aw_iconst (pc := 73) 0 dX5_copyFrom_73 (by decide) ?_
      refine aw_bipush (pc := 74) 11 dX5_copyFrom_74 (by decide) ?_
      refine aw_copy (pc := 76) dX5_copyFrom_76 lmX5_33 lib_copy.1 lib_copy.2.1 lib_copy.2.2 (rul_row14 hk1 (vp_lt hin65)).1 (rul_row14 hk1 (vp_lt hin65)).2.1 (rul_row14 hk1 (vp_lt hin65)).2.2 (rul_row14 hk0 (vp_lt hin72)).1 (rul_row14 hk0 (vp_lt hin72)).2.1 (rul_row14 hk0 (vp_lt hin72)).2.2 (by decide) (by decide) (by decide) (by decide) (by decide) ⟨Nat.le_refl _, Nat.le_refl _⟩ (by decide) (Nat.le_of_ble_eq_true rfl) ?_
      refine aw_tops (fun τ76 eτ76 => ?_)
      have h := h τ76 eτ76
      refine aw_aload_n (pc := 79) 1 dX5_copyFrom_79 rfl ?_
      refine aw_getR (pc := 80) 4 kcX5 dX5_copyFrom_80 lfX5_19 (rul_nn hk1) (rul_ki hk1) (by decide) rfl (rul_r4 hk1) ?_
      refine aw_iload_n (pc := 83) 2 dX5_copyFrom_83 rfl ?_
      have hin84 := h.1
      have h := h.2
      refine aw_aldI (pc := 84) dX5_copyFrom_84 (rul_o19 hk1).1 (rul_o19 hk1).2.1 (rul_o19 hk1).2.2 hin84 (rf15 (rul_o19 hk1).2.1) ?_
      refine aw_iconst (pc := 85) 0 dX5_copyFrom_85 (by decide) ?_
      refine aw_aload_n (pc := 86) 0 dX5_copyFrom_86 rfl ?_
      refine aw_getR (pc := 87) 4 kcX5 dX5_copyFrom_87 lfX5_19 (rul_nn hk0) (rul_ki hk0) (by decide) rfl (rul_r4 hk0) ?_
      refine aw_iload_n (pc := 90) 2 dX5_copyFrom_90 rfl ?_
      have hin91 := h.1
      have h := h.2
      refine aw_aldI (pc := 91) dX5_copyFrom_91 (rul_o19 hk0).1 (rul_o19 hk0).2.1 (rul_o19 hk0).2.2 hin91 (rf15 (rul_o19 hk0).2.1) ?_
      refine aw_iconst (pc := 92) 0 dX5_copyFrom_92 (by decide) ?_
      refine aw_bipush (pc := 93) 6 dX5_copyFrom_93 (by decide) ?_
      refine aw_copy (pc := 95) dX5_copyFrom_95 lmX5_33 lib_copy.1 lib_copy.2.1 lib_copy.2.2 (rul_row19 hk1 (vp_lt hin84)).1 (rul_row19 hk1 (vp_lt hin84)).2.1 (rul_row19 hk1 (vp_lt hin84)).2.2 (rul_row19 hk0 (vp_lt hin91)).1 (rul_row19 hk0 (vp_lt hin91)).2.1 (rul_row19 hk0 (vp_lt hin91)).2.2 (by decide) (by decide) (by decide) (by decide) (by decide) ⟨Nat.le_refl _, Nat.le_refl _⟩ (by decide) (Nat.le_of_ble_eq_true rfl) ?_
      refine aw_tops (fun τ95 eτ95 => ?_)
      have h := h τ95 eτ95
      obtain ⟨v98, ev98⟩ : ∃ v : Int32, v = y2 + 1 := ⟨_, rfl⟩
      have h := h v98 ev98
      refine aw_iinc (pc := 98) 2 v98 [(2, .int v98), (0, .ref k0), (1, .ref k1)] dX5_copyFrom_98 rfl (by rw [ev98]; rfl) (by decide) rfl ?_
      refine aw_goto (pc := 101) 52 dX5_copyFrom_101 (by decide) ?_
      refine aw_sub (L' := [(0, .ref k0), (1, .ref k1), (2, .int v98)]) [1, 2, 0] rfl ?_
      exact ih v98  _ h
def b_X5_copyFrom_18 (k0 : Nat) (k1 : Nat)  (K : Sg → Prop) : Nat → Int32 → Sg → Prop
  | 0, _, _ => False
  | n + 1, y2, σ =>
  br ((σ k0 0) ≤ y2) (∃ nf, b_X5_copyFrom_52 k0 k1  K nf 0 σ) (vp_in y2 12 ∧ (vp_in y2 12 ∧ (∀ τ41 : Sg, τ41 = upA σ (k0 + 1 + 1 + y2.toNatClampNeg) (va_cpy (σ (k1 + 1 + 1 + y2.toNatClampNeg)) (σ (k0 + 1 + 1 + y2.toNatClampNeg)) (0 : Int32).toNatClampNeg (0 : Int32).toNatClampNeg (3 : Int32).toNatClampNeg) → (∀ v44 : Int32, v44 = y2 + 1 → (b_X5_copyFrom_18 k0 k1  K n v44 τ41)))))
set_option maxRecDepth 20000 in
set_option maxHeartbeats 2000000 in
theorem bt_X5_copyFrom_18 (l : Launch) (k0 : Nat) (hk0 : k0 ∈ rulL) (k1 : Nat) (hk1 : k1 ∈ rulL) {K : Sg → Prop}   : ∀ (n : Nat) (y2 : Int32)  (σ : Sg), b_X5_copyFrom_18 k0 k1  K n y2 σ → AV l RX5 cX5_copyFrom 3 none 1 (qV K) 18 [(0, .ref k0), (1, .ref k1), (2, .int y2)] [] σ := by
  intro n
  induction n with
  | zero => intro y2 σ h; exact h.elim
  | succ n ih =>
    intro y2 σ h
    refine aw_iload_n (pc := 18) 2 dX5_copyFrom_18 rfl ?_
    refine aw_aload_n (pc := 19) 0 dX5_copyFrom_19 rfl ?_
    refine aw_getI (pc := 20) 0 kcX5 dX5_copyFrom_20 lfX5_22 (rul_nn hk0) (rul_ki hk0) (by decide) rfl ?_
    refine aw_icmp_ge (pc := 23) 50 dX5_copyFrom_23 (by decide) (fun q => ?_) (fun q => ?_)
    · have h := h.1 q
      refine aw_iconst (pc := 50) 0 dX5_copyFrom_50 (by decide) ?_
      refine aw_istore_n (pc := 51) (i := 2) [(2, .int 0), (0, .ref k0), (1, .ref k1)] dX5_copyFrom_51 rfl (by decide) rfl ?_
      refine aw_sub (L' := [(0, .ref k0), (1, .ref k1), (2, .int 0)]) [1, 2, 0] rfl ?_
      obtain ⟨nf, h⟩ := h
      exact bt_X5_copyFrom_52 l k0 hk0 k1 hk1   nf 0  _ h
    · have h := h.2 q
      refine aw_aload_n (pc := 26) 1 dX5_copyFrom_26 rfl ?_
      refine aw_getR (pc := 27) 2 kcX5 dX5_copyFrom_27 lfX5_11 (rul_nn hk1) (rul_ki hk1) (by decide) rfl (rul_r2 hk1) ?_
      refine aw_iload_n (pc := 30) 2 dX5_copyFrom_30 rfl ?_
      have hin31 := h.1
      have h := h.2
      refine aw_aldI (pc := 31) dX5_copyFrom_31 (rul_o1 hk1).1 (rul_o1 hk1).2.1 (rul_o1 hk1).2.2 hin31 (rf15 (rul_o1 hk1).2.1) ?_
      refine aw_iconst (pc := 32) 0 dX5_copyFrom_32 (by decide) ?_
      refine aw_aload_n (pc := 33) 0 dX5_copyFrom_33 rfl ?_
      refine aw_getR (pc := 34) 2 kcX5 dX5_copyFrom_34 lfX5_11 (rul_nn hk0) (rul_ki hk0) (by decide) rfl (rul_r2 hk0) ?_
      refine aw_iload_n (pc := 37) 2 dX5_copyFrom_37 rfl ?_
      have hin38 := h.1
      have h := h.2
      refine aw_aldI (pc := 38) dX5_copyFrom_38 (rul_o1 hk0).1 (rul_o1 hk0).2.1 (rul_o1 hk0).2.2 hin38 (rf15 (rul_o1 hk0).2.1) ?_
      refine aw_iconst (pc := 39) 0 dX5_copyFrom_39 (by decide) ?_
      refine aw_iconst (pc := 40) 3 dX5_copyFrom_40 (by decide) ?_
      refine aw_copy (pc := 41) dX5_copyFrom_41 lmX5_33 lib_copy.1 lib_copy.2.1 lib_copy.2.2 (rul_row1 hk1 (vp_lt hin31)).1 (rul_row1 hk1 (vp_lt hin31)).2.1 (rul_row1 hk1 (vp_lt hin31)).2.2 (rul_row1 hk0 (vp_lt hin38)).1 (rul_row1 hk0 (vp_lt hin38)).2.1 (rul_row1 hk0 (vp_lt hin38)).2.2 (by decide) (by decide) (by decide) (by decide) (by decide) ⟨Nat.le_refl _, Nat.le_refl _⟩ (by decide) (Nat.le_of_ble_eq_true rfl) ?_
      refine aw_tops (fun τ41 eτ41 => ?_)
      have h := h τ41 eτ41
      obtain ⟨v44, ev44⟩ : ∃ v : Int32, v = y2 + 1 := ⟨_, rfl⟩
      have h := h v44 ev44
      refine aw_iinc (pc := 44) 2 v44 [(2, .int v44), (0, .ref k0), (1, .ref k1)] dX5_copyFrom_44 rfl (by rw [ev44]; rfl) (by decide) rfl ?_
      refine aw_goto (pc := 47) 18 dX5_copyFrom_47 (by decide) ?_
      refine aw_sub (L' := [(0, .ref k0), (1, .ref k1), (2, .int v44)]) [1, 2, 0] rfl ?_
      exact ih v44  _ h
def wp_X5_copyFrom (k0 : Nat) (k1 : Nat) (σ : Sg) (K : Sg → Prop) : Prop :=
  ∀ τ5 : Sg, τ5 = up σ k0 0 (σ k1 0) → (∀ τ13 : Sg, τ13 = up τ5 k0 1 (τ5 k1 1) → (∃ nf, b_X5_copyFrom_18 k0 k1  K nf 0 τ13))
set_option maxRecDepth 20000 in
set_option maxHeartbeats 2000000 in
theorem ev_X5_copyFrom (l : Launch) (k0 : Nat) (hk0 : k0 ∈ rulL) (k1 : Nat) (hk1 : k1 ∈ rulL) {σ : Sg} {K : Sg → Prop} (h : wp_X5_copyFrom k0 k1 σ K) : Ev l yX5_copyFrom cX5_copyFrom 3 none 1 [.ref k0, .ref k1] σ (qV K) := by
  refine ev_ov (by decide) (Nat.le_of_ble_eq_true rfl) ?_
  show AV l RX5 cX5_copyFrom 3 none 1 (qV K) 0 [(0, .ref k0), (1, .ref k1)] [] σ
  refine aw_aload_n (pc := 0) 0 dX5_copyFrom_0 rfl ?_
  refine aw_aload_n (pc := 1) 1 dX5_copyFrom_1 rfl ?_
  refine aw_getI (pc := 2) 0 kcX5 dX5_copyFrom_2 lfX5_22 (rul_nn hk1) (rul_ki hk1) (by decide) rfl ?_
  refine aw_put (pc := 5) 0 kcX5 dX5_copyFrom_5 lfX5_22 (rul_nn hk0) (rul_ki hk0) (by decide) rfl rfl rfl rfl ?_
  refine aw_tops (fun τ5 eτ5 => ?_)
  have h := h τ5 eτ5
  refine aw_aload_n (pc := 8) 0 dX5_copyFrom_8 rfl ?_
  refine aw_aload_n (pc := 9) 1 dX5_copyFrom_9 rfl ?_
  refine aw_getI (pc := 10) 1 kcX5 dX5_copyFrom_10 lfX5_26 (rul_nn hk1) (rul_ki hk1) (by decide) rfl ?_
  refine aw_put (pc := 13) 1 kcX5 dX5_copyFrom_13 lfX5_26 (rul_nn hk0) (rul_ki hk0) (by decide) rfl rfl rfl rfl ?_
  refine aw_tops (fun τ13 eτ13 => ?_)
  have h := h τ13 eτ13
  refine aw_iconst (pc := 16) 0 dX5_copyFrom_16 (by decide) ?_
  refine aw_istore_n (pc := 17) (i := 2) [(2, .int 0), (0, .ref k0), (1, .ref k1)] dX5_copyFrom_17 rfl (by decide) rfl ?_
  refine aw_sub (L' := [(0, .ref k0), (1, .ref k1), (2, .int 0)]) [1, 2, 0] rfl ?_
  obtain ⟨nf, h⟩ := h
  exact bt_X5_copyFrom_18 l k0 hk0 k1 hk1   nf 0  _ h
