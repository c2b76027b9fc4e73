def wp_X6_clear (k0 : Nat) (σ : Sg) (K : Sg → Prop) : Prop :=
  ∀ τ2 : Sg, τ2 = up σ k0 0 0 → (∀ τ7 : Sg, τ7 = up τ2 k0 1 0 → (K τ7))
set_option maxRecDepth 20000 in
set_option maxHeartbeats 2000000 in
theorem ev_X6_clear (l : Launch) (k0 : Nat) (hk0 : k0 ∈ seaL) {σ : Sg} {K : Sg → Prop} (h : wp_X6_clear k0 σ K) : Ev l yX6_clear cX6_clear 1 none 0 [.ref k0] σ (qV K) := by
  refine ev_ov (by decide) (Nat.le_of_ble_eq_true rfl) ?_
  show AV l RX6 cX6_clear 1 none 0 (qV K) 0 [(0, .ref k0)] [] σ
  refine aw_aload_n (pc := 0) 0 dX6_clear_0 rfl ?_
  refine aw_iconst (pc := 1) 0 dX6_clear_1 (by decide) ?_
  refine aw_put (pc := 2) 0 kcX6 dX6_clear_2 lfX6_33 (sea_nn hk0) (sea_ki hk0) (by decide) rfl rfl rfl rfl ?_
  refine aw_tops (fun τ2 eτ2 => ?_)
  have h := h τ2 eτ2
  refine aw_aload_n (pc := 5) 0 dX6_clear_5 rfl ?_
  refine aw_iconst (pc := 6) 0 dX6_clear_6 (by decide) ?_
  refine aw_put (pc := 7) 1 kcX6 dX6_clear_7 lfX6_37 (sea_nn hk0) (sea_ki hk0) (by decide) rfl rfl rfl rfl ?_
  refine aw_tops (fun τ7 eτ7 => ?_)
  have h := h τ7 eτ7
  exact aw_vret (pc := 10) rfl dX6_clear_10 ⟨rfl, h⟩
def wp_X6_copyFrom (k0 : Nat) (k1 : Nat) (σ : Sg) (K : Sg → Prop) : Prop :=
  ∀ τ5 : Sg, τ5 = up σ k0 0 (σ k1 0) → (∀ τ13 : Sg, τ13 = up τ5 k0 1 (τ5 k1 1) → (¬ (τ13 k0 0) < 0 ∧ ((0 : Int32).toNatClampNeg + (τ13 k0 0).toNatClampNeg ≤ 30 ∧ ((0 : Int32).toNatClampNeg + (τ13 k0 0).toNatClampNeg ≤ 30 ∧ (∀ τ30 : Sg, τ30 = upA τ13 (k0 + 1) (va_cpy (τ13 (k1 + 1)) (τ13 (k0 + 1)) (0 : Int32).toNatClampNeg (0 : Int32).toNatClampNeg (τ13 k0 0).toNatClampNeg) → (¬ (τ30 k0 0) < 0 ∧ ((0 : Int32).toNatClampNeg + (τ30 k0 0).toNatClampNeg ≤ 30 ∧ ((0 : Int32).toNatClampNeg + (τ30 k0 0).toNatClampNeg ≤ 30 ∧ (∀ τ47 : Sg, τ47 = upA τ30 (k0 + 2) (va_cpy (τ30 (k1 + 2)) (τ30 (k0 + 2)) (0 : Int32).toNatClampNeg (0 : Int32).toNatClampNeg (τ30 k0 0).toNatClampNeg) → (¬ (τ47 k0 0) < 0 ∧ ((0 : Int32).toNatClampNeg + (τ47 k0 0).toNatClampNeg ≤ 30 ∧ ((0 : Int32).toNatClampNeg + (τ47 k0 0).toNatClampNeg ≤ 30 ∧ (∀ τ64 : Sg, τ64 = upA τ47 (k0 + 3) (va_cpy (τ47 (k1 + 3)) (τ47 (k0 + 3)) (0 : Int32).toNatClampNeg (0 : Int32).toNatClampNeg (τ47 k0 0).toNatClampNeg) → (¬ (τ64 k0 0) < 0 ∧ ((0 : Int32).toNatClampNeg + (τ64 k0 0).toNatClampNeg ≤ 30 ∧ ((0 : Int32).toNatClampNeg + (τ64 k0 0).toNatClampNeg ≤ 30 ∧ (∀ τ81 : Sg, τ81 = upA τ64 (k0 + 4) (va_cpy (τ64 (k1 + 4)) (τ64 (k0 + 4)) (0 : Int32).toNatClampNeg (0 : Int32).toNatClampNeg (τ64 k0 0).toNatClampNeg) → (¬ (τ81 k0 0) < 0 ∧ ((0 : Int32).toNatClampNeg + (τ81 k0 0).toNatClampNeg ≤ 30 ∧ ((0 : Int32).toNatClampNeg + (τ81 k0 0).toNatClampNeg ≤ 30 ∧ (∀ τ98 : Sg, τ98 = upA τ81 (k0 + 5) (va_cpy (τ81 (k1 + 5)) (τ81 (k0 + 5)) (0 : Int32).toNatClampNeg (0 : Int32).toNatClampNeg (τ81 k0 0).toNatClampNeg) → (¬ ((τ98 k0 0) * 4) < 0 ∧ ((0 : Int32).toNatClampNeg + ((τ98 k0 0) * 4).toNatClampNeg ≤ 120 ∧ ((0 : Int32).toNatClampNeg + ((τ98 k0 0) * 4).toNatClampNeg ≤ 120 ∧ (∀ τ117 : Sg, τ117 = upA τ98 (k0 + 6) (va_cpy (τ98 (k1 + 6)) (τ98 (k0 + 6)) (0 : Int32).toNatClampNeg (0 : Int32).toNatClampNeg ((τ98 k0 0) * 4).toNatClampNeg) → (¬ ((τ117 k0 0) * 4) < 0 ∧ ((0 : Int32).toNatClampNeg + ((τ117 k0 0) * 4).toNatClampNeg ≤ 120 ∧ ((0 : Int32).toNatClampNeg + ((τ117 k0 0) * 4).toNatClampNeg ≤ 120 ∧ (∀ τ136 : Sg, τ136 = upA τ117 (k0 + 7) (va_cpy (τ117 (k1 + 7)) (τ117 (k0 + 7)) (0 : Int32).toNatClampNeg (0 : Int32).toNatClampNeg ((τ117 k0 0) * 4).toNatClampNeg) → (K τ136))))))))))))))))))))))))))))))
set_option maxRecDepth 20000 in
set_option maxHeartbeats 2000000 in
theorem ev_X6_copyFrom (l : Launch) (k0 : Nat) (hk0 : k0 ∈ seaL) (k1 : Nat) (hk1 : k1 ∈ seaL) {σ : Sg} {K : Sg → Prop} (h : wp_X6_copyFrom k0 k1 σ K) : Ev l yX6_copyFrom cX6_copyFrom 2 none 1 [.ref k0, .ref k1] σ (qV K) := by
  refine ev_ov (by decide) (Nat.le_of_ble_eq_true rfl) ?_
  show AV l RX6 cX6_copyFrom 2 none 1 (qV K) 0 [(0, .ref k0), (1, .ref k1)] [] σ
  refine aw_aload_n (pc := 0) 0 dX6_copyFrom_0 rfl ?_
  refine aw_aload_n (pc := 1) 1 dX6_copyFrom_1 rfl ?_
  refine aw_getI (pc := 2) 0 kcX6 dX6_copyFrom_2 lfX6_33 (sea_nn hk1) (sea_ki hk1) (by decide) rfl ?_
  refine aw_put (pc := 5) 0 kcX6 dX6_copyFrom_5 lfX6_33 (sea_nn hk0) (sea_ki hk0) (by decide) rfl rfl rfl rfl ?_
  refine aw_tops (fun τ5 eτ5 => ?_)
  have h := h τ5 eτ5
  refine aw_aload_n (pc := 8) 0 dX6_copyFrom_8 rfl ?_
  refine aw_aload_n (pc := 9) 1 dX6_copyFrom_9 rfl ?_
  refine aw_getI (pc := 10) 1 kcX6 dX6_copyFrom_10 lfX6_37 (sea_nn hk1) (sea_ki hk1) (by decide) rfl ?_
  refine aw_put (pc := 13) 1 kcX6 dX6_copyFrom_13 lfX6_37 (sea_nn hk0) (sea_ki hk0) (by decide) rfl rfl rfl rfl ?_
  refine aw_tops (fun τ13 eτ13 => ?_)
  have h := h τ13 eτ13
  refine aw_aload_n (pc := 16) 1 dX6_copyFrom_16 rfl ?_
  refine aw_getR (pc := 17) 2 kcX6 dX6_copyFrom_17 lfX6_9 (sea_nn hk1) (sea_ki hk1) (by decide) rfl (sea_r2 hk1) ?_
  refine aw_iconst (pc := 20) 0 dX6_copyFrom_20 (by decide) ?_
  refine aw_aload_n (pc := 21) 0 dX6_copyFrom_21 rfl ?_
  refine aw_getR (pc := 22) 2 kcX6 dX6_copyFrom_22 lfX6_9 (sea_nn hk0) (sea_ki hk0) (by decide) rfl (sea_r2 hk0) ?_
  refine aw_iconst (pc := 25) 0 dX6_copyFrom_25 (by decide) ?_
  refine aw_aload_n (pc := 26) 0 dX6_copyFrom_26 rfl ?_
  refine aw_getI (pc := 27) 0 kcX6 dX6_copyFrom_27 lfX6_33 (sea_nn hk0) (sea_ki hk0) (by decide) rfl ?_
  refine aw_copy (pc := 30) dX6_copyFrom_30 lmX6_40 lib_copy.1 lib_copy.2.1 lib_copy.2.2 (sea_a1 hk1).1 (sea_a1 hk1).2.1 (sea_a1 hk1).2.2 (sea_a1 hk0).1 (sea_a1 hk0).2.1 (sea_a1 hk0).2.2 (by decide) (by decide) h.1 h.2.1 h.2.2.1 ⟨Nat.le_refl _, Nat.le_refl _⟩ (by decide) (Nat.le_of_ble_eq_true rfl) ?_
  have h := h.2.2.2
  refine aw_tops (fun τ30 eτ30 => ?_)
  have h := h τ30 eτ30
  refine aw_aload_n (pc := 33) 1 dX6_copyFrom_33 rfl ?_
  refine aw_getR (pc := 34) 3 kcX6 dX6_copyFrom_34 lfX6_15 (sea_nn hk1) (sea_ki hk1) (by decide) rfl (sea_r3 hk1) ?_
  refine aw_iconst (pc := 37) 0 dX6_copyFrom_37 (by decide) ?_
  refine aw_aload_n (pc := 38) 0 dX6_copyFrom_38 rfl ?_
  refine aw_getR (pc := 39) 3 kcX6 dX6_copyFrom_39 lfX6_15 (sea_nn hk0) (sea_ki hk0) (by decide) rfl (sea_r3 hk0) ?_
  refine aw_iconst (pc := 42) 0 dX6_copyFrom_42 (by decide) ?_
  refine aw_aload_n (pc := 43) 0 dX6_copyFrom_43 rfl ?_
  refine aw_getI (pc := 44) 0 kcX6 dX6_copyFrom_44 lfX6_33 (sea_nn hk0) (sea_ki hk0) (by decide) rfl ?_
  refine aw_copy (pc := 47) dX6_copyFrom_47 lmX6_40 lib_copy.1 lib_copy.2.1 lib_copy.2.2 (sea_a2 hk1).1 (sea_a2 hk1).2.1 (sea_a2 hk1).2.2 (sea_a2 hk0).1 (sea_a2 hk0).2.1 (sea_a2 hk0).2.2 (by decide) (by decide) h.1 h.2.1 h.2.2.1 ⟨Nat.le_refl _, Nat.le_refl _⟩ (by decide) (Nat.le_of_ble_eq_true rfl) ?_
  have h := h.2.2.2
  refine aw_tops (fun τ47 eτ47 => ?_)
  have h := h τ47 eτ47
  refine aw_aload_n (pc := 50) 1 dX6_copyFrom_50 rfl ?_
  refine aw_getR (pc := 51) 4 kcX6 dX6_copyFrom_51 lfX6_18 (sea_nn hk1) (sea_ki hk1) (by decide) rfl (sea_r4 hk1) ?_
  refine aw_iconst (pc := 54) 0 dX6_copyFrom_54 (by decide) ?_
  refine aw_aload_n (pc := 55) 0 dX6_copyFrom_55 rfl ?_
  refine aw_getR (pc := 56) 4 kcX6 dX6_copyFrom_56 lfX6_18 (sea_nn hk0) (sea_ki hk0) (by decide) rfl (sea_r4 hk0) ?_
  refine aw_iconst (pc := 59) 0 dX6_copyFrom_59 (by decide) ?_
  refine aw_aload_n (pc := 60) 0 dX6_copyFrom_60 rfl ?_
  refine aw_getI (pc := 61) 0 kcX6 dX6_copyFrom_61 lfX6_33 (sea_nn hk0) (sea_ki hk0) (by decide) rfl ?_
  refine aw_copy (pc := 64) dX6_copyFrom_64 lmX6_40 lib_copy.1 lib_copy.2.1 lib_copy.2.2 (sea_a3 hk1).1 (sea_a3 hk1).2.1 (sea_a3 hk1).2.2 (sea_a3 hk0).1 (sea_a3 hk0).2.1 (sea_a3 hk0).2.2 (by decide) (by decide) h.1 h.2.1 h.2.2.1 ⟨Nat.le_refl _, Nat.le_refl _⟩ (by decide) (Nat.le_of_ble_eq_true rfl) ?_
  have h := h.2.2.2
  refine aw_tops (fun τ64 eτ64 => ?_)
  have h := h τ64 eτ64
  refine aw_aload_n (pc := 67) 1 dX6_copyFrom_67 rfl ?_
  refine aw_getR (pc := 68) 5 kcX6 dX6_copyFrom_68 lfX6_21 (sea_nn hk1) (sea_ki hk1) (by decide) rfl (sea_r5 hk1) ?_
  refine aw_iconst (pc := 71) 0 dX6_copyFrom_71 (by decide) ?_
  refine aw_aload_n (pc := 72) 0 dX6_copyFrom_72 rfl ?_
  refine aw_getR (pc := 73) 5 kcX6 dX6_copyFrom_73 lfX6_21 (sea_nn hk0) (sea_ki hk0) (by decide) rfl (sea_r5 hk0) ?_
  refine aw_iconst (pc := 76) 0 dX6_copyFrom_76 (by decide) ?_
  refine aw_aload_n (pc := 77) 0 dX6_copyFrom_77 rfl ?_
  refine aw_getI (pc := 78) 0 kcX6 dX6_copyFrom_78 lfX6_33 (sea_nn hk0) (sea_ki hk0) (by decide) rfl ?_
  refine aw_copy (pc := 81) dX6_copyFrom_81 lmX6_40 lib_copy.1 lib_copy.2.1 lib_copy.2.2 (sea_a4 hk1).1 (sea_a4 hk1).2.1 (sea_a4 hk1).2.2 (sea_a4 hk0).1 (sea_a4 hk0).2.1 (sea_a4 hk0).2.2 (by decide) (by decide) h.1 h.2.1 h.2.2.1 ⟨Nat.le_refl _, Nat.le_refl _⟩ (by decide) (Nat.le_of_ble_eq_true rfl) ?_
  have h := h.2.2.2
  refine aw_tops (fun τ81 eτ81 => ?_)
  have h := h τ81 eτ81
  refine aw_aload_n (pc := 84) 1 dX6_copyFrom_84 rfl ?_
  refine aw_getR (pc := 85) 6 kcX6 dX6_copyFrom_85 lfX6_24 (sea_nn hk1) (sea_ki hk1) (by decide) rfl (sea_r6 hk1) ?_
  refine aw_iconst (pc := 88) 0 dX6_copyFrom_88 (by decide) ?_
  refine aw_aload_n (pc := 89) 0 dX6_copyFrom_89 rfl ?_
  refine aw_getR (pc := 90) 6 kcX6 dX6_copyFrom_90 lfX6_24 (sea_nn hk0) (sea_ki hk0) (by decide) rfl (sea_r6 hk0) ?_
  refine aw_iconst (pc := 93) 0 dX6_copyFrom_93 (by decide) ?_
  refine aw_aload_n (pc := 94) 0 dX6_copyFrom_94 rfl ?_
  refine aw_getI (pc := 95) 0 kcX6 dX6_copyFrom_95 lfX6_33 (sea_nn hk0) (sea_ki hk0) (by decide) rfl ?_
  refine aw_copy (pc := 98) dX6_copyFrom_98 lmX6_40 lib_copy.1 lib_copy.2.1 lib_copy.2.2 (sea_a5 hk1).1 (sea_a5 hk1).2.1 (sea_a5 hk1).2.2 (sea_a5 hk0).1 (sea_a5 hk0).2.1 (sea_a5 hk0).2.2 (by decide) (by decide) h.1 h.2.1 h.2.2.1 ⟨Nat.le_refl _, Nat.le_refl _⟩ (by decide) (Nat.le_of_ble_eq_true rfl) ?_
  have h := h.2.2.2
  refine aw_tops (fun τ98 eτ98 => ?_)
  have h := h τ98 eτ98
  refine aw_aload_n (pc := 101) 1 dX6_copyFrom_101 rfl ?_
  refine aw_getR (pc := 102) 7 kcX6 dX6_copyFrom_102 lfX6_27 (sea_nn hk1) (sea_ki hk1) (by decide) rfl (sea_r7 hk1) ?_
  refine aw_iconst (pc := 105) 0 dX6_copyFrom_105 (by decide) ?_
  refine aw_aload_n (pc := 106) 0 dX6_copyFrom_106 rfl ?_
  refine aw_getR (pc := 107) 7 kcX6 dX6_copyFrom_107 lfX6_27 (sea_nn hk0) (sea_ki hk0) (by decide) rfl (sea_r7 hk0) ?_
  refine aw_iconst (pc := 110) 0 dX6_copyFrom_110 (by decide) ?_
  refine aw_aload_n (pc := 111) 0 dX6_copyFrom_111 rfl ?_
  refine aw_getI (pc := 112) 0 kcX6 dX6_copyFrom_112 lfX6_33 (sea_nn hk0) (sea_ki hk0) (by decide) rfl ?_
  refine aw_iconst (pc := 115) 4 dX6_copyFrom_115 (by decide) ?_
  refine aw_imul (pc := 116) dX6_copyFrom_116 ?_
  refine aw_copy (pc := 117) dX6_copyFrom_117 lmX6_40 lib_copy.1 lib_copy.2.1 lib_copy.2.2 (sea_a6 hk1).1 (sea_a6 hk1).2.1 (sea_a6 hk1).2.2 (sea_a6 hk0).1 (sea_a6 hk0).2.1 (sea_a6 hk0).2.2 (by decide) (by decide) h.1 h.2.1 h.2.2.1 ⟨Nat.le_refl _, Nat.le_refl _⟩ (by decide) (Nat.le_of_ble_eq_true rfl) ?_
  have h := h.2.2.2
  refine aw_tops (fun τ117 eτ117 => ?_)
  have h := h τ117 eτ117
  refine aw_aload_n (pc := 120) 1 dX6_copyFrom_120 rfl ?_
  refine aw_getR (pc := 121) 8 kcX6 dX6_copyFrom_121 lfX6_30 (sea_nn hk1) (sea_ki hk1) (by decide) rfl (sea_r8 hk1) ?_
  refine aw_iconst (pc := 124) 0 dX6_copyFrom_124 (by decide) ?_
  refine aw_aload_n (pc := 125) 0 dX6_copyFrom_125 rfl ?_
  refine aw_getR (pc := 126) 8 kcX6 dX6_copyFrom_126 lfX6_30 (sea_nn hk0) (sea_ki hk0) (by decide) rfl (sea_r8 hk0) ?_
  refine aw_iconst (pc := 129) 0 dX6_copyFrom_129 (by decide) ?_
  refine aw_aload_n (pc := 130) 0 dX6_copyFrom_130 rfl ?_
  refine aw_getI (pc := 131) 0 kcX6 dX6_copyFrom_131 lfX6_33 (sea_nn hk0) (sea_ki hk0) (by decide) rfl ?_
  refine aw_iconst (pc := 134) 4 dX6_copyFrom_134 (by decide) ?_
  refine aw_imul (pc := 135) dX6_copyFrom_135 ?_
  refine aw_copy (pc := 136) dX6_copyFrom_136 lmX6_40 lib_copy.1 lib_copy.2.1 lib_copy.2.2 (sea_a7 hk1).1 (sea_a7 hk1).2.1 (sea_a7 hk1).2.2 (sea_a7 hk0).1 (sea_a7 hk0).2.1 (sea_a7 hk0).2.2 (by decide) (by decide) h.1 h.2.1 h.2.2.1 ⟨Nat.le_refl _, Nat.le_refl _⟩ (by decide) (Nat.le_of_ble_eq_true rfl) ?_
  have h := h.2.2.2
  refine aw_tops (fun τ136 eτ136 => ?_)
  have h := h τ136 eτ136
  exact aw_vret (pc := 139) rfl dX6_copyFrom_139 ⟨rfl, h⟩
def wp_X6_addTie (k0 : Nat) (x1 : Int32) (x2 : Int32) (x3 : Int32) (x4 : Int32) (σ : Sg) (K : Sg → Prop) : Prop :=
  vp_in (σ k0 0) 30 ∧ (∀ τ9 : Sg, τ9 = up σ (k0 + 1) (σ k0 0).toNatClampNeg x1 → (vp_in (τ9 k0 0) 30 ∧ (∀ τ19 : Sg, τ19 = up τ9 (k0 + 2) (τ9 k0 0).toNatClampNeg x2 → (vp_in (τ19 k0 0) 30 ∧ (∀ τ29 : Sg, τ29 = up τ19 (k0 + 3) (τ19 k0 0).toNatClampNeg x3 → (vp_in (τ29 k0 0) 30 ∧ (∀ τ40 : Sg, τ40 = up τ29 (k0 + 4) (τ29 k0 0).toNatClampNeg x4 → (vp_in (τ40 k0 0) 30 ∧ (∀ τ50 : Sg, τ50 = up τ40 (k0 + 5) (τ40 k0 0).toNatClampNeg 0 → (∀ τ58 : Sg, τ58 = up τ50 k0 0 ((τ50 k0 0) + 1) → (K τ58)))))))))))
set_option maxRecDepth 20000 in
set_option maxHeartbeats 2000000 in
theorem ev_X6_addTie (l : Launch) (k0 : Nat) (hk0 : k0 ∈ seaL) (x1 : Int32) (x2 : Int32) (x3 : Int32) (x4 : Int32) {σ : Sg} {K : Sg → Prop} (h : wp_X6_addTie k0 x1 x2 x3 x4 σ K) : Ev l yX6_addTie cX6_addTie 5 none 0 [.ref k0, .int x1, .int x2, .int x3, .int x4] σ (qV K) := by
  refine ev_ov (by decide) (Nat.le_of_ble_eq_true rfl) ?_
  show AV l RX6 cX6_addTie 5 none 0 (qV K) 0 [(0, .ref k0), (1, .int x1), (2, .int x2), (3, .int x3), (4, .int x4)] [] σ
  refine aw_aload_n (pc := 0) 0 dX6_addTie_0 rfl ?_
  refine aw_getR (pc := 1) 2 kcX6 dX6_addTie_1 lfX6_9 (sea_nn hk0) (sea_ki hk0) (by decide) rfl (sea_r2 hk0) ?_
  refine aw_aload_n (pc := 4) 0 dX6_addTie_4 rfl ?_
  refine aw_getI (pc := 5) 0 kcX6 dX6_addTie_5 lfX6_33 (sea_nn hk0) (sea_ki hk0) (by decide) rfl ?_
  refine aw_iload_n (pc := 8) 1 dX6_addTie_8 rfl ?_
  refine aw_iast (pc := 9) (j := (σ k0 0).toNatClampNeg) (v := x1) dX6_addTie_9 (sea_a1 hk0).1 (sea_a1 hk0).2.1 (sea_a1 hk0).2.2 h.1 rfl rfl ?_
  have h := h.2
  refine aw_tops (fun τ9 eτ9 => ?_)
  have h := h τ9 eτ9
  refine aw_aload_n (pc := 10) 0 dX6_addTie_10 rfl ?_
  refine aw_getR (pc := 11) 3 kcX6 dX6_addTie_11 lfX6_15 (sea_nn hk0) (sea_ki hk0) (by decide) rfl (sea_r3 hk0) ?_
  refine aw_aload_n (pc := 14) 0 dX6_addTie_14 rfl ?_
  refine aw_getI (pc := 15) 0 kcX6 dX6_addTie_15 lfX6_33 (sea_nn hk0) (sea_ki hk0) (by decide) rfl ?_
  refine aw_iload_n (pc := 18) 2 dX6_addTie_18 rfl ?_
  refine aw_iast (pc := 19) (j := (τ9 k0 0).toNatClampNeg) (v := x2) dX6_addTie_19 (sea_a2 hk0).1 (sea_a2 hk0).2.1 (sea_a2 hk0).2.2 h.1 rfl rfl ?_
  have h := h.2
  refine aw_tops (fun τ19 eτ19 => ?_)
  have h := h τ19 eτ19
  refine aw_aload_n (pc := 20) 0 dX6_addTie_20 rfl ?_
  refine aw_getR (pc := 21) 4 kcX6 dX6_addTie_21 lfX6_18 (sea_nn hk0) (sea_ki hk0) (by decide) rfl (sea_r4 hk0) ?_
  refine aw_aload_n (pc := 24) 0 dX6_addTie_24 rfl ?_
  refine aw_getI (pc := 25) 0 kcX6 dX6_addTie_25 lfX6_33 (sea_nn hk0) (sea_ki hk0) (by decide) rfl ?_
  refine aw_iload_n (pc := 28) 3 dX6_addTie_28 rfl ?_
  refine aw_iast (pc := 29) (j := (τ19 k0 0).toNatClampNeg) (v := x3) dX6_addTie_29 (sea_a3 hk0).1 (sea_a3 hk0).2.1 (sea_a3 hk0).2.2 h.1 rfl rfl ?_
  have h := h.2
  refine aw_tops (fun τ29 eτ29 => ?_)
  have h := h τ29 eτ29
  refine aw_aload_n (pc := 30) 0 dX6_addTie_30 rfl ?_
  refine aw_getR (pc := 31) 5 kcX6 dX6_addTie_31 lfX6_21 (sea_nn hk0) (sea_ki hk0) (by decide) rfl (sea_r5 hk0) ?_
  refine aw_aload_n (pc := 34) 0 dX6_addTie_34 rfl ?_
  refine aw_getI (pc := 35) 0 kcX6 dX6_addTie_35 lfX6_33 (sea_nn hk0) (sea_ki hk0) (by decide) rfl ?_
  refine aw_iload (pc := 38) 4 dX6_addTie_38 rfl ?_
  refine aw_iast (pc := 40) (j := (τ29 k0 0).toNatClampNeg) (v := x4) dX6_addTie_40 (sea_a4 hk0).1 (sea_a4 hk0).2.1 (sea_a4 hk0).2.2 h.1 rfl rfl ?_
  have h := h.2
  refine aw_tops (fun τ40 eτ40 => ?_)
  have h := h τ40 eτ40
  refine aw_aload_n (pc := 41) 0 dX6_addTie_41 rfl ?_
  refine aw_getR (pc := 42) 6 kcX6 dX6_addTie_42 lfX6_24 (sea_nn hk0) (sea_ki hk0) (by decide) rfl (sea_r6 hk0) ?_
  refine aw_aload_n (pc := 45) 0 dX6_addTie_45 rfl ?_
  refine aw_getI (pc := 46) 0 kcX6 dX6_addTie_46 lfX6_33 (sea_nn hk0) (sea_ki hk0) (by decide) rfl ?_
  refine aw_iconst (pc := 49) 0 dX6_addTie_49 (by decide) ?_
  refine aw_iast (pc := 50) (j := (τ40 k0 0).toNatClampNeg) (v := 0) dX6_addTie_50 (sea_a5 hk0).1 (sea_a5 hk0).2.1 (sea_a5 hk0).2.2 h.1 rfl rfl ?_
  have h := h.2
  refine aw_tops (fun τ50 eτ50 => ?_)
  have h := h τ50 eτ50
  refine aw_aload_n (pc := 51) 0 dX6_addTie_51 rfl ?_
  refine aw_dup (pc := 52) dX6_addTie_52 rfl ?_
  refine aw_getI (pc := 53) 0 kcX6 dX6_addTie_53 lfX6_33 (sea_nn hk0) (sea_ki hk0) (by decide) rfl ?_
  refine aw_iconst (pc := 56) 1 dX6_addTie_56 (by decide) ?_
  refine aw_iadd (pc := 57) dX6_addTie_57 ?_
  refine aw_put (pc := 58) 0 kcX6 dX6_addTie_58 lfX6_33 (sea_nn hk0) (sea_ki hk0) (by decide) rfl rfl rfl rfl ?_
  refine aw_tops (fun τ58 eτ58 => ?_)
  have h := h τ58 eτ58
  exact aw_vret (pc := 61) rfl dX6_addTie_61 ⟨rfl, h⟩
def wp_X6_addGame (k0 : Nat) (x1 : Int32) (x2 : Int32) (x3 : Int32) (σ : Sg) (K : Sg → Prop) : Prop :=
  vp_in x1 30 ∧ (∀ v10 : Int32, v10 = (x1 * 4) + (σ (k0 + 5) x1.toNatClampNeg) → (vp_in v10 120 ∧ (∀ τ19 : Sg, τ19 = up σ (k0 + 6) v10.toNatClampNeg x2 → (vp_in v10 120 ∧ (∀ τ27 : Sg, τ27 = up τ19 (k0 + 7) v10.toNatClampNeg x3 → (vp_in x1 30 ∧ (vp_in x1 30 ∧ (∀ τ37 : Sg, τ37 = up τ27 (k0 + 5) x1.toNatClampNeg ((τ27 (k0 + 5) x1.toNatClampNeg) + 1) → (K τ37)))))))))
set_option maxRecDepth 20000 in
set_option maxHeartbeats 2000000 in
theorem ev_X6_addGame (l : Launch) (k0 : Nat) (hk0 : k0 ∈ seaL) (x1 : Int32) (x2 : Int32) (x3 : Int32) {σ : Sg} {K : Sg → Prop} (h : wp_X6_addGame k0 x1 x2 x3 σ K) : Ev l yX6_addGame cX6_addGame 5 none 0 [.ref k0, .int x1, .int x2, .int x3] σ (qV K) := by
  refine ev_ov (by decide) (Nat.le_of_ble_eq_true rfl) ?_
  show AV l RX6 cX6_addGame 5 none 0 (qV K) 0 [(0, .ref k0), (1, .int x1), (2, .int x2), (3, .int x3)] [] σ
  refine aw_iload_n (pc := 0) 1 dX6_addGame_0 rfl ?_
  refine aw_iconst (pc := 1) 4 dX6_addGame_1 (by decide) ?_
  refine aw_imul (pc := 2) dX6_addGame_2 ?_
  refine aw_aload_n (pc := 3) 0 dX6_addGame_3 rfl ?_
  refine aw_getR (pc := 4) 6 kcX6 dX6_addGame_4 lfX6_24 (sea_nn hk0) (sea_ki hk0) (by decide) rfl (sea_r6 hk0) ?_
  refine aw_iload_n (pc := 7) 1 dX6_addGame_7 rfl ?_
  refine aw_iald (pc := 8) (j := x1.toNatClampNeg) dX6_addGame_8 (sea_a5 hk0).1 (sea_a5 hk0).2.1 (sea_a5 hk0).2.2 h.1 rfl ?_
  have h := h.2
  refine aw_iadd (pc := 9) dX6_addGame_9 ?_
  refine aw_topi (fun v10 ev10 => ?_)
  have h := h v10 ev10
  refine aw_istore (pc := 10) [(4, .int v10), (0, .ref k0), (1, .int x1), (2, .int x2), (3, .int x3)] dX6_addGame_10 (by decide) rfl ?_
  refine aw_aload_n (pc := 12) 1 dX6_addGame_12 rfl ?_
  refine aw_getR (pc := 13) 7 kcX6 dX6_addGame_13 lfX6_27 (sea_nn hk0) (sea_ki hk0) (by decide) rfl (sea_r7 hk0) ?_
  refine aw_iload (pc := 16) 0 dX6_addGame_16 rfl ?_
  refine aw_iload_n (pc := 18) 3 dX6_addGame_18 rfl ?_
  refine aw_iast (pc := 19) (j := v10.toNatClampNeg) (v := x2) dX6_addGame_19 (sea_a6 hk0).1 (sea_a6 hk0).2.1 (sea_a6 hk0).2.2 h.1 rfl rfl ?_
  have h := h.2
  refine aw_tops (fun τ19 eτ19 => ?_)
  have h := h τ19 eτ19
  refine aw_aload_n (pc := 20) 1 dX6_addGame_20 rfl ?_
  refine aw_getR (pc := 21) 8 kcX6 dX6_addGame_21 lfX6_30 (sea_nn hk0) (sea_ki hk0) (by decide) rfl (sea_r8 hk0) ?_
  refine aw_iload (pc := 24) 0 dX6_addGame_24 rfl ?_
  refine aw_iload_n (pc := 26) 4 dX6_addGame_26 rfl ?_
  refine aw_iast (pc := 27) (j := v10.toNatClampNeg) (v := x3) dX6_addGame_27 (sea_a7 hk0).1 (sea_a7 hk0).2.1 (sea_a7 hk0).2.2 h.1 rfl rfl ?_
  have h := h.2
  refine aw_tops (fun τ27 eτ27 => ?_)
  have h := h τ27 eτ27
  refine aw_aload_n (pc := 28) 1 dX6_addGame_28 rfl ?_
  refine aw_getR (pc := 29) 6 kcX6 dX6_addGame_29 lfX6_24 (sea_nn hk0) (sea_ki hk0) (by decide) rfl (sea_r6 hk0) ?_
  refine aw_iload_n (pc := 32) 2 dX6_addGame_32 rfl ?_
  refine aw_dup2 (pc := 33) dX6_addGame_33 rfl rfl ?_
  refine aw_iald (pc := 34) (j := x1.toNatClampNeg) dX6_addGame_34 (sea_a5 hk0).1 (sea_a5 hk0).2.1 (sea_a5 hk0).2.2 h.1 rfl ?_
  have h := h.2
  refine aw_iconst (pc := 35) 1 dX6_addGame_35 (by decide) ?_
  refine aw_iadd (pc := 36) dX6_addGame_36 ?_
  refine aw_iast (pc := 37) (j := x1.toNatClampNeg) (v := ((τ27 (k0 + 5) x1.toNatClampNeg) + 1)) dX6_addGame_37 (sea_a5 hk0).1 (sea_a5 hk0).2.1 (sea_a5 hk0).2.2 h.1 rfl rfl ?_
  have h := h.2
  refine aw_tops (fun τ37 eτ37 => ?_)
  have h := h τ37 eτ37
  exact aw_vret (pc := 38) rfl dX6_addGame_38 ⟨rfl, h⟩
def wp_X6_closeRound (k0 : Nat) (x1 : Int32) (x2 : Int32) (σ : Sg) (K : Sg → Prop) : Prop :=
  ∀ τ14 : Sg, τ14 = up σ k0 1 ((σ k0 1) ||| (1 <<< (((x1 * 6) + x2) &&& 31))) → (K τ14)
set_option maxRecDepth 20000 in
set_option maxHeartbeats 2000000 in
theorem ev_X6_closeRound (l : Launch) (k0 : Nat) (hk0 : k0 ∈ seaL) (x1 : Int32) (x2 : Int32) {σ : Sg} {K : Sg → Prop} (h : wp_X6_closeRound k0 x1 x2 σ K) : Ev l yX6_closeRound cX6_closeRound 3 none 0 [.ref k0, .int x1, .int x2] σ (qV K) := by
  refine ev_ov (by decide) (Nat.le_of_ble_eq_true rfl) ?_
  show AV l RX6 cX6_closeRound 3 none 0 (qV K) 0 [(0, .ref k0), (1, .int x1), (2, .int x2)] [] σ
  refine aw_aload_n (pc := 0) 0 dX6_closeRound_0 rfl ?_
  refine aw_dup (pc := 1) dX6_closeRound_1 rfl ?_
  refine aw_getI (pc := 2) 1 kcX6 dX6_closeRound_2 lfX6_37 (sea_nn hk0) (sea_ki hk0) (by decide) rfl ?_
  refine aw_iconst (pc := 5) 1 dX6_closeRound_5 (by decide) ?_
  refine aw_iload_n (pc := 6) 1 dX6_closeRound_6 rfl ?_
  refine aw_bipush (pc := 7) 6 dX6_closeRound_7 (by decide) ?_
  refine aw_imul (pc := 9) dX6_closeRound_9 ?_
  refine aw_iload_n (pc := 10) 2 dX6_closeRound_10 rfl ?_
  refine aw_iadd (pc := 11) dX6_closeRound_11 ?_
  refine aw_ishl (pc := 12) dX6_closeRound_12 ?_
  refine aw_ior (pc := 13) dX6_closeRound_13 ?_
  refine aw_put (pc := 14) 1 kcX6 dX6_closeRound_14 lfX6_37 (sea_nn hk0) (sea_ki hk0) (by decide) rfl rfl rfl rfl ?_
  refine aw_tops (fun τ14 eτ14 => ?_)
  have h := h τ14 eτ14
  exact aw_vret (pc := 17) rfl dX6_closeRound_17 ⟨rfl, h⟩
def wp_X6_isClosed (k0 : Nat) (x1 : Int32) (x2 : Int32) (σ : Sg) (K : Int32 → Sg → Prop) : Prop :=
  br ((((σ k0 1) >>> (((x1 * 6) + x2) &&& 31)) &&& 1) = 1) (K 1 σ) (K 0 σ)
set_option maxRecDepth 20000 in
set_option maxHeartbeats 2000000 in
theorem ev_X6_isClosed (l : Launch) (k0 : Nat) (hk0 : k0 ∈ seaL) (x1 : Int32) (x2 : Int32) {σ : Sg} {K : Int32 → Sg → Prop} (h : wp_X6_isClosed k0 x1 x2 σ K) : Ev l yX6_isClosed cX6_isClosed 3 (some .boolean) 0 [.ref k0, .int x1, .int x2] σ (qI K) := by
  refine ev_ov (by decide) (Nat.le_of_ble_eq_true rfl) ?_
  show AV l RX6 cX6_isClosed 3 (some .boolean) 0 (qI K) 0 [(0, .ref k0), (1, .int x1), (2, .int x2)] [] σ
  refine aw_aload_n (pc := 0) 0 dX6_isClosed_0 rfl ?_
  refine aw_getI (pc := 1) 1 kcX6 dX6_isClosed_1 lfX6_37 (sea_nn hk0) (sea_ki hk0) (by decide) rfl ?_
  refine aw_iload_n (pc := 4) 1 dX6_isClosed_4 rfl ?_
  refine aw_bipush (pc := 5) 6 dX6_isClosed_5 (by decide) ?_
  refine aw_imul (pc := 7) dX6_isClosed_7 ?_
  refine aw_iload_n (pc := 8) 2 dX6_isClosed_8 rfl ?_
  refine aw_iadd (pc := 9) dX6_isClosed_9 ?_
  refine aw_ishr (pc := 10) dX6_isClosed_10 ?_
  refine aw_iconst (pc := 11) 1 dX6_isClosed_11 (by decide) ?_
  refine aw_iand (pc := 12) dX6_isClosed_12 ?_
  refine aw_iconst (pc := 13) 1 dX6_isClosed_13 (by decide) ?_
  refine aw_icmp_ne (pc := 14) 21 dX6_isClosed_14 (by decide) (fun q => ?_) (fun q => ?_)
  · have h := h.2 q
    refine aw_iconst (pc := 21) 0 dX6_isClosed_21 (by decide) ?_
    exact aw_zret (pc := 22) rfl rfl dX6_isClosed_22 ⟨_, rfl, h⟩
  · have h := h.1 q
    refine aw_iconst (pc := 17) 1 dX6_isClosed_17 (by decide) ?_
    refine aw_goto (pc := 18) 22 dX6_isClosed_18 (by decide) ?_
    exact aw_zret (pc := 22) rfl rfl dX6_isClosed_22 ⟨_, rfl, h⟩
def wp_X6_isOf (k0 : Nat) (x1 : Int32) (x2 : Int32) (x3 : Int32) (σ : Sg) (K : Int32 → Sg → Prop) : Prop :=
  vp_in x1 30 ∧ (br ((σ (k0 + 1) x1.toNatClampNeg) = x2) (vp_in x1 30 ∧ (br ((σ (k0 + 2) x1.toNatClampNeg) = x3) (K 1 σ) (K 0 σ))) (K 0 σ))
set_option maxRecDepth 20000 in
set_option maxHeartbeats 2000000 in
theorem ev_X6_isOf (l : Launch) (k0 : Nat) (hk0 : k0 ∈ seaL) (x1 : Int32) (x2 : Int32) (x3 : Int32) {σ : Sg} {K : Int32 → Sg → Prop} (h : wp_X6_isOf k0 x1 x2 x3 σ K) : Ev l yX6_isOf cX6_isOf 4 (some .boolean) 0 [.ref k0, .int x1, .int x2, .int x3] σ (qI K) := by
  refine ev_ov (by decide) (Nat.le_of_ble_eq_true rfl) ?_
  show AV l RX6 cX6_isOf 4 (some .boolean) 0 (qI K) 0 [(0, .ref k0), (1, .int x1), (2, .int x2), (3, .int x3)] [] σ
  refine aw_aload_n (pc := 0) 0 dX6_isOf_0 rfl ?_
  refine aw_getR (pc := 1) 2 kcX6 dX6_isOf_1 lfX6_9 (sea_nn hk0) (sea_ki hk0) (by decide) rfl (sea_r2 hk0) ?_
  refine aw_iload_n (pc := 4) 1 dX6_isOf_4 rfl ?_
  refine aw_iald (pc := 5) (j := x1.toNatClampNeg) dX6_isOf_5 (sea_a1 hk0).1 (sea_a1 hk0).2.1 (sea_a1 hk0).2.2 h.1 rfl ?_
  have h := h.2
  refine aw_iload_n (pc := 6) 2 dX6_isOf_6 rfl ?_
  refine aw_icmp_ne (pc := 7) 24 dX6_isOf_7 (by decide) (fun q => ?_) (fun q => ?_)
  · have h := h.2 q
    refine aw_iconst (pc := 24) 0 dX6_isOf_24 (by decide) ?_
    exact aw_zret (pc := 25) rfl rfl dX6_isOf_25 ⟨_, rfl, h⟩
  · have h := h.1 q
    refine aw_aload_n (pc := 10) 0 dX6_isOf_10 rfl ?_
    refine aw_getR (pc := 11) 3 kcX6 dX6_isOf_11 lfX6_15 (sea_nn hk0) (sea_ki hk0) (by decide) rfl (sea_r3 hk0) ?_
    refine aw_iload_n (pc := 14) 1 dX6_isOf_14 rfl ?_
    refine aw_iald (pc := 15) (j := x1.toNatClampNeg) dX6_isOf_15 (sea_a2 hk0).1 (sea_a2 hk0).2.1 (sea_a2 hk0).2.2 h.1 rfl ?_
    have h := h.2
    refine aw_iload_n (pc := 16) 3 dX6_isOf_16 rfl ?_
    refine aw_icmp_ne (pc := 17) 24 dX6_isOf_17 (by decide) (fun q => ?_) (fun q => ?_)
    · have h := h.2 q
      refine aw_iconst (pc := 24) 0 dX6_isOf_24 (by decide) ?_
      exact aw_zret (pc := 25) rfl rfl dX6_isOf_25 ⟨_, rfl, h⟩
    · have h := h.1 q
      refine aw_iconst (pc := 20) 1 dX6_isOf_20 (by decide) ?_
      refine aw_goto (pc := 21) 25 dX6_isOf_21 (by decide) ?_
      exact aw_zret (pc := 25) rfl rfl dX6_isOf_25 ⟨_, rfl, h⟩
def wp_X6_resultOf (k0 : Nat) (x1 : Int32) (σ : Sg) (K : Int32 → Sg → Prop) : Prop :=
  vp_in x1 30 ∧ (br ((σ (k0 + 5) x1.toNatClampNeg) ≤ 0) (K 2 σ) (vp_in x1 30 ∧ (vp_in (((x1 * 4) + (σ (k0 + 5) x1.toNatClampNeg)) - 1) 120 ∧ (K (σ (k0 + 7) (((x1 * 4) + (σ (k0 + 5) x1.toNatClampNeg)) - 1).toNatClampNeg) σ))))
set_option maxRecDepth 20000 in
set_option maxHeartbeats 2000000 in
theorem ev_X6_resultOf (l : Launch) (k0 : Nat) (hk0 : k0 ∈ seaL) (x1 : Int32) {σ : Sg} {K : Int32 → Sg → Prop} (h : wp_X6_resultOf k0 x1 σ K) : Ev l yX6_resultOf cX6_resultOf 2 (some .int) 0 [.ref k0, .int x1] σ (qI K) := by
  refine ev_ov (by decide) (Nat.le_of_ble_eq_true rfl) ?_
  show AV l RX6 cX6_resultOf 2 (some .int) 0 (qI K) 0 [(0, .ref k0), (1, .int x1)] [] σ
  refine aw_aload_n (pc := 0) 0 dX6_resultOf_0 rfl ?_
  refine aw_getR (pc := 1) 6 kcX6 dX6_resultOf_1 lfX6_24 (sea_nn hk0) (sea_ki hk0) (by decide) rfl (sea_r6 hk0) ?_
  refine aw_iload_n (pc := 4) 1 dX6_resultOf_4 rfl ?_
  refine aw_iald (pc := 5) (j := x1.toNatClampNeg) dX6_resultOf_5 (sea_a5 hk0).1 (sea_a5 hk0).2.1 (sea_a5 hk0).2.2 h.1 rfl ?_
  have h := h.2
  refine aw_if_le (pc := 6) 29 dX6_resultOf_6 (by decide) (fun q => ?_) (fun q => ?_)
  · have h := h.1 q
    refine aw_iconst (pc := 29) 2 dX6_resultOf_29 (by decide) ?_
    exact aw_iret (pc := 30) rfl dX6_resultOf_30 ⟨_, rfl, h⟩
  · have h := h.2 q
    refine aw_aload_n (pc := 9) 0 dX6_resultOf_9 rfl ?_
    refine aw_getR (pc := 10) 8 kcX6 dX6_resultOf_10 lfX6_30 (sea_nn hk0) (sea_ki hk0) (by decide) rfl (sea_r8 hk0) ?_
    refine aw_iload_n (pc := 13) 1 dX6_resultOf_13 rfl ?_
    refine aw_iconst (pc := 14) 4 dX6_resultOf_14 (by decide) ?_
    refine aw_imul (pc := 15) dX6_resultOf_15 ?_
    refine aw_aload_n (pc := 16) 0 dX6_resultOf_16 rfl ?_
    refine aw_getR (pc := 17) 6 kcX6 dX6_resultOf_17 lfX6_24 (sea_nn hk0) (sea_ki hk0) (by decide) rfl (sea_r6 hk0) ?_
    refine aw_iload_n (pc := 20) 1 dX6_resultOf_20 rfl ?_
    refine aw_iald (pc := 21) (j := x1.toNatClampNeg) dX6_resultOf_21 (sea_a5 hk0).1 (sea_a5 hk0).2.1 (sea_a5 hk0).2.2 h.1 rfl ?_
    have h := h.2
    refine aw_iadd (pc := 22) dX6_resultOf_22 ?_
    refine aw_iconst (pc := 23) 1 dX6_resultOf_23 (by decide) ?_
    refine aw_isub (pc := 24) dX6_resultOf_24 ?_
    refine aw_iald (pc := 25) (j := (((x1 * 4) + (σ (k0 + 5) x1.toNatClampNeg)) - 1).toNatClampNeg) dX6_resultOf_25 (sea_a7 hk0).1 (sea_a7 hk0).2.1 (sea_a7 hk0).2.2 h.1 rfl ?_
    have h := h.2
    refine aw_goto (pc := 26) 30 dX6_resultOf_26 (by decide) ?_
    exact aw_iret (pc := 30) rfl dX6_resultOf_30 ⟨_, rfl, h⟩
def wp_X6_isDecided (k0 : Nat) (x1 : Int32) (σ : Sg) (K : Int32 → Sg → Prop) : Prop :=
  wp_X6_resultOf k0 x1 σ <| fun r2_ τ2 => (br (r2_ = 2) (K 0 τ2) (K 1 τ2))
set_option maxRecDepth 20000 in
set_option maxHeartbeats 2000000 in
theorem ev_X6_isDecided (l : Launch) (k0 : Nat) (hk0 : k0 ∈ seaL) (x1 : Int32) {σ : Sg} {K : Int32 → Sg → Prop} (h : wp_X6_isDecided k0 x1 σ K) : Ev l yX6_isDecided cX6_isDecided 2 (some .boolean) 1 [.ref k0, .int x1] σ (qI K) := by
  refine ev_ov (by decide) (Nat.le_of_ble_eq_true rfl) ?_
  show AV l RX6 cX6_isDecided 2 (some .boolean) 1 (qI K) 0 [(0, .ref k0), (1, .int x1)] [] σ
  refine aw_aload_n (pc := 0) 0 dX6_isDecided_0 rfl ?_
  refine aw_iload_n (pc := 1) 1 dX6_isDecided_1 rfl ?_
  refine aw_callV (pc := 2) (As := [.int x1]) (rest := []) kcX6 (sea_nn hk0) (sea_ki hk0) rfl (ev_X6_resultOf l k0 hk0 x1 h) mfX6_resultOf dX6_isDecided_2 lmX6_62 ⟨Nat.le_refl _, Nat.le_refl _⟩ (by decide) rfl rfl (Nat.le_of_ble_eq_true rfl) (nxI (fun r2_ τ2 h => ?_))
  refine aw_iconst (pc := 5) 2 dX6_isDecided_5 (by decide) ?_
  refine aw_icmp_eq (pc := 6) 13 dX6_isDecided_6 (by decide) (fun q => ?_) (fun q => ?_)
  · have h := h.1 q
    refine aw_iconst (pc := 13) 0 dX6_isDecided_13 (by decide) ?_
    exact aw_zret (pc := 14) rfl rfl dX6_isDecided_14 ⟨_, rfl, h⟩
  · have h := h.2 q
    refine aw_iconst (pc := 9) 1 dX6_isDecided_9 (by decide) ?_
    refine aw_goto (pc := 10) 14 dX6_isDecided_10 (by decide) ?_
    exact aw_zret (pc := 14) rfl rfl dX6_isDecided_14 ⟨_, rfl, h⟩
def b_X6_canClose_8 (k0 : Nat) (x1 : Int32) (x2 : Int32)  (K : Int32 → Sg → Prop) : Nat → Int32 → Int32 → Int32 → Sg → Prop
  | 0, _, _, _, _ => False
  | n + 1, y3, y4, y5, σ =>
  br ((σ k0 0) ≤ y5) (br (y3 = 0) (K 0 σ) (br (y4 = 0) (K 0 σ) (wp_X6_isClosed k0 x1 x2 σ <| fun r69_ τ69 => (br (r69_ = 0) (K 1 τ69) (K 0 τ69))))) (wp_X6_isOf k0 y5 x1 x2 σ <| fun r22_ τ22 => (br (r22_ = 0) (∀ v51 : Int32, v51 = y5 + 1 → (b_X6_canClose_8 k0 x1 x2  K n y3 y4 v51 τ22)) (br (y4 = 0) (∀ v51 : Int32, v51 = y5 + 1 → (b_X6_canClose_8 k0 x1 x2  K n 1 0 v51 τ22)) (wp_X6_isDecided k0 y5 τ22 <| fun r38_ τ38 => (br (r38_ = 0) (∀ v51 : Int32, v51 = y5 + 1 → (b_X6_canClose_8 k0 x1 x2  K n 1 0 v51 τ38)) (∀ v51 : Int32, v51 = y5 + 1 → (b_X6_canClose_8 k0 x1 x2  K n 1 1 v51 τ38)))))))
set_option maxRecDepth 20000 in
set_option maxHeartbeats 2000000 in
theorem bt_X6_canClose_8 (l : Launch) (k0 : Nat) (hk0 : k0 ∈ seaL) (x1 : Int32) (x2 : Int32) {K : Int32 → Sg → Prop}   : ∀ (n : Nat) (y3 : Int32) (y4 : Int32) (y5 : Int32)  (σ : Sg), b_X6_canClose_8 k0 x1 x2  K n y3 y4 y5 σ → AV l RX6 cX6_canClose 6 (some .boolean) 2 (qI K) 8 [(0, .ref k0), (1, .int x1), (2, .int x2), (3, .int y3), (4, .int y4), (5, .int y5)] [] σ := by
  intro n
  induction n with
  | zero => intro y3 y4 y5 σ h; exact h.elim
  | succ n ih =>
    intro y3 y4 y5 σ h
    refine aw_iload (pc := 8) 5 dX6_canClose_8 rfl ?_
    refine aw_aload_n (pc := 10) 0 dX6_canClose_10 rfl ?_
    refine aw_getI (pc := 11) 0 kcX6 dX6_canClose_11 lfX6_33 (sea_nn hk0) (sea_ki hk0) (by decide) rfl ?_
    refine aw_icmp_ge (pc := 14) 57 dX6_canClose_14 (by decide) (fun q => ?_) (fun q => ?_)
    · have h := h.1 q
      refine aw_iload_n (pc := 57) 3 dX6_canClose_57 rfl ?_
      refine aw_if_eq (pc := 58) 79 dX6_canClose_58 (by decide) (fun q => ?_) (fun q => ?_)
      · have h := h.1 q
        refine aw_iconst (pc := 79) 0 dX6_canClose_79 (by decide) ?_
        exact aw_zret (pc := 80) rfl rfl dX6_canClose_80 ⟨_, rfl, h⟩
      · have h := h.2 q
        refine aw_iload (pc := 61) 4 dX6_canClose_61 rfl ?_
        refine aw_if_eq (pc := 63) 79 dX6_canClose_63 (by decide) (fun q => ?_) (fun q => ?_)
        · have h := h.1 q
          refine aw_iconst (pc := 79) 0 dX6_canClose_79 (by decide) ?_
          exact aw_zret (pc := 80) rfl rfl dX6_canClose_80 ⟨_, rfl, h⟩
        · have h := h.2 q
          refine aw_aload_n (pc := 66) 0 dX6_canClose_66 rfl ?_
          refine aw_iload_n (pc := 67) 1 dX6_canClose_67 rfl ?_
          refine aw_iload_n (pc := 68) 2 dX6_canClose_68 rfl ?_
          refine aw_callV (pc := 69) (As := [.int x1, .int x2]) (rest := []) kcX6 (sea_nn hk0) (sea_ki hk0) rfl (ev_X6_isClosed l k0 hk0 x1 x2 h) mfX6_isClosed dX6_canClose_69 lmX6_54 ⟨Nat.le_refl _, Nat.le_refl _⟩ (by decide) rfl rfl (Nat.le_of_ble_eq_true rfl) (nxI (fun r69_ τ69 h => ?_))
          refine aw_if_ne (pc := 72) 79 dX6_canClose_72 (by decide) (fun q => ?_) (fun q => ?_)
          · have h := h.2 q
            refine aw_iconst (pc := 79) 0 dX6_canClose_79 (by decide) ?_
            exact aw_zret (pc := 80) rfl rfl dX6_canClose_80 ⟨_, rfl, h⟩
          · have h := h.1 q
            refine aw_iconst (pc := 75) 1 dX6_canClose_75 (by decide) ?_
            refine aw_goto (pc := 76) 80 dX6_canClose_76 (by decide) ?_
            exact aw_zret (pc := 80) rfl rfl dX6_canClose_80 ⟨_, rfl, h⟩
    · have h := h.2 q
      refine aw_aload_n (pc := 17) 0 dX6_canClose_17 rfl ?_
      refine aw_iload (pc := 18) 5 dX6_canClose_18 rfl ?_
      refine aw_iload_n (pc := 20) 1 dX6_canClose_20 rfl ?_
      refine aw_iload_n (pc := 21) 2 dX6_canClose_21 rfl ?_
      refine aw_callV (pc := 22) (As := [.int y5, .int x1, .int x2]) (rest := []) kcX6 (sea_nn hk0) (sea_ki hk0) rfl (ev_X6_isOf l k0 hk0 y5 x1 x2 h) mfX6_isOf dX6_canClose_22 lmX6_46 ⟨Nat.le_refl _, Nat.le_refl _⟩ (by decide) rfl rfl (Nat.le_of_ble_eq_true rfl) (nxI (fun r22_ τ22 h => ?_))
      refine aw_if_eq (pc := 25) 51 dX6_canClose_25 (by decide) (fun q => ?_) (fun q => ?_)
      · have h := h.1 q
        obtain ⟨v51, ev51⟩ : ∃ v : Int32, v = y5 + 1 := ⟨_, rfl⟩
        have h := h v51 ev51
        refine aw_iinc (pc := 51) 5 v51 [(5, .int v51), (0, .ref k0), (1, .int x1), (2, .int x2), (3, .int y3), (4, .int y4)] dX6_canClose_51 rfl (by rw [ev51]; rfl) (by decide) rfl ?_
        refine aw_goto (pc := 54) 8 dX6_canClose_54 (by decide) ?_
        refine aw_sub (L' := [(0, .ref k0), (1, .int x1), (2, .int x2), (3, .int y3), (4, .int y4), (5, .int v51)]) [1, 2, 3, 4, 5, 0] rfl ?_
        exact ih y3 y4 v51  _ h
      · have h := h.2 q
        refine aw_iconst (pc := 28) 1 dX6_canClose_28 (by decide) ?_
        refine aw_istore_n (pc := 29) (i := 3) [(3, .int 1), (0, .ref k0), (1, .int x1), (2, .int x2), (4, .int y4), (5, .int y5)] dX6_canClose_29 rfl (by decide) rfl ?_
        refine aw_iload (pc := 30) 4 dX6_canClose_30 rfl ?_
        refine aw_if_eq (pc := 32) 48 dX6_canClose_32 (by decide) (fun q => ?_) (fun q => ?_)
        · have h := h.1 q
          refine aw_iconst (pc := 48) 0 dX6_canClose_48 (by decide) ?_
          refine aw_istore (pc := 49) [(4, .int 0), (3, .int 1), (0, .ref k0), (1, .int x1), (2, .int x2), (5, .int y5)] dX6_canClose_49 (by decide) rfl ?_
          obtain ⟨v51, ev51⟩ : ∃ v : Int32, v = y5 + 1 := ⟨_, rfl⟩
          have h := h v51 ev51
          refine aw_iinc (pc := 51) 5 v51 [(5, .int v51), (4, .int 0), (3, .int 1), (0, .ref k0), (1, .int x1), (2, .int x2)] dX6_canClose_51 rfl (by rw [ev51]; rfl) (by decide) rfl ?_
          refine aw_goto (pc := 54) 8 dX6_canClose_54 (by decide) ?_
          refine aw_sub (L' := [(0, .ref k0), (1, .int x1), (2, .int x2), (3, .int 1), (4, .int 0), (5, .int v51)]) [3, 4, 5, 2, 1, 0] rfl ?_
          exact ih 1 0 v51  _ h
        · have h := h.2 q
          refine aw_aload_n (pc := 35) 1 dX6_canClose_35 rfl ?_
          refine aw_iload (pc := 36) 5 dX6_canClose_36 rfl ?_
          refine aw_callV (pc := 38) (As := [.int y5]) (rest := []) kcX6 (sea_nn hk0) (sea_ki hk0) rfl (ev_X6_isDecided l k0 hk0 y5 h) mfX6_isDecided dX6_canClose_38 lmX6_50 ⟨Nat.le_refl _, Nat.le_refl _⟩ (by decide) rfl rfl (Nat.le_of_ble_eq_true rfl) (nxI (fun r38_ τ38 h => ?_))
          refine aw_if_eq (pc := 41) 48 dX6_canClose_41 (by decide) (fun q => ?_) (fun q => ?_)
          · have h := h.1 q
            refine aw_iconst (pc := 48) 0 dX6_canClose_48 (by decide) ?_
            refine aw_istore (pc := 49) [(4, .int 0), (3, .int 1), (0, .ref k0), (1, .int x1), (2, .int x2), (5, .int y5)] dX6_canClose_49 (by decide) rfl ?_
            obtain ⟨v51, ev51⟩ : ∃ v : Int32, v = y5 + 1 := ⟨_, rfl⟩
            have h := h v51 ev51
            refine aw_iinc (pc := 51) 5 v51 [(5, .int v51), (4, .int 0), (3, .int 1), (0, .ref k0), (1, .int x1), (2, .int x2)] dX6_canClose_51 rfl (by rw [ev51]; rfl) (by decide) rfl ?_
            refine aw_goto (pc := 54) 8 dX6_canClose_54 (by decide) ?_
            refine aw_sub (L' := [(0, .ref k0), (1, .int x1), (2, .int x2), (3, .int 1), (4, .int 0), (5, .int v51)]) [3, 4, 5, 2, 1, 0] rfl ?_
            exact ih 1 0 v51  _ h
          · have h := h.2 q
            refine aw_iconst (pc := 44) 1 dX6_canClose_44 (by decide) ?_
            refine aw_goto (pc := 45) 49 dX6_canClose_45 (by decide) ?_
            refine aw_istore (pc := 49) [(4, .int 1), (3, .int 1), (0, .ref k0), (1, .int x1), (2, .int x2), (5, .int y5)] dX6_canClose_49 (by decide) rfl ?_
            obtain ⟨v51, ev51⟩ : ∃ v : Int32, v = y5 + 1 := ⟨_, rfl⟩
            have h := h v51 ev51
            refine aw_iinc (pc := 51) 5 v51 [(5, .int v51), (4, .int 1), (3, .int 1), (0, .ref k0), (1, .int x1), (2, .int x2)] dX6_canClose_51 rfl (by rw [ev51]; rfl) (by decide) rfl ?_
            refine aw_goto (pc := 54) 8 dX6_canClose_54 (by decide) ?_
            refine aw_sub (L' := [(0, .ref k0), (1, .int x1), (2, .int x2), (3, .int 1), (4, .int 1), (5, .int v51)]) [3, 4, 5, 2, 1, 0] rfl ?_
            exact ih 1 1 v51  _ h
def wp_X6_canClose (k0 : Nat) (x1 : Int32) (x2 : Int32) (σ : Sg) (K : Int32 → Sg → Prop) : Prop :=
  ∃ nf, b_X6_canClose_8 k0 x1 x2  K nf 0 1 0 σ
set_option maxRecDepth 20000 in
set_option maxHeartbeats 2000000 in
theorem ev_X6_canClose (l : Launch) (k0 : Nat) (hk0 : k0 ∈ seaL) (x1 : Int32) (x2 : Int32) {σ : Sg} {K : Int32 → Sg → Prop} (h : wp_X6_canClose k0 x1 x2 σ K) : Ev l yX6_canClose cX6_canClose 6 (some .boolean) 2 [.ref k0, .int x1, .int x2] σ (qI K) := by
  refine ev_ov (by decide) (Nat.le_of_ble_eq_true rfl) ?_
  show AV l RX6 cX6_canClose 6 (some .boolean) 2 (qI K) 0 [(0, .ref k0), (1, .int x1), (2, .int x2)] [] σ
  refine aw_iconst (pc := 0) 0 dX6_canClose_0 (by decide) ?_
  refine aw_istore_n (pc := 1) (i := 3) [(3, .int 0), (0, .ref k0), (1, .int x1), (2, .int x2)] dX6_canClose_1 rfl (by decide) rfl ?_
  refine aw_iconst (pc := 2) 1 dX6_canClose_2 (by decide) ?_
  refine aw_istore (pc := 3) [(4, .int 1), (3, .int 0), (0, .ref k0), (1, .int x1), (2, .int x2)] dX6_canClose_3 (by decide) rfl ?_
  refine aw_iconst (pc := 5) 0 dX6_canClose_5 (by decide) ?_
  refine aw_istore (pc := 6) [(5, .int 0), (4, .int 1), (3, .int 0), (0, .ref k0), (1, .int x1), (2, .int x2)] dX6_canClose_6 (by decide) rfl ?_
  refine aw_sub (L' := [(0, .ref k0), (1, .int x1), (2, .int x2), (3, .int 0), (4, .int 1), (5, .int 0)]) [3, 4, 5, 2, 1, 0] rfl ?_
  obtain ⟨nf, h⟩ := h
  exact bt_X6_canClose_8 l k0 hk0 x1 x2   nf 0 1 0  _ h
def b_X6_isIn_3 (k0 : Nat) (x1 : Int32) (x2 : Int32) (x3 : Int32)  (K : Int32 → Sg → Prop) : Nat → Int32 → Sg → Prop
  | 0, _, _ => False
  | n + 1, y4, σ =>
  br ((σ k0 0) ≤ y4) (K 0 σ) (wp_X6_isOf k0 y4 x1 x2 σ <| fun r17_ τ17 => (br (r17_ = 0) (∀ v47 : Int32, v47 = y4 + 1 → (b_X6_isIn_3 k0 x1 x2 x3  K n v47 τ17)) (vp_in y4 30 ∧ (br ((τ17 (k0 + 3) y4.toNatClampNeg) = x3) (K 1 τ17) (vp_in y4 30 ∧ (br ((τ17 (k0 + 4) y4.toNatClampNeg) = x3) (K 1 τ17) (∀ v47 : Int32, v47 = y4 + 1 → (b_X6_isIn_3 k0 x1 x2 x3  K n v47 τ17))))))))
set_option maxRecDepth 20000 in
set_option maxHeartbeats 2000000 in
theorem bt_X6_isIn_3 (l : Launch) (k0 : Nat) (hk0 : k0 ∈ seaL) (x1 : Int32) (x2 : Int32) (x3 : Int32) {K : Int32 → Sg → Prop}   : ∀ (n : Nat) (y4 : Int32)  (σ : Sg), b_X6_isIn_3 k0 x1 x2 x3  K n y4 σ → AV l RX6 cX6_isIn 5 (some .boolean) 1 (qI K) 3 [(0, .ref k0), (1, .int x1), (2, .int x2), (3, .int x3), (4, .int y4)] [] σ := by
  intro n
  induction n with
  | zero => intro y4 σ h; exact h.elim
  | succ n ih =>
    intro y4 σ h
    refine aw_iload (pc := 3) 4 dX6_isIn_3 rfl ?_
    refine aw_aload_n (pc := 5) 0 dX6_isIn_5 rfl ?_
    refine aw_getI (pc := 6) 0 kcX6 dX6_isIn_6 lfX6_33 (sea_nn hk0) (sea_ki hk0) (by decide) rfl ?_
    refine aw_icmp_ge (pc := 9) 53 dX6_isIn_9 (by decide) (fun q => ?_) (fun q => ?_)
    · have h := h.1 q
      refine aw_iconst (pc := 53) 0 dX6_isIn_53 (by decide) ?_
      exact aw_zret (pc := 54) rfl rfl dX6_isIn_54 ⟨_, rfl, h⟩
    · have h := h.2 q
      refine aw_aload_n (pc := 12) 0 dX6_isIn_12 rfl ?_
      refine aw_iload (pc := 13) 4 dX6_isIn_13 rfl ?_
      refine aw_iload_n (pc := 15) 1 dX6_isIn_15 rfl ?_
      refine aw_iload_n (pc := 16) 2 dX6_isIn_16 rfl ?_
      refine aw_callV (pc := 17) (As := [.int y4, .int x1, .int x2]) (rest := []) kcX6 (sea_nn hk0) (sea_ki hk0) rfl (ev_X6_isOf l k0 hk0 y4 x1 x2 h) mfX6_isOf dX6_isIn_17 lmX6_46 ⟨Nat.le_refl _, Nat.le_refl _⟩ (by decide) rfl rfl (Nat.le_of_ble_eq_true rfl) (nxI (fun r17_ τ17 h => ?_))
      refine aw_if_eq (pc := 20) 47 dX6_isIn_20 (by decide) (fun q => ?_) (fun q => ?_)
      · have h := h.1 q
        obtain ⟨v47, ev47⟩ : ∃ v : Int32, v = y4 + 1 := ⟨_, rfl⟩
        have h := h v47 ev47
        refine aw_iinc (pc := 47) 4 v47 [(4, .int v47), (0, .ref k0), (1, .int x1), (2, .int x2), (3, .int x3)] dX6_isIn_47 rfl (by rw [ev47]; rfl) (by decide) rfl ?_
        refine aw_goto (pc := 50) 3 dX6_isIn_50 (by decide) ?_
        refine aw_sub (L' := [(0, .ref k0), (1, .int x1), (2, .int x2), (3, .int x3), (4, .int v47)]) [1, 2, 3, 4, 0] rfl ?_
        exact ih v47  _ h
      · have h := h.2 q
        refine aw_aload_n (pc := 23) 0 dX6_isIn_23 rfl ?_
        refine aw_getR (pc := 24) 4 kcX6 dX6_isIn_24 lfX6_18 (sea_nn hk0) (sea_ki hk0) (by decide) rfl (sea_r4 hk0) ?_
        refine aw_iload (pc := 27) 4 dX6_isIn_27 rfl ?_
        refine aw_iald (pc := 29) (j := y4.toNatClampNeg) dX6_isIn_29 (sea_a3 hk0).1 (sea_a3 hk0).2.1 (sea_a3 hk0).2.2 h.1 rfl ?_
        have h := h.2
        refine aw_iload_n (pc := 30) 3 dX6_isIn_30 rfl ?_
        refine aw_icmp_eq (pc := 31) 45 dX6_isIn_31 (by decide) (fun q => ?_) (fun q => ?_)
        · have h := h.1 q
          refine aw_iconst (pc := 45) 1 dX6_isIn_45 (by decide) ?_
          exact aw_zret (pc := 46) rfl rfl dX6_isIn_46 ⟨_, rfl, h⟩
        · have h := h.2 q
          refine aw_aload_n (pc := 34) 0 dX6_isIn_34 rfl ?_
          refine aw_getR (pc := 35) 5 kcX6 dX6_isIn_35 lfX6_21 (sea_nn hk0) (sea_ki hk0) (by decide) rfl (sea_r5 hk0) ?_
          refine aw_iload (pc := 38) 4 dX6_isIn_38 rfl ?_
          refine aw_iald (pc := 40) (j := y4.toNatClampNeg) dX6_isIn_40 (sea_a4 hk0).1 (sea_a4 hk0).2.1 (sea_a4 hk0).2.2 h.1 rfl ?_
          have h := h.2
          refine aw_iload_n (pc := 41) 3 dX6_isIn_41 rfl ?_
          refine aw_icmp_ne (pc := 42) 47 dX6_isIn_42 (by decide) (fun q => ?_) (fun q => ?_)
          · have h := h.2 q
            obtain ⟨v47, ev47⟩ : ∃ v : Int32, v = y4 + 1 := ⟨_, rfl⟩
            have h := h v47 ev47
            refine aw_iinc (pc := 47) 4 v47 [(4, .int v47), (0, .ref k0), (1, .int x1), (2, .int x2), (3, .int x3)] dX6_isIn_47 rfl (by rw [ev47]; rfl) (by decide) rfl ?_
            refine aw_goto (pc := 50) 3 dX6_isIn_50 (by decide) ?_
            refine aw_sub (L' := [(0, .ref k0), (1, .int x1), (2, .int x2), (3, .int x3), (4, .int v47)]) [1, 2, 3, 4, 0] rfl ?_
            exact ih v47  _ h
          · have h := h.1 q
            refine aw_iconst (pc := 45) 1 dX6_isIn_45 (by decide) ?_
            exact aw_zret (pc := 46) rfl rfl dX6_isIn_46 ⟨_, rfl, h⟩
def wp_X6_isIn (k0 : Nat) (x1 : Int32) (x2 : Int32) (x3 : Int32) (σ : Sg) (K : Int32 → Sg → Prop) : Prop :=
  ∃ nf, b_X6_isIn_3 k0 x1 x2 x3  K nf 0 σ
set_option maxRecDepth 20000 in
set_option maxHeartbeats 2000000 in
theorem ev_X6_isIn (l : Launch) (k0 : Nat) (hk0 : k0 ∈ seaL) (x1 : Int32) (x2 : Int32) (x3 : Int32) {σ : Sg} {K : Int32 → Sg → Prop} (h : wp_X6_isIn k0 x1 x2 x3 σ K) : Ev l yX6_isIn cX6_isIn 5 (some .boolean) 1 [.ref k0, .int x1, .int x2, .int x3] σ (qI K) := by
  refine ev_ov (by decide) (Nat.le_of_ble_eq_true rfl) ?_
  show AV l RX6 cX6_isIn 5 (some .boolean) 1 (qI K) 0 [(0, .ref k0), (1, .int x1), (2, .int x2), (3, .int x3)] [] σ
  refine aw_iconst (pc := 0) 0 dX6_isIn_0 (by decide) ?_
  refine aw_istore (pc := 1) [(4, .int 0), (0, .ref k0), (1, .int x1), (2, .int x2), (3, .int x3)] dX6_isIn_1 (by decide) rfl ?_
  refine aw_sub (L' := [(0, .ref k0), (1, .int x1), (2, .int x2), (3, .int x3), (4, .int 0)]) [1, 2, 3, 4, 0] rfl ?_
  obtain ⟨nf, h⟩ := h
  exact bt_X6_isIn_3 l k0 hk0 x1 x2 x3   nf 0  _ h
def wp_X6_winnerOf (k0 : Nat) (x1 : Int32) (σ : Sg) (K : Int32 → Sg → Prop) : Prop :=
  wp_X6_isDecided k0 x1 σ <| fun r2_ τ2 => (br (r2_ = 0) (K (-2) τ2) (wp_X6_resultOf k0 x1 τ2 <| fun r13_ τ13 => (br (r13_ = 0) (vp_in x1 30 ∧ (K (τ13 (k0 + 3) x1.toNatClampNeg) τ13)) (vp_in x1 30 ∧ (K (τ13 (k0 + 4) x1.toNatClampNeg) τ13)))))
set_option maxRecDepth 20000 in
set_option maxHeartbeats 2000000 in
theorem ev_X6_winnerOf (l : Launch) (k0 : Nat) (hk0 : k0 ∈ seaL) (x1 : Int32) {σ : Sg} {K : Int32 → Sg → Prop} (h : wp_X6_winnerOf k0 x1 σ K) : Ev l yX6_winnerOf cX6_winnerOf 2 (some .int) 2 [.ref k0, .int x1] σ (qI K) := by
  refine ev_ov (by decide) (Nat.le_of_ble_eq_true rfl) ?_
  show AV l RX6 cX6_winnerOf 2 (some .int) 2 (qI K) 0 [(0, .ref k0), (1, .int x1)] [] σ
  refine aw_aload_n (pc := 0) 0 dX6_winnerOf_0 rfl ?_
  refine aw_iload_n (pc := 1) 1 dX6_winnerOf_1 rfl ?_
  refine aw_callV (pc := 2) (As := [.int x1]) (rest := []) kcX6 (sea_nn hk0) (sea_ki hk0) rfl (ev_X6_isDecided l k0 hk0 x1 h) mfX6_isDecided dX6_winnerOf_2 lmX6_50 ⟨Nat.le_refl _, Nat.le_refl _⟩ (by decide) rfl rfl (Nat.le_of_ble_eq_true rfl) (nxI (fun r2_ τ2 h => ?_))
  refine aw_if_ne (pc := 5) 11 dX6_winnerOf_5 (by decide) (fun q => ?_) (fun q => ?_)
  · have h := h.2 q
    refine aw_aload_n (pc := 11) 0 dX6_winnerOf_11 rfl ?_
    refine aw_iload_n (pc := 12) 1 dX6_winnerOf_12 rfl ?_
    refine aw_callV (pc := 13) (As := [.int x1]) (rest := []) kcX6 (sea_nn hk0) (sea_ki hk0) rfl (ev_X6_resultOf l k0 hk0 x1 h) mfX6_resultOf dX6_winnerOf_13 lmX6_62 ⟨Nat.le_refl _, Nat.le_refl _⟩ (by decide) rfl rfl (Nat.le_of_ble_eq_true rfl) (nxI (fun r13_ τ13 h => ?_))
    refine aw_if_ne (pc := 16) 28 dX6_winnerOf_16 (by decide) (fun q => ?_) (fun q => ?_)
    · have h := h.2 q
      refine aw_aload_n (pc := 28) 0 dX6_winnerOf_28 rfl ?_
      refine aw_getR (pc := 29) 5 kcX6 dX6_winnerOf_29 lfX6_21 (sea_nn hk0) (sea_ki hk0) (by decide) rfl (sea_r5 hk0) ?_
      refine aw_iload_n (pc := 32) 1 dX6_winnerOf_32 rfl ?_
      refine aw_iald (pc := 33) (j := x1.toNatClampNeg) dX6_winnerOf_33 (sea_a4 hk0).1 (sea_a4 hk0).2.1 (sea_a4 hk0).2.2 h.1 rfl ?_
      have h := h.2
      exact aw_iret (pc := 34) rfl dX6_winnerOf_34 ⟨_, rfl, h⟩
    · have h := h.1 q
      refine aw_aload_n (pc := 19) 0 dX6_winnerOf_19 rfl ?_
      refine aw_getR (pc := 20) 4 kcX6 dX6_winnerOf_20 lfX6_18 (sea_nn hk0) (sea_ki hk0) (by decide) rfl (sea_r4 hk0) ?_
      refine aw_iload_n (pc := 23) 1 dX6_winnerOf_23 rfl ?_
      refine aw_iald (pc := 24) (j := x1.toNatClampNeg) dX6_winnerOf_24 (sea_a3 hk0).1 (sea_a3 hk0).2.1 (sea_a3 hk0).2.2 h.1 rfl ?_
      have h := h.2
      refine aw_goto (pc := 25) 34 dX6_winnerOf_25 (by decide) ?_
      exact aw_iret (pc := 34) rfl dX6_winnerOf_34 ⟨_, rfl, h⟩
  · have h := h.1 q
    refine aw_bipush (pc := 8) (-2) dX6_winnerOf_8 (by decide) ?_
    exact aw_iret (pc := 10) rfl dX6_winnerOf_10 ⟨_, rfl, h⟩
def b_X6_hasWonIn_3 (k0 : Nat) (x1 : Int32) (x2 : Int32) (x3 : Int32)  (K : Int32 → Sg → Prop) : Nat → Int32 → Sg → Prop
  | 0, _, _ => False
  | n + 1, y4, σ =>
  br ((σ k0 0) ≤ y4) (K 0 σ) (wp_X6_isOf k0 y4 x1 x2 σ <| fun r17_ τ17 => (br (r17_ = 0) (∀ v35 : Int32, v35 = y4 + 1 → (b_X6_hasWonIn_3 k0 x1 x2 x3  K n v35 τ17)) (wp_X6_winnerOf k0 y4 τ17 <| fun r26_ τ26 => (br (r26_ = x3) (K 1 τ26) (∀ v35 : Int32, v35 = y4 + 1 → (b_X6_hasWonIn_3 k0 x1 x2 x3  K n v35 τ26))))))
set_option maxRecDepth 20000 in
set_option maxHeartbeats 2000000 in
theorem bt_X6_hasWonIn_3 (l : Launch) (k0 : Nat) (hk0 : k0 ∈ seaL) (x1 : Int32) (x2 : Int32) (x3 : Int32) {K : Int32 → Sg → Prop}   : ∀ (n : Nat) (y4 : Int32)  (σ : Sg), b_X6_hasWonIn_3 k0 x1 x2 x3  K n y4 σ → AV l RX6 cX6_hasWonIn 5 (some .boolean) 3 (qI K) 3 [(0, .ref k0), (1, .int x1), (2, .int x2), (3, .int x3), (4, .int y4)] [] σ := by
  intro n
  induction n with
  | zero => intro y4 σ h; exact h.elim
  | succ n ih =>
    intro y4 σ h
    refine aw_iload (pc := 3) 4 dX6_hasWonIn_3 rfl ?_
    refine aw_aload_n (pc := 5) 0 dX6_hasWonIn_5 rfl ?_
    refine aw_getI (pc := 6) 0 kcX6 dX6_hasWonIn_6 lfX6_33 (sea_nn hk0) (sea_ki hk0) (by decide) rfl ?_
    refine aw_icmp_ge (pc := 9) 41 dX6_hasWonIn_9 (by decide) (fun q => ?_) (fun q => ?_)
    · have h := h.1 q
      refine aw_iconst (pc := 41) 0 dX6_hasWonIn_41 (by decide) ?_
      exact aw_zret (pc := 42) rfl rfl dX6_hasWonIn_42 ⟨_, rfl, h⟩
    · have h := h.2 q
      refine aw_aload_n (pc := 12) 0 dX6_hasWonIn_12 rfl ?_
      refine aw_iload (pc := 13) 4 dX6_hasWonIn_13 rfl ?_
      refine aw_iload_n (pc := 15) 1 dX6_hasWonIn_15 rfl ?_
      refine aw_iload_n (pc := 16) 2 dX6_hasWonIn_16 rfl ?_
      refine aw_callV (pc := 17) (As := [.int y4, .int x1, .int x2]) (rest := []) kcX6 (sea_nn hk0) (sea_ki hk0) rfl (ev_X6_isOf l k0 hk0 y4 x1 x2 h) mfX6_isOf dX6_hasWonIn_17 lmX6_46 ⟨Nat.le_refl _, Nat.le_refl _⟩ (by decide) rfl rfl (Nat.le_of_ble_eq_true rfl) (nxI (fun r17_ τ17 h => ?_))
      refine aw_if_eq (pc := 20) 35 dX6_hasWonIn_20 (by decide) (fun q => ?_) (fun q => ?_)
      · have h := h.1 q
        obtain ⟨v35, ev35⟩ : ∃ v : Int32, v = y4 + 1 := ⟨_, rfl⟩
        have h := h v35 ev35
        refine aw_iinc (pc := 35) 4 v35 [(4, .int v35), (0, .ref k0), (1, .int x1), (2, .int x2), (3, .int x3)] dX6_hasWonIn_35 rfl (by rw [ev35]; rfl) (by decide) rfl ?_
        refine aw_goto (pc := 38) 3 dX6_hasWonIn_38 (by decide) ?_
        refine aw_sub (L' := [(0, .ref k0), (1, .int x1), (2, .int x2), (3, .int x3), (4, .int v35)]) [1, 2, 3, 4, 0] rfl ?_
        exact ih v35  _ h
      · have h := h.2 q
        refine aw_aload_n (pc := 23) 0 dX6_hasWonIn_23 rfl ?_
        refine aw_iload (pc := 24) 4 dX6_hasWonIn_24 rfl ?_
        refine aw_callV (pc := 26) (As := [.int y4]) (rest := []) kcX6 (sea_nn hk0) (sea_ki hk0) rfl (ev_X6_winnerOf l k0 hk0 y4 h) mfX6_winnerOf dX6_hasWonIn_26 lmX6_58 ⟨Nat.le_refl _, Nat.le_refl _⟩ (by decide) rfl rfl (Nat.le_of_ble_eq_true rfl) (nxI (fun r26_ τ26 h => ?_))
        refine aw_iload_n (pc := 29) 3 dX6_hasWonIn_29 rfl ?_
        refine aw_icmp_ne (pc := 30) 35 dX6_hasWonIn_30 (by decide) (fun q => ?_) (fun q => ?_)
        · have h := h.2 q
          obtain ⟨v35, ev35⟩ : ∃ v : Int32, v = y4 + 1 := ⟨_, rfl⟩
          have h := h v35 ev35
          refine aw_iinc (pc := 35) 4 v35 [(4, .int v35), (0, .ref k0), (1, .int x1), (2, .int x2), (3, .int x3)] dX6_hasWonIn_35 rfl (by rw [ev35]; rfl) (by decide) rfl ?_
          refine aw_goto (pc := 38) 3 dX6_hasWonIn_38 (by decide) ?_
          refine aw_sub (L' := [(0, .ref k0), (1, .int x1), (2, .int x2), (3, .int x3), (4, .int v35)]) [1, 2, 3, 4, 0] rfl ?_
          exact ih v35  _ h
        · have h := h.1 q
          refine aw_iconst (pc := 33) 1 dX6_hasWonIn_33 (by decide) ?_
          exact aw_zret (pc := 34) rfl rfl dX6_hasWonIn_34 ⟨_, rfl, h⟩
def wp_X6_hasWonIn (k0 : Nat) (x1 : Int32) (x2 : Int32) (x3 : Int32) (σ : Sg) (K : Int32 → Sg → Prop) : Prop :=
  ∃ nf, b_X6_hasWonIn_3 k0 x1 x2 x3  K nf 0 σ
set_option maxRecDepth 20000 in
set_option maxHeartbeats 2000000 in
theorem ev_X6_hasWonIn (l : Launch) (k0 : Nat) (hk0 : k0 ∈ seaL) (x1 : Int32) (x2 : Int32) (x3 : Int32) {σ : Sg} {K : Int32 → Sg → Prop} (h : wp_X6_hasWonIn k0 x1 x2 x3 σ K) : Ev l yX6_hasWonIn cX6_hasWonIn 5 (some .boolean) 3 [.ref k0, .int x1, .int x2, .int x3] σ (qI K) := by
  refine ev_ov (by decide) (Nat.le_of_ble_eq_true rfl) ?_
  show AV l RX6 cX6_hasWonIn 5 (some .boolean) 3 (qI K) 0 [(0, .ref k0), (1, .int x1), (2, .int x2), (3, .int x3)] [] σ
  refine aw_iconst (pc := 0) 0 dX6_hasWonIn_0 (by decide) ?_
  refine aw_istore (pc := 1) [(4, .int 0), (0, .ref k0), (1, .int x1), (2, .int x2), (3, .int x3)] dX6_hasWonIn_1 (by decide) rfl ?_
  refine aw_sub (L' := [(0, .ref k0), (1, .int x1), (2, .int x2), (3, .int x3), (4, .int 0)]) [1, 2, 3, 4, 0] rfl ?_
  obtain ⟨nf, h⟩ := h
  exact bt_X6_hasWonIn_3 l k0 hk0 x1 x2 x3   nf 0  _ h
def wp_X6_loserOf (k0 : Nat) (x1 : Int32) (σ : Sg) (K : Int32 → Sg → Prop) : Prop :=
  wp_X6_isDecided k0 x1 σ <| fun r2_ τ2 => (br (r2_ = 0) (K (-2) τ2) (wp_X6_resultOf k0 x1 τ2 <| fun r13_ τ13 => (br (r13_ = 0) (vp_in x1 30 ∧ (K (τ13 (k0 + 4) x1.toNatClampNeg) τ13)) (vp_in x1 30 ∧ (K (τ13 (k0 + 3) x1.toNatClampNeg) τ13)))))
set_option maxRecDepth 20000 in
set_option maxHeartbeats 2000000 in
theorem ev_X6_loserOf (l : Launch) (k0 : Nat) (hk0 : k0 ∈ seaL) (x1 : Int32) {σ : Sg} {K : Int32 → Sg → Prop} (h : wp_X6_loserOf k0 x1 σ K) : Ev l yX6_loserOf cX6_loserOf 2 (some .int) 2 [.ref k0, .int x1] σ (qI K) := by
  refine ev_ov (by decide) (Nat.le_of_ble_eq_true rfl) ?_
  show AV l RX6 cX6_loserOf 2 (some .int) 2 (qI K) 0 [(0, .ref k0), (1, .int x1)] [] σ
  refine aw_aload_n (pc := 0) 0 dX6_loserOf_0 rfl ?_
  refine aw_iload_n (pc := 1) 1 dX6_loserOf_1 rfl ?_
  refine aw_callV (pc := 2) (As := [.int x1]) (rest := []) kcX6 (sea_nn hk0) (sea_ki hk0) rfl (ev_X6_isDecided l k0 hk0 x1 h) mfX6_isDecided dX6_loserOf_2 lmX6_50 ⟨Nat.le_refl _, Nat.le_refl _⟩ (by decide) rfl rfl (Nat.le_of_ble_eq_true rfl) (nxI (fun r2_ τ2 h => ?_))
  refine aw_if_ne (pc := 5) 11 dX6_loserOf_5 (by decide) (fun q => ?_) (fun q => ?_)
  · have h := h.2 q
    refine aw_aload_n (pc := 11) 0 dX6_loserOf_11 rfl ?_
    refine aw_iload_n (pc := 12) 1 dX6_loserOf_12 rfl ?_
    refine aw_callV (pc := 13) (As := [.int x1]) (rest := []) kcX6 (sea_nn hk0) (sea_ki hk0) rfl (ev_X6_resultOf l k0 hk0 x1 h) mfX6_resultOf dX6_loserOf_13 lmX6_62 ⟨Nat.le_refl _, Nat.le_refl _⟩ (by decide) rfl rfl (Nat.le_of_ble_eq_true rfl) (nxI (fun r13_ τ13 h => ?_))
    refine aw_if_ne (pc := 16) 28 dX6_loserOf_16 (by decide) (fun q => ?_) (fun q => ?_)
    · have h := h.2 q
      refine aw_aload_n (pc := 28) 0 dX6_loserOf_28 rfl ?_
      refine aw_getR (pc := 29) 4 kcX6 dX6_loserOf_29 lfX6_18 (sea_nn hk0) (sea_ki hk0) (by decide) rfl (sea_r4 hk0) ?_
      refine aw_iload_n (pc := 32) 1 dX6_loserOf_32 rfl ?_
      refine aw_iald (pc := 33) (j := x1.toNatClampNeg) dX6_loserOf_33 (sea_a3 hk0).1 (sea_a3 hk0).2.1 (sea_a3 hk0).2.2 h.1 rfl ?_
      have h := h.2
      exact aw_iret (pc := 34) rfl dX6_loserOf_34 ⟨_, rfl, h⟩
    · have h := h.1 q
      refine aw_aload_n (pc := 19) 0 dX6_loserOf_19 rfl ?_
      refine aw_getR (pc := 20) 5 kcX6 dX6_loserOf_20 lfX6_21 (sea_nn hk0) (sea_ki hk0) (by decide) rfl (sea_r5 hk0) ?_
      refine aw_iload_n (pc := 23) 1 dX6_loserOf_23 rfl ?_
      refine aw_iald (pc := 24) (j := x1.toNatClampNeg) dX6_loserOf_24 (sea_a4 hk0).1 (sea_a4 hk0).2.1 (sea_a4 hk0).2.2 h.1 rfl ?_
      have h := h.2
      refine aw_goto (pc := 25) 34 dX6_loserOf_25 (by decide) ?_
      exact aw_iret (pc := 34) rfl dX6_loserOf_34 ⟨_, rfl, h⟩
  · have h := h.1 q
    refine aw_bipush (pc := 8) (-2) dX6_loserOf_8 (by decide) ?_
    exact aw_iret (pc := 10) rfl dX6_loserOf_10 ⟨_, rfl, h⟩
def wp_X6_hostOf (k0 : Nat) (x1 : Int32) (x2 : Int32) (σ : Sg) (K : Int32 → Sg → Prop) : Prop :=
  br ((x2 - x2 / 2 * 2) = 0) (vp_in x1 30 ∧ (K (σ (k0 + 3) x1.toNatClampNeg) σ)) (vp_in x1 30 ∧ (K (σ (k0 + 4) x1.toNatClampNeg) σ))
set_option maxRecDepth 20000 in
set_option maxHeartbeats 2000000 in
theorem ev_X6_hostOf (l : Launch) (k0 : Nat) (hk0 : k0 ∈ seaL) (x1 : Int32) (x2 : Int32) {σ : Sg} {K : Int32 → Sg → Prop} (h : wp_X6_hostOf k0 x1 x2 σ K) : Ev l yX6_hostOf cX6_hostOf 3 (some .int) 0 [.ref k0, .int x1, .int x2] σ (qI K) := by
  refine ev_ov (by decide) (Nat.le_of_ble_eq_true rfl) ?_
  show AV l RX6 cX6_hostOf 3 (some .int) 0 (qI K) 0 [(0, .ref k0), (1, .int x1), (2, .int x2)] [] σ
  refine aw_iload_n (pc := 0) 2 dX6_hostOf_0 rfl ?_
  refine aw_iconst (pc := 1) 2 dX6_hostOf_1 (by decide) ?_
  refine aw_irem (pc := 2) dX6_hostOf_2 (by decide) ?_
  refine aw_if_ne (pc := 3) 15 dX6_hostOf_3 (by decide) (fun q => ?_) (fun q => ?_)
  · have h := h.2 q
    refine aw_aload_n (pc := 15) 0 dX6_hostOf_15 rfl ?_
    refine aw_getR (pc := 16) 5 kcX6 dX6_hostOf_16 lfX6_21 (sea_nn hk0) (sea_ki hk0) (by decide) rfl (sea_r5 hk0) ?_
    refine aw_iload_n (pc := 19) 1 dX6_hostOf_19 rfl ?_
    refine aw_iald (pc := 20) (j := x1.toNatClampNeg) dX6_hostOf_20 (sea_a4 hk0).1 (sea_a4 hk0).2.1 (sea_a4 hk0).2.2 h.1 rfl ?_
    have h := h.2
    exact aw_iret (pc := 21) rfl dX6_hostOf_21 ⟨_, rfl, h⟩
  · have h := h.1 q
    refine aw_aload_n (pc := 6) 0 dX6_hostOf_6 rfl ?_
    refine aw_getR (pc := 7) 4 kcX6 dX6_hostOf_7 lfX6_18 (sea_nn hk0) (sea_ki hk0) (by decide) rfl (sea_r4 hk0) ?_
    refine aw_iload_n (pc := 10) 1 dX6_hostOf_10 rfl ?_
    refine aw_iald (pc := 11) (j := x1.toNatClampNeg) dX6_hostOf_11 (sea_a3 hk0).1 (sea_a3 hk0).2.1 (sea_a3 hk0).2.2 h.1 rfl ?_
    have h := h.2
    refine aw_goto (pc := 12) 21 dX6_hostOf_12 (by decide) ?_
    exact aw_iret (pc := 21) rfl dX6_hostOf_21 ⟨_, rfl, h⟩
def wp_X6_guestOf (k0 : Nat) (x1 : Int32) (x2 : Int32) (σ : Sg) (K : Int32 → Sg → Prop) : Prop :=
  br ((x2 - x2 / 2 * 2) = 0) (vp_in x1 30 ∧ (K (σ (k0 + 4) x1.toNatClampNeg) σ)) (vp_in x1 30 ∧ (K (σ (k0 + 3) x1.toNatClampNeg) σ))
set_option maxRecDepth 20000 in
set_option maxHeartbeats 2000000 in
theorem ev_X6_guestOf (l : Launch) (k0 : Nat) (hk0 : k0 ∈ seaL) (x1 : Int32) (x2 : Int32) {σ : Sg} {K : Int32 → Sg → Prop} (h : wp_X6_guestOf k0 x1 x2 σ K) : Ev l yX6_guestOf cX6_guestOf 3 (some .int) 0 [.ref k0, .int x1, .int x2] σ (qI K) := by
  refine ev_ov (by decide) (Nat.le_of_ble_eq_true rfl) ?_
  show AV l RX6 cX6_guestOf 3 (some .int) 0 (qI K) 0 [(0, .ref k0), (1, .int x1), (2, .int x2)] [] σ
  refine aw_iload_n (pc := 0) 2 dX6_guestOf_0 rfl ?_
  refine aw_iconst (pc := 1) 2 dX6_guestOf_1 (by decide) ?_
  refine aw_irem (pc := 2) dX6_guestOf_2 (by decide) ?_
  refine aw_if_ne (pc := 3) 15 dX6_guestOf_3 (by decide) (fun q => ?_) (fun q => ?_)
  · have h := h.2 q
    refine aw_aload_n (pc := 15) 0 dX6_guestOf_15 rfl ?_
    refine aw_getR (pc := 16) 4 kcX6 dX6_guestOf_16 lfX6_18 (sea_nn hk0) (sea_ki hk0) (by decide) rfl (sea_r4 hk0) ?_
    refine aw_iload_n (pc := 19) 1 dX6_guestOf_19 rfl ?_
    refine aw_iald (pc := 20) (j := x1.toNatClampNeg) dX6_guestOf_20 (sea_a3 hk0).1 (sea_a3 hk0).2.1 (sea_a3 hk0).2.2 h.1 rfl ?_
    have h := h.2
    exact aw_iret (pc := 21) rfl dX6_guestOf_21 ⟨_, rfl, h⟩
  · have h := h.1 q
    refine aw_aload_n (pc := 6) 0 dX6_guestOf_6 rfl ?_
    refine aw_getR (pc := 7) 5 kcX6 dX6_guestOf_7 lfX6_21 (sea_nn hk0) (sea_ki hk0) (by decide) rfl (sea_r5 hk0) ?_
    refine aw_iload_n (pc := 10) 1 dX6_guestOf_10 rfl ?_
    refine aw_iald (pc := 11) (j := x1.toNatClampNeg) dX6_guestOf_11 (sea_a4 hk0).1 (sea_a4 hk0).2.1 (sea_a4 hk0).2.2 h.1 rfl ?_
    have h := h.2
    refine aw_goto (pc := 12) 21 dX6_guestOf_12 (by decide) ?_
    exact aw_iret (pc := 21) rfl dX6_guestOf_21 ⟨_, rfl, h⟩
def b_X6_gatesOf_4 (k0 : Nat) (x1 : Int32)  (K : Int32 → Sg → Prop) : Nat → Int32 → Int32 → Sg → Prop
  | 0, _, _, _ => False
  | n + 1, y2, y3, σ =>
  vp_in x1 30 ∧ (br ((σ (k0 + 5) x1.toNatClampNeg) ≤ y3) (K y2 σ) (vp_in ((x1 * 4) + y3) 120 ∧ (∀ v26 : Int32, v26 = y2 + (σ (k0 + 6) ((x1 * 4) + y3).toNatClampNeg) → (∀ v27 : Int32, v27 = y3 + 1 → (b_X6_gatesOf_4 k0 x1  K n v26 v27 σ)))))
set_option maxRecDepth 20000 in
set_option maxHeartbeats 2000000 in
theorem bt_X6_gatesOf_4 (l : Launch) (k0 : Nat) (hk0 : k0 ∈ seaL) (x1 : Int32) {K : Int32 → Sg → Prop}   : ∀ (n : Nat) (y2 : Int32) (y3 : Int32)  (σ : Sg), b_X6_gatesOf_4 k0 x1  K n y2 y3 σ → AV l RX6 cX6_gatesOf 4 (some .int) 0 (qI K) 4 [(0, .ref k0), (1, .int x1), (2, .int y2), (3, .int y3)] [] σ := by
  intro n
  induction n with
  | zero => intro y2 y3 σ h; exact h.elim
  | succ n ih =>
    intro y2 y3 σ h
    refine aw_iload_n (pc := 4) 3 dX6_gatesOf_4 rfl ?_
    refine aw_aload_n (pc := 5) 0 dX6_gatesOf_5 rfl ?_
    refine aw_getR (pc := 6) 6 kcX6 dX6_gatesOf_6 lfX6_24 (sea_nn hk0) (sea_ki hk0) (by decide) rfl (sea_r6 hk0) ?_
    refine aw_iload_n (pc := 9) 1 dX6_gatesOf_9 rfl ?_
    refine aw_iald (pc := 10) (j := x1.toNatClampNeg) dX6_gatesOf_10 (sea_a5 hk0).1 (sea_a5 hk0).2.1 (sea_a5 hk0).2.2 h.1 rfl ?_
    have h := h.2
    refine aw_icmp_ge (pc := 11) 33 dX6_gatesOf_11 (by decide) (fun q => ?_) (fun q => ?_)
    · have h := h.1 q
      refine aw_iload_n (pc := 33) 2 dX6_gatesOf_33 rfl ?_
      exact aw_iret (pc := 34) rfl dX6_gatesOf_34 ⟨_, rfl, h⟩
    · have h := h.2 q
      refine aw_iload_n (pc := 14) 2 dX6_gatesOf_14 rfl ?_
      refine aw_aload_n (pc := 15) 0 dX6_gatesOf_15 rfl ?_
      refine aw_getR (pc := 16) 7 kcX6 dX6_gatesOf_16 lfX6_27 (sea_nn hk0) (sea_ki hk0) (by decide) rfl (sea_r7 hk0) ?_
      refine aw_iload_n (pc := 19) 1 dX6_gatesOf_19 rfl ?_
      refine aw_iconst (pc := 20) 4 dX6_gatesOf_20 (by decide) ?_
      refine aw_imul (pc := 21) dX6_gatesOf_21 ?_
      refine aw_iload_n (pc := 22) 3 dX6_gatesOf_22 rfl ?_
      refine aw_iadd (pc := 23) dX6_gatesOf_23 ?_
      refine aw_iald (pc := 24) (j := ((x1 * 4) + y3).toNatClampNeg) dX6_gatesOf_24 (sea_a6 hk0).1 (sea_a6 hk0).2.1 (sea_a6 hk0).2.2 h.1 rfl ?_
      have h := h.2
      refine aw_iadd (pc := 25) dX6_gatesOf_25 ?_
      refine aw_topi (fun v26 ev26 => ?_)
      have h := h v26 ev26
      refine aw_istore_n (pc := 26) (i := 2) [(2, .int v26), (0, .ref k0), (1, .int x1), (3, .int y3)] dX6_gatesOf_26 rfl (by decide) rfl ?_
      obtain ⟨v27, ev27⟩ : ∃ v : Int32, v = y3 + 1 := ⟨_, rfl⟩
      have h := h v27 ev27
      refine aw_iinc (pc := 27) 3 v27 [(3, .int v27), (2, .int v26), (0, .ref k0), (1, .int x1)] dX6_gatesOf_27 rfl (by rw [ev27]; rfl) (by decide) rfl ?_
      refine aw_goto (pc := 30) 4 dX6_gatesOf_30 (by decide) ?_
      refine aw_sub (L' := [(0, .ref k0), (1, .int x1), (2, .int v26), (3, .int v27)]) [2, 3, 1, 0] rfl ?_
      exact ih v26 v27  _ h
def wp_X6_gatesOf (k0 : Nat) (x1 : Int32) (σ : Sg) (K : Int32 → Sg → Prop) : Prop :=
  ∃ nf, b_X6_gatesOf_4 k0 x1  K nf 0 0 σ
set_option maxRecDepth 20000 in
set_option maxHeartbeats 2000000 in
theorem ev_X6_gatesOf (l : Launch) (k0 : Nat) (hk0 : k0 ∈ seaL) (x1 : Int32) {σ : Sg} {K : Int32 → Sg → Prop} (h : wp_X6_gatesOf k0 x1 σ K) : Ev l yX6_gatesOf cX6_gatesOf 4 (some .int) 0 [.ref k0, .int x1] σ (qI K) := by
  refine ev_ov (by decide) (Nat.le_of_ble_eq_true rfl) ?_
  show AV l RX6 cX6_gatesOf 4 (some .int) 0 (qI K) 0 [(0, .ref k0), (1, .int x1)] [] σ
  refine aw_iconst (pc := 0) 0 dX6_gatesOf_0 (by decide) ?_
  refine aw_istore_n (pc := 1) (i := 2) [(2, .int 0), (0, .ref k0), (1, .int x1)] dX6_gatesOf_1 rfl (by decide) rfl ?_
  refine aw_iconst (pc := 2) 0 dX6_gatesOf_2 (by decide) ?_
  refine aw_istore_n (pc := 3) (i := 3) [(3, .int 0), (2, .int 0), (0, .ref k0), (1, .int x1)] dX6_gatesOf_3 rfl (by decide) rfl ?_
  refine aw_sub (L' := [(0, .ref k0), (1, .int x1), (2, .int 0), (3, .int 0)]) [2, 3, 1, 0] rfl ?_
  obtain ⟨nf, h⟩ := h
  exact bt_X6_gatesOf_4 l k0 hk0 x1   nf 0 0  _ h
def b_X6_allGames_4 (k0 : Nat)  (K : Int32 → Sg → Prop) : Nat → Int32 → Int32 → Sg → Prop
  | 0, _, _, _ => False
  | n + 1, y1, y2, σ =>
  br ((σ k0 0) ≤ y2) (K y1 σ) (vp_in y2 30 ∧ (∀ v20 : Int32, v20 = y1 + (σ (k0 + 5) y2.toNatClampNeg) → (∀ v21 : Int32, v21 = y2 + 1 → (b_X6_allGames_4 k0  K n v20 v21 σ))))
set_option maxRecDepth 20000 in
set_option maxHeartbeats 2000000 in
theorem bt_X6_allGames_4 (l : Launch) (k0 : Nat) (hk0 : k0 ∈ seaL) {K : Int32 → Sg → Prop}   : ∀ (n : Nat) (y1 : Int32) (y2 : Int32)  (σ : Sg), b_X6_allGames_4 k0  K n y1 y2 σ → AV l RX6 cX6_allGames 3 (some .int) 0 (qI K) 4 [(0, .ref k0), (1, .int y1), (2, .int y2)] [] σ := by
  intro n
  induction n with
  | zero => intro y1 y2 σ h; exact h.elim
  | succ n ih =>
    intro y1 y2 σ h
    refine aw_iload_n (pc := 4) 2 dX6_allGames_4 rfl ?_
    refine aw_aload_n (pc := 5) 0 dX6_allGames_5 rfl ?_
    refine aw_getI (pc := 6) 0 kcX6 dX6_allGames_6 lfX6_33 (sea_nn hk0) (sea_ki hk0) (by decide) rfl ?_
    refine aw_icmp_ge (pc := 9) 27 dX6_allGames_9 (by decide) (fun q => ?_) (fun q => ?_)
    · have h := h.1 q
      refine aw_iload_n (pc := 27) 1 dX6_allGames_27 rfl ?_
      exact aw_iret (pc := 28) rfl dX6_allGames_28 ⟨_, rfl, h⟩
    · have h := h.2 q
      refine aw_iload_n (pc := 12) 1 dX6_allGames_12 rfl ?_
      refine aw_aload_n (pc := 13) 0 dX6_allGames_13 rfl ?_
      refine aw_getR (pc := 14) 6 kcX6 dX6_allGames_14 lfX6_24 (sea_nn hk0) (sea_ki hk0) (by decide) rfl (sea_r6 hk0) ?_
      refine aw_iload_n (pc := 17) 2 dX6_allGames_17 rfl ?_
      refine aw_iald (pc := 18) (j := y2.toNatClampNeg) dX6_allGames_18 (sea_a5 hk0).1 (sea_a5 hk0).2.1 (sea_a5 hk0).2.2 h.1 rfl ?_
      have h := h.2
      refine aw_iadd (pc := 19) dX6_allGames_19 ?_
      refine aw_topi (fun v20 ev20 => ?_)
      have h := h v20 ev20
      refine aw_istore_n (pc := 20) (i := 1) [(1, .int v20), (0, .ref k0), (2, .int y2)] dX6_allGames_20 rfl (by decide) rfl ?_
      obtain ⟨v21, ev21⟩ : ∃ v : Int32, v = y2 + 1 := ⟨_, rfl⟩
      have h := h v21 ev21
      refine aw_iinc (pc := 21) 2 v21 [(2, .int v21), (1, .int v20), (0, .ref k0)] dX6_allGames_21 rfl (by rw [ev21]; rfl) (by decide) rfl ?_
      refine aw_goto (pc := 24) 4 dX6_allGames_24 (by decide) ?_
      refine aw_sub (L' := [(0, .ref k0), (1, .int v20), (2, .int v21)]) [2, 1, 0] rfl ?_
      exact ih v20 v21  _ h
def wp_X6_allGames (k0 : Nat) (σ : Sg) (K : Int32 → Sg → Prop) : Prop :=
  ∃ nf, b_X6_allGames_4 k0  K nf 0 0 σ
set_option maxRecDepth 20000 in
set_option maxHeartbeats 2000000 in
theorem ev_X6_allGames (l : Launch) (k0 : Nat) (hk0 : k0 ∈ seaL) {σ : Sg} {K : Int32 → Sg → Prop} (h : wp_X6_allGames k0 σ K) : Ev l yX6_allGames cX6_allGames 3 (some .int) 0 [.ref k0] σ (qI K) := by
  refine ev_ov (by decide) (Nat.le_of_ble_eq_true rfl) ?_
  show AV l RX6 cX6_allGames 3 (some .int) 0 (qI K) 0 [(0, .ref k0)] [] σ
  refine aw_iconst (pc := 0) 0 dX6_allGames_0 (by decide) ?_
  refine aw_istore_n (pc := 1) (i := 1) [(1, .int 0), (0, .ref k0)] dX6_allGames_1 rfl (by decide) rfl ?_
  refine aw_iconst (pc := 2) 0 dX6_allGames_2 (by decide) ?_
  refine aw_istore_n (pc := 3) (i := 2) [(2, .int 0), (1, .int 0), (0, .ref k0)] dX6_allGames_3 rfl (by decide) rfl ?_
  refine aw_sub (L' := [(0, .ref k0), (1, .int 0), (2, .int 0)]) [2, 1, 0] rfl ?_
  obtain ⟨nf, h⟩ := h
  exact bt_X6_allGames_4 l k0 hk0   nf 0 0  _ h
def b_X6_decidedTies_4 (k0 : Nat)  (K : Int32 → Sg → Prop) : Nat → Int32 → Int32 → Sg → Prop
  | 0, _, _, _ => False
  | n + 1, y1, y2, σ =>
  br ((σ k0 0) ≤ y2) (K y1 σ) (wp_X6_isDecided k0 y2 σ <| fun r14_ τ14 => (br (r14_ = 0) (∀ v23 : Int32, v23 = y2 + 1 → (b_X6_decidedTies_4 k0  K n y1 v23 τ14)) (∀ v20 : Int32, v20 = y1 + 1 → (∀ v23 : Int32, v23 = y2 + 1 → (b_X6_decidedTies_4 k0  K n v20 v23 τ14)))))
set_option maxRecDepth 20000 in
set_option maxHeartbeats 2000000 in
theorem bt_X6_decidedTies_4 (l : Launch) (k0 : Nat) (hk0 : k0 ∈ seaL) {K : Int32 → Sg → Prop}   : ∀ (n : Nat) (y1 : Int32) (y2 : Int32)  (σ : Sg), b_X6_decidedTies_4 k0  K n y1 y2 σ → AV l RX6 cX6_decidedTies 3 (some .int) 2 (qI K) 4 [(0, .ref k0), (1, .int y1), (2, .int y2)] [] σ := by
  intro n
  induction n with
  | zero => intro y1 y2 σ h; exact h.elim
  | succ n ih =>
    intro y1 y2 σ h
    refine aw_iload_n (pc := 4) 2 dX6_decidedTies_4 rfl ?_
    refine aw_aload_n (pc := 5) 0 dX6_decidedTies_5 rfl ?_
    refine aw_getI (pc := 6) 0 kcX6 dX6_decidedTies_6 lfX6_33 (sea_nn hk0) (sea_ki hk0) (by decide) rfl ?_
    refine aw_icmp_ge (pc := 9) 29 dX6_decidedTies_9 (by decide) (fun q => ?_) (fun q => ?_)
    · have h := h.1 q
      refine aw_iload_n (pc := 29) 1 dX6_decidedTies_29 rfl ?_
      exact aw_iret (pc := 30) rfl dX6_decidedTies_30 ⟨_, rfl, h⟩
    · have h := h.2 q
      refine aw_aload_n (pc := 12) 0 dX6_decidedTies_12 rfl ?_
      refine aw_iload_n (pc := 13) 2 dX6_decidedTies_13 rfl ?_
      refine aw_callV (pc := 14) (As := [.int y2]) (rest := []) kcX6 (sea_nn hk0) (sea_ki hk0) rfl (ev_X6_isDecided l k0 hk0 y2 h) mfX6_isDecided dX6_decidedTies_14 lmX6_50 ⟨Nat.le_refl _, Nat.le_refl _⟩ (by decide) rfl rfl (Nat.le_of_ble_eq_true rfl) (nxI (fun r14_ τ14 h => ?_))
      refine aw_if_eq (pc := 17) 23 dX6_decidedTies_17 (by decide) (fun q => ?_) (fun q => ?_)
      · have h := h.1 q
        obtain ⟨v23, ev23⟩ : ∃ v : Int32, v = y2 + 1 := ⟨_, rfl⟩
        have h := h v23 ev23
        refine aw_iinc (pc := 23) 2 v23 [(2, .int v23), (0, .ref k0), (1, .int y1)] dX6_decidedTies_23 rfl (by rw [ev23]; rfl) (by decide) rfl ?_
        refine aw_goto (pc := 26) 4 dX6_decidedTies_26 (by decide) ?_
        refine aw_sub (L' := [(0, .ref k0), (1, .int y1), (2, .int v23)]) [1, 2, 0] rfl ?_
        exact ih y1 v23  _ h
      · have h := h.2 q
        obtain ⟨v20, ev20⟩ : ∃ v : Int32, v = y1 + 1 := ⟨_, rfl⟩
        have h := h v20 ev20
        refine aw_iinc (pc := 20) 1 v20 [(1, .int v20), (0, .ref k0), (2, .int y2)] dX6_decidedTies_20 rfl (by rw [ev20]; rfl) (by decide) rfl ?_
        obtain ⟨v23, ev23⟩ : ∃ v : Int32, v = y2 + 1 := ⟨_, rfl⟩
        have h := h v23 ev23
        refine aw_iinc (pc := 23) 2 v23 [(2, .int v23), (1, .int v20), (0, .ref k0)] dX6_decidedTies_23 rfl (by rw [ev23]; rfl) (by decide) rfl ?_
        refine aw_goto (pc := 26) 4 dX6_decidedTies_26 (by decide) ?_
        refine aw_sub (L' := [(0, .ref k0), (1, .int v20), (2, .int v23)]) [2, 1, 0] rfl ?_
        exact ih v20 v23  _ h
def wp_X6_decidedTies (k0 : Nat) (σ : Sg) (K : Int32 → Sg → Prop) : Prop :=
  ∃ nf, b_X6_decidedTies_4 k0  K nf 0 0 σ
set_option maxRecDepth 20000 in
set_option maxHeartbeats 2000000 in
theorem ev_X6_decidedTies (l : Launch) (k0 : Nat) (hk0 : k0 ∈ seaL) {σ : Sg} {K : Int32 → Sg → Prop} (h : wp_X6_decidedTies k0 σ K) : Ev l yX6_decidedTies cX6_decidedTies 3 (some .int) 2 [.ref k0] σ (qI K) := by
  refine ev_ov (by decide) (Nat.le_of_ble_eq_true rfl) ?_
  show AV l RX6 cX6_decidedTies 3 (some .int) 2 (qI K) 0 [(0, .ref k0)] [] σ
  refine aw_iconst (pc := 0) 0 dX6_decidedTies_0 (by decide) ?_
  refine aw_istore_n (pc := 1) (i := 1) [(1, .int 0), (0, .ref k0)] dX6_decidedTies_1 rfl (by decide) rfl ?_
  refine aw_iconst (pc := 2) 0 dX6_decidedTies_2 (by decide) ?_
  refine aw_istore_n (pc := 3) (i := 2) [(2, .int 0), (1, .int 0), (0, .ref k0)] dX6_decidedTies_3 rfl (by decide) rfl ?_
  refine aw_sub (L' := [(0, .ref k0), (1, .int 0), (2, .int 0)]) [2, 1, 0] rfl ?_
  obtain ⟨nf, h⟩ := h
  exact bt_X6_decidedTies_4 l k0 hk0   nf 0 0  _ h
def b_X6_metBy_37 (k0 : Nat) (x1 : Int32) (B4 : Int32 → Int32 → Sg → Prop) (K : Int32 → Sg → Prop) (y2 : Int32) (y3 : Int32) (σ : Sg) : Prop :=
  vp_in y3 30 ∧ (br (((x1 >>> ((σ (k0 + 4) y3.toNatClampNeg) &&& 31)) &&& 1) = 1) (vp_in y3 30 ∧ (∀ v61 : Int32, v61 = y2 ||| (1 <<< ((σ (k0 + 3) y3.toNatClampNeg) &&& 31)) → (∀ v62 : Int32, v62 = y3 + 1 → (B4 v61 v62 σ)))) (∀ v62 : Int32, v62 = y3 + 1 → (B4 y2 v62 σ)))
set_option maxRecDepth 20000 in
set_option maxHeartbeats 2000000 in
theorem bt_X6_metBy_37 (l : Launch) (k0 : Nat) (hk0 : k0 ∈ seaL) (x1 : Int32) {K : Int32 → Sg → Prop} (B4 : Int32 → Int32 → Sg → Prop) (hB4 : ∀ (y2 : Int32) (y3 : Int32)  (τ : Sg), B4 y2 y3 τ → AV l RX6 cX6_metBy 4 (some .int) 0 (qI K) 4 [(0, .ref k0), (1, .int x1), (2, .int y2), (3, .int y3)] [] τ) (y2 : Int32) (y3 : Int32)  (σ : Sg) (h : b_X6_metBy_37 k0 x1 B4 K y2 y3 σ) : AV l RX6 cX6_metBy 4 (some .int) 0 (qI K) 37 [(0, .ref k0), (1, .int x1), (2, .int y2), (3, .int y3)] [] σ := by
  refine aw_iload_n (pc := 37) 1 dX6_metBy_37 rfl ?_
  refine aw_aload_n (pc := 38) 0 dX6_metBy_38 rfl ?_
  refine aw_getR (pc := 39) 5 kcX6 dX6_metBy_39 lfX6_21 (sea_nn hk0) (sea_ki hk0) (by decide) rfl (sea_r5 hk0) ?_
  refine aw_iload_n (pc := 42) 3 dX6_metBy_42 rfl ?_
  refine aw_iald (pc := 43) (j := y3.toNatClampNeg) dX6_metBy_43 (sea_a4 hk0).1 (sea_a4 hk0).2.1 (sea_a4 hk0).2.2 h.1 rfl ?_
  have h := h.2
  refine aw_ishr (pc := 44) dX6_metBy_44 ?_
  refine aw_iconst (pc := 45) 1 dX6_metBy_45 (by decide) ?_
  refine aw_iand (pc := 46) dX6_metBy_46 ?_
  refine aw_iconst (pc := 47) 1 dX6_metBy_47 (by decide) ?_
  refine aw_icmp_ne (pc := 48) 62 dX6_metBy_48 (by decide) (fun q => ?_) (fun q => ?_)
  · have h := h.2 q
    obtain ⟨v62, ev62⟩ : ∃ v : Int32, v = y3 + 1 := ⟨_, rfl⟩
    have h := h v62 ev62
    refine aw_iinc (pc := 62) 3 v62 [(3, .int v62), (0, .ref k0), (1, .int x1), (2, .int y2)] dX6_metBy_62 rfl (by rw [ev62]; rfl) (by decide) rfl ?_
    refine aw_goto (pc := 65) 4 dX6_metBy_65 (by decide) ?_
    refine aw_sub (L' := [(0, .ref k0), (1, .int x1), (2, .int y2), (3, .int v62)]) [1, 2, 3, 0] rfl ?_
    exact hB4 y2 v62  _ h
  · have h := h.1 q
    refine aw_iload_n (pc := 51) 2 dX6_metBy_51 rfl ?_
    refine aw_iconst (pc := 52) 1 dX6_metBy_52 (by decide) ?_
    refine aw_aload_n (pc := 53) 0 dX6_metBy_53 rfl ?_
    refine aw_getR (pc := 54) 4 kcX6 dX6_metBy_54 lfX6_18 (sea_nn hk0) (sea_ki hk0) (by decide) rfl (sea_r4 hk0) ?_
    refine aw_iload_n (pc := 57) 3 dX6_metBy_57 rfl ?_
    refine aw_iald (pc := 58) (j := y3.toNatClampNeg) dX6_metBy_58 (sea_a3 hk0).1 (sea_a3 hk0).2.1 (sea_a3 hk0).2.2 h.1 rfl ?_
    have h := h.2
    refine aw_ishl (pc := 59) dX6_metBy_59 ?_
    refine aw_ior (pc := 60) dX6_metBy_60 ?_
    refine aw_topi (fun v61 ev61 => ?_)
    have h := h v61 ev61
    refine aw_istore_n (pc := 61) (i := 2) [(2, .int v61), (0, .ref k0), (1, .int x1), (3, .int y3)] dX6_metBy_61 rfl (by decide) rfl ?_
    obtain ⟨v62, ev62⟩ : ∃ v : Int32, v = y3 + 1 := ⟨_, rfl⟩
    have h := h v62 ev62
    refine aw_iinc (pc := 62) 3 v62 [(3, .int v62), (2, .int v61), (0, .ref k0), (1, .int x1)] dX6_metBy_62 rfl (by rw [ev62]; rfl) (by decide) rfl ?_
    refine aw_goto (pc := 65) 4 dX6_metBy_65 (by decide) ?_
    refine aw_sub (L' := [(0, .ref k0), (1, .int x1), (2, .int v61), (3, .int v62)]) [2, 3, 1, 0] rfl ?_
    exact hB4 v61 v62  _ h
def b_X6_metBy_4 (k0 : Nat) (x1 : Int32)  (K : Int32 → Sg → Prop) : Nat → Int32 → Int32 → Sg → Prop
  | 0, _, _, _ => False
  | n + 1, y2, y3, σ =>
  br ((σ k0 0) ≤ y3) (K y2 σ) (vp_in y3 30 ∧ (br (((x1 >>> ((σ (k0 + 3) y3.toNatClampNeg) &&& 31)) &&& 1) = 1) (vp_in y3 30 ∧ (∀ v36 : Int32, v36 = y2 ||| (1 <<< ((σ (k0 + 4) y3.toNatClampNeg) &&& 31)) → (b_X6_metBy_37 k0 x1 (fun y2' y3' τ => b_X6_metBy_4 k0 x1  K n y2' y3' τ) K v36 y3 σ))) (b_X6_metBy_37 k0 x1 (fun y2' y3' τ => b_X6_metBy_4 k0 x1  K n y2' y3' τ) K y2 y3 σ)))
set_option maxRecDepth 20000 in
set_option maxHeartbeats 2000000 in
theorem bt_X6_metBy_4 (l : Launch) (k0 : Nat) (hk0 : k0 ∈ seaL) (x1 : Int32) {K : Int32 → Sg → Prop}   : ∀ (n : Nat) (y2 : Int32) (y3 : Int32)  (σ : Sg), b_X6_metBy_4 k0 x1  K n y2 y3 σ → AV l RX6 cX6_metBy 4 (some .int) 0 (qI K) 4 [(0, .ref k0), (1, .int x1), (2, .int y2), (3, .int y3)] [] σ := by
  intro n
  induction n with
  | zero => intro y2 y3 σ h; exact h.elim
  | succ n ih =>
    intro y2 y3 σ h
    refine aw_iload_n (pc := 4) 3 dX6_metBy_4 rfl ?_
    refine aw_aload_n (pc := 5) 0 dX6_metBy_5 rfl ?_
    refine aw_getI (pc := 6) 0 kcX6 dX6_metBy_6 lfX6_33 (sea_nn hk0) (sea_ki hk0) (by decide) rfl ?_
    refine aw_icmp_ge (pc := 9) 68 dX6_metBy_9 (by decide) (fun q => ?_) (fun q => ?_)
    · have h := h.1 q
      refine aw_iload_n (pc := 68) 2 dX6_metBy_68 rfl ?_
      exact aw_iret (pc := 69) rfl dX6_metBy_69 ⟨_, rfl, h⟩
    · have h := h.2 q
      refine aw_iload_n (pc := 12) 1 dX6_metBy_12 rfl ?_
      refine aw_aload_n (pc := 13) 0 dX6_metBy_13 rfl ?_
      refine aw_getR (pc := 14) 4 kcX6 dX6_metBy_14 lfX6_18 (sea_nn hk0) (sea_ki hk0) (by decide) rfl (sea_r4 hk0) ?_
      refine aw_iload_n (pc := 17) 3 dX6_metBy_17 rfl ?_
      refine aw_iald (pc := 18) (j := y3.toNatClampNeg) dX6_metBy_18 (sea_a3 hk0).1 (sea_a3 hk0).2.1 (sea_a3 hk0).2.2 h.1 rfl ?_
      have h := h.2
      refine aw_ishr (pc := 19) dX6_metBy_19 ?_
      refine aw_iconst (pc := 20) 1 dX6_metBy_20 (by decide) ?_
      refine aw_iand (pc := 21) dX6_metBy_21 ?_
      refine aw_iconst (pc := 22) 1 dX6_metBy_22 (by decide) ?_
      refine aw_icmp_ne (pc := 23) 37 dX6_metBy_23 (by decide) (fun q => ?_) (fun q => ?_)
      · have h := h.2 q
        exact bt_X6_metBy_37 l k0 hk0 x1 (fun y2' y3' τ => b_X6_metBy_4 k0 x1  K n y2' y3' τ) (fun y2' y3' τ h => ih y2' y3' τ h) y2 y3  _ h
      · have h := h.1 q
        refine aw_iload_n (pc := 26) 2 dX6_metBy_26 rfl ?_
        refine aw_iconst (pc := 27) 1 dX6_metBy_27 (by decide) ?_
        refine aw_aload_n (pc := 28) 0 dX6_metBy_28 rfl ?_
        refine aw_getR (pc := 29) 5 kcX6 dX6_metBy_29 lfX6_21 (sea_nn hk0) (sea_ki hk0) (by decide) rfl (sea_r5 hk0) ?_
        refine aw_iload_n (pc := 32) 3 dX6_metBy_32 rfl ?_
        refine aw_iald (pc := 33) (j := y3.toNatClampNeg) dX6_metBy_33 (sea_a4 hk0).1 (sea_a4 hk0).2.1 (sea_a4 hk0).2.2 h.1 rfl ?_
        have h := h.2
        refine aw_ishl (pc := 34) dX6_metBy_34 ?_
        refine aw_ior (pc := 35) dX6_metBy_35 ?_
        refine aw_topi (fun v36 ev36 => ?_)
        have h := h v36 ev36
        refine aw_istore_n (pc := 36) (i := 2) [(2, .int v36), (0, .ref k0), (1, .int x1), (3, .int y3)] dX6_metBy_36 rfl (by decide) rfl ?_
        refine aw_sub (L' := [(0, .ref k0), (1, .int x1), (2, .int v36), (3, .int y3)]) [1, 2, 0, 3] rfl ?_
        exact bt_X6_metBy_37 l k0 hk0 x1 (fun y2' y3' τ => b_X6_metBy_4 k0 x1  K n y2' y3' τ) (fun y2' y3' τ h => ih y2' y3' τ h) v36 y3  _ h
def wp_X6_metBy (k0 : Nat) (x1 : Int32) (σ : Sg) (K : Int32 → Sg → Prop) : Prop :=
  ∃ nf, b_X6_metBy_4 k0 x1  K nf 0 0 σ
set_option maxRecDepth 20000 in
set_option maxHeartbeats 2000000 in
theorem ev_X6_metBy (l : Launch) (k0 : Nat) (hk0 : k0 ∈ seaL) (x1 : Int32) {σ : Sg} {K : Int32 → Sg → Prop} (h : wp_X6_metBy k0 x1 σ K) : Ev l yX6_metBy cX6_metBy 4 (some .int) 0 [.ref k0, .int x1] σ (qI K) := by
  refine ev_ov (by decide) (Nat.le_of_ble_eq_true rfl) ?_
  show AV l RX6 cX6_metBy 4 (some .int) 0 (qI K) 0 [(0, .ref k0), (1, .int x1)] [] σ
  refine aw_iconst (pc := 0) 0 dX6_metBy_0 (by decide) ?_
  refine aw_istore_n (pc := 1) (i := 2) [(2, .int 0), (0, .ref k0), (1, .int x1)] dX6_metBy_1 rfl (by decide) rfl ?_
  refine aw_iconst (pc := 2) 0 dX6_metBy_2 (by decide) ?_
  refine aw_istore_n (pc := 3) (i := 3) [(3, .int 0), (2, .int 0), (0, .ref k0), (1, .int x1)] dX6_metBy_3 rfl (by decide) rfl ?_
  refine aw_sub (L' := [(0, .ref k0), (1, .int x1), (2, .int 0), (3, .int 0)]) [2, 3, 1, 0] rfl ?_
  obtain ⟨nf, h⟩ := h
  exact bt_X6_metBy_4 l k0 hk0 x1   nf 0 0  _ h
def b_X6_linkedWith_6 (k0 : Nat) (x1 : Int32)  (K : Int32 → Sg → Prop) : Nat → Int32 → Int32 → Sg → Prop
  | 0, _, _, _ => False
  | n + 1, y2, y3, σ =>
  br (12 ≤ y3) (K y2 σ) (wp_X6_metBy k0 y2 σ <| fun r15_ τ15 => (∀ v19 : Int32, v19 = y2 ||| r15_ → (∀ v20 : Int32, v20 = y3 + 1 → (b_X6_linkedWith_6 k0 x1  K n v19 v20 τ15))))
set_option maxRecDepth 20000 in
set_option maxHeartbeats 2000000 in
theorem bt_X6_linkedWith_6 (l : Launch) (k0 : Nat) (hk0 : k0 ∈ seaL) (x1 : Int32) {K : Int32 → Sg → Prop}   : ∀ (n : Nat) (y2 : Int32) (y3 : Int32)  (σ : Sg), b_X6_linkedWith_6 k0 x1  K n y2 y3 σ → AV l RX6 cX6_linkedWith 4 (some .int) 1 (qI K) 6 [(0, .ref k0), (2, .int y2), (3, .int y3)] [] σ := by
  intro n
  induction n with
  | zero => intro y2 y3 σ h; exact h.elim
  | succ n ih =>
    intro y2 y3 σ h
    refine aw_iload_n (pc := 6) 2 dX6_linkedWith_6 rfl ?_
    refine aw_bipush (pc := 7) 12 dX6_linkedWith_7 (by decide) ?_
    refine aw_icmp_ge (pc := 9) 26 dX6_linkedWith_9 (by decide) (fun q => ?_) (fun q => ?_)
    · have h := h.1 q
      refine aw_iload_n (pc := 26) 1 dX6_linkedWith_26 rfl ?_
      exact aw_iret (pc := 27) rfl dX6_linkedWith_27 ⟨_, rfl, h⟩
    · have h := h.2 q
      refine aw_iload_n (pc := 12) 1 dX6_linkedWith_12 rfl ?_
      refine aw_aload_n (pc := 13) 0 dX6_linkedWith_13 rfl ?_
      refine aw_iload_n (pc := 14) 1 dX6_linkedWith_14 rfl ?_
      refine aw_callV (pc := 15) (As := [.int y2]) (rest := [.int y2]) kcX6 (sea_nn hk0) (sea_ki hk0) rfl (ev_X6_metBy l k0 hk0 y2 h) mfX6_metBy dX6_linkedWith_15 lmX6_65 ⟨Nat.le_refl _, Nat.le_refl _⟩ (by decide) rfl rfl (Nat.le_of_ble_eq_true rfl) (nxI (fun r15_ τ15 h => ?_))
      refine aw_ior (pc := 18) dX6_linkedWith_18 ?_
      refine aw_topi (fun v19 ev19 => ?_)
      have h := h v19 ev19
      refine aw_istore_n (pc := 19) (i := 2) [(2, .int v19), (0, .ref k0), (3, .int y3)] dX6_linkedWith_19 rfl (by decide) rfl ?_
      obtain ⟨v20, ev20⟩ : ∃ v : Int32, v = y3 + 1 := ⟨_, rfl⟩
      have h := h v20 ev20
      refine aw_iinc (pc := 20) 2 v20 [(3, .int v20), (2, .int v19), (0, .ref k0)] dX6_linkedWith_20 rfl (by rw [ev20]; rfl) (by decide) rfl ?_
      refine aw_goto (pc := 23) 6 dX6_linkedWith_23 (by decide) ?_
      refine aw_sub (L' := [(0, .ref k0), (2, .int v19), (3, .int v20)]) [2, 1, 0] rfl ?_
      exact ih v19 v20  _ h
def wp_X6_linkedWith (k0 : Nat) (x1 : Int32) (σ : Sg) (K : Int32 → Sg → Prop) : Prop :=
  ∀ v3 : Int32, v3 = 1 <<< (x1 &&& 31) → (∃ nf, b_X6_linkedWith_6 k0 x1  K nf v3 1 σ)
set_option maxRecDepth 20000 in
set_option maxHeartbeats 2000000 in
theorem ev_X6_linkedWith (l : Launch) (k0 : Nat) (hk0 : k0 ∈ seaL) (x1 : Int32) {σ : Sg} {K : Int32 → Sg → Prop} (h : wp_X6_linkedWith k0 x1 σ K) : Ev l yX6_linkedWith cX6_linkedWith 4 (some .int) 1 [.ref k0, .int x1] σ (qI K) := by
  refine ev_ov (by decide) (Nat.le_of_ble_eq_true rfl) ?_
  show AV l RX6 cX6_linkedWith 4 (some .int) 1 (qI K) 0 [(0, .ref k0), (1, .int x1)] [] σ
  refine aw_iconst (pc := 0) 1 dX6_linkedWith_0 (by decide) ?_
  refine aw_iload_n (pc := 1) 1 dX6_linkedWith_1 rfl ?_
  refine aw_ishl (pc := 2) dX6_linkedWith_2 ?_
  refine aw_topi (fun v3 ev3 => ?_)
  have h := h v3 ev3
  refine aw_istore_n (pc := 3) (i := 2) [(2, .int v3), (0, .ref k0), (1, .int x1)] dX6_linkedWith_3 rfl (by decide) rfl ?_
  refine aw_iconst (pc := 4) 1 dX6_linkedWith_4 (by decide) ?_
  refine aw_istore_n (pc := 5) (i := 3) [(3, .int 1), (2, .int v3), (0, .ref k0), (1, .int x1)] dX6_linkedWith_5 rfl (by decide) rfl ?_
  refine aw_sub (L' := [(0, .ref k0), (2, .int v3), (3, .int 1)]) [2, 1, 0] rfl ?_
  obtain ⟨nf, h⟩ := h
  exact bt_X6_linkedWith_6 l k0 hk0 x1   nf v3 1  _ h
def b_X6_stillIn_7 (k0 : Nat) (x1 : Int32)  (K : Int32 → Sg → Prop) : Nat → Int32 → Int32 → Int32 → Sg → Prop
  | 0, _, _, _, _ => False
  | n + 1, y2, y3, y4, σ =>
  br ((σ k0 0) ≤ y4) (K (y2 &&& (y3 ^^^ (-1))) σ) (vp_in y4 30 ∧ (br ((σ (k0 + 1) y4.toNatClampNeg) = x1) (vp_in y4 30 ∧ (vp_in y4 30 ∧ (∀ v48 : Int32, v48 = y2 ||| ((1 <<< ((σ (k0 + 3) y4.toNatClampNeg) &&& 31)) ||| (1 <<< ((σ (k0 + 4) y4.toNatClampNeg) &&& 31))) → (wp_X6_isDecided k0 y4 σ <| fun r53_ τ53 => (br (r53_ = 0) (∀ v72 : Int32, v72 = y3 ||| 0 → (∀ v73 : Int32, v73 = y4 + 1 → (b_X6_stillIn_7 k0 x1  K n v48 v72 v73 τ53))) (wp_X6_loserOf k0 y4 τ53 <| fun r63_ τ63 => (∀ v72 : Int32, v72 = y3 ||| (1 <<< (r63_ &&& 31)) → (∀ v73 : Int32, v73 = y4 + 1 → (b_X6_stillIn_7 k0 x1  K n v48 v72 v73 τ63))))))))) (∀ v73 : Int32, v73 = y4 + 1 → (b_X6_stillIn_7 k0 x1  K n y2 y3 v73 σ))))
set_option maxRecDepth 20000 in
set_option maxHeartbeats 2000000 in
theorem bt_X6_stillIn_7 (l : Launch) (k0 : Nat) (hk0 : k0 ∈ seaL) (x1 : Int32) {K : Int32 → Sg → Prop}   : ∀ (n : Nat) (y2 : Int32) (y3 : Int32) (y4 : Int32)  (σ : Sg), b_X6_stillIn_7 k0 x1  K n y2 y3 y4 σ → AV l RX6 cX6_stillIn 5 (some .int) 3 (qI K) 7 [(0, .ref k0), (1, .int x1), (2, .int y2), (3, .int y3), (4, .int y4)] [] σ := by
  intro n
  induction n with
  | zero => intro y2 y3 y4 σ h; exact h.elim
  | succ n ih =>
    intro y2 y3 y4 σ h
    refine aw_iload (pc := 7) 4 dX6_stillIn_7 rfl ?_
    refine aw_aload_n (pc := 9) 0 dX6_stillIn_9 rfl ?_
    refine aw_getI (pc := 10) 0 kcX6 dX6_stillIn_10 lfX6_33 (sea_nn hk0) (sea_ki hk0) (by decide) rfl ?_
    refine aw_icmp_ge (pc := 13) 79 dX6_stillIn_13 (by decide) (fun q => ?_) (fun q => ?_)
    · have h := h.1 q
      refine aw_iload_n (pc := 79) 2 dX6_stillIn_79 rfl ?_
      refine aw_iload_n (pc := 80) 3 dX6_stillIn_80 rfl ?_
      refine aw_iconst (pc := 81) (-1) dX6_stillIn_81 (by decide) ?_
      refine aw_ixor (pc := 82) dX6_stillIn_82 ?_
      refine aw_iand (pc := 83) dX6_stillIn_83 ?_
      exact aw_iret (pc := 84) rfl dX6_stillIn_84 ⟨_, rfl, h⟩
    · have h := h.2 q
      refine aw_aload_n (pc := 16) 0 dX6_stillIn_16 rfl ?_
      refine aw_getR (pc := 17) 2 kcX6 dX6_stillIn_17 lfX6_9 (sea_nn hk0) (sea_ki hk0) (by decide) rfl (sea_r2 hk0) ?_
      refine aw_iload (pc := 20) 4 dX6_stillIn_20 rfl ?_
      refine aw_iald (pc := 22) (j := y4.toNatClampNeg) dX6_stillIn_22 (sea_a1 hk0).1 (sea_a1 hk0).2.1 (sea_a1 hk0).2.2 h.1 rfl ?_
      have h := h.2
      refine aw_iload_n (pc := 23) 1 dX6_stillIn_23 rfl ?_
      refine aw_icmp_ne (pc := 24) 73 dX6_stillIn_24 (by decide) (fun q => ?_) (fun q => ?_)
      · have h := h.2 q
        obtain ⟨v73, ev73⟩ : ∃ v : Int32, v = y4 + 1 := ⟨_, rfl⟩
        have h := h v73 ev73
        refine aw_iinc (pc := 73) 4 v73 [(4, .int v73), (0, .ref k0), (1, .int x1), (2, .int y2), (3, .int y3)] dX6_stillIn_73 rfl (by rw [ev73]; rfl) (by decide) rfl ?_
        refine aw_goto (pc := 76) 7 dX6_stillIn_76 (by decide) ?_
        refine aw_sub (L' := [(0, .ref k0), (1, .int x1), (2, .int y2), (3, .int y3), (4, .int v73)]) [1, 2, 3, 4, 0] rfl ?_
        exact ih y2 y3 v73  _ h
      · have h := h.1 q
        refine aw_iload_n (pc := 27) 2 dX6_stillIn_27 rfl ?_
        refine aw_iconst (pc := 28) 1 dX6_stillIn_28 (by decide) ?_
        refine aw_aload_n (pc := 29) 0 dX6_stillIn_29 rfl ?_
        refine aw_getR (pc := 30) 4 kcX6 dX6_stillIn_30 lfX6_18 (sea_nn hk0) (sea_ki hk0) (by decide) rfl (sea_r4 hk0) ?_
        refine aw_iload (pc := 33) 4 dX6_stillIn_33 rfl ?_
        refine aw_iald (pc := 35) (j := y4.toNatClampNeg) dX6_stillIn_35 (sea_a3 hk0).1 (sea_a3 hk0).2.1 (sea_a3 hk0).2.2 h.1 rfl ?_
        have h := h.2
        refine aw_ishl (pc := 36) dX6_stillIn_36 ?_
        refine aw_iconst (pc := 37) 1 dX6_stillIn_37 (by decide) ?_
        refine aw_aload_n (pc := 38) 0 dX6_stillIn_38 rfl ?_
        refine aw_getR (pc := 39) 5 kcX6 dX6_stillIn_39 lfX6_21 (sea_nn hk0) (sea_ki hk0) (by decide) rfl (sea_r5 hk0) ?_
        refine aw_iload (pc := 42) 4 dX6_stillIn_42 rfl ?_
        refine aw_iald (pc := 44) (j := y4.toNatClampNeg) dX6_stillIn_44 (sea_a4 hk0).1 (sea_a4 hk0).2.1 (sea_a4 hk0).2.2 h.1 rfl ?_
        have h := h.2
        refine aw_ishl (pc := 45) dX6_stillIn_45 ?_
        refine aw_ior (pc := 46) dX6_stillIn_46 ?_
        refine aw_ior (pc := 47) dX6_stillIn_47 ?_
        refine aw_topi (fun v48 ev48 => ?_)
        have h := h v48 ev48
        refine aw_istore_n (pc := 48) (i := 2) [(2, .int v48), (0, .ref k0), (1, .int x1), (3, .int y3), (4, .int y4)] dX6_stillIn_48 rfl (by decide) rfl ?_
        refine aw_iload_n (pc := 49) 3 dX6_stillIn_49 rfl ?_
        refine aw_aload_n (pc := 50) 1 dX6_stillIn_50 rfl ?_
        refine aw_iload (pc := 51) 4 dX6_stillIn_51 rfl ?_
        refine aw_callV (pc := 53) (As := [.int y4]) (rest := [.int y3]) kcX6 (sea_nn hk0) (sea_ki hk0) rfl (ev_X6_isDecided l k0 hk0 y4 h) mfX6_isDecided dX6_stillIn_53 lmX6_50 ⟨Nat.le_refl _, Nat.le_refl _⟩ (by decide) rfl rfl (Nat.le_of_ble_eq_true rfl) (nxI (fun r53_ τ53 h => ?_))
        refine aw_if_eq (pc := 56) 70 dX6_stillIn_56 (by decide) (fun q => ?_) (fun q => ?_)
        · have h := h.1 q
          refine aw_iconst (pc := 70) 0 dX6_stillIn_70 (by decide) ?_
          refine aw_ior (pc := 71) dX6_stillIn_71 ?_
          refine aw_topi (fun v72 ev72 => ?_)
          have h := h v72 ev72
          refine aw_istore_n (pc := 72) (i := 3) [(3, .int v72), (2, .int v48), (0, .ref k0), (1, .int x1), (4, .int y4)] dX6_stillIn_72 rfl (by decide) rfl ?_
          obtain ⟨v73, ev73⟩ : ∃ v : Int32, v = y4 + 1 := ⟨_, rfl⟩
          have h := h v73 ev73
          refine aw_iinc (pc := 73) 4 v73 [(4, .int v73), (3, .int v72), (2, .int v48), (0, .ref k0), (1, .int x1)] dX6_stillIn_73 rfl (by rw [ev73]; rfl) (by decide) rfl ?_
          refine aw_goto (pc := 76) 7 dX6_stillIn_76 (by decide) ?_
          refine aw_sub (L' := [(0, .ref k0), (1, .int x1), (2, .int v48), (3, .int v72), (4, .int v73)]) [3, 4, 2, 1, 0] rfl ?_
          exact ih v48 v72 v73  _ h
        · have h := h.2 q
          refine aw_iconst (pc := 59) 1 dX6_stillIn_59 (by decide) ?_
          refine aw_aload_n (pc := 60) 1 dX6_stillIn_60 rfl ?_
          refine aw_iload (pc := 61) 4 dX6_stillIn_61 rfl ?_
          refine aw_callV (pc := 63) (As := [.int y4]) (rest := [.int 1, .int y3]) kcX6 (sea_nn hk0) (sea_ki hk0) rfl (ev_X6_loserOf l k0 hk0 y4 h) mfX6_loserOf dX6_stillIn_63 lmX6_68 ⟨Nat.le_refl _, Nat.le_refl _⟩ (by decide) rfl rfl (Nat.le_of_ble_eq_true rfl) (nxI (fun r63_ τ63 h => ?_))
          refine aw_ishl (pc := 66) dX6_stillIn_66 ?_
          refine aw_goto (pc := 67) 71 dX6_stillIn_67 (by decide) ?_
          refine aw_ior (pc := 71) dX6_stillIn_71 ?_
          refine aw_topi (fun v72 ev72 => ?_)
          have h := h v72 ev72
          refine aw_istore_n (pc := 72) (i := 3) [(3, .int v72), (2, .int v48), (0, .ref k0), (1, .int x1), (4, .int y4)] dX6_stillIn_72 rfl (by decide) rfl ?_
          obtain ⟨v73, ev73⟩ : ∃ v : Int32, v = y4 + 1 := ⟨_, rfl⟩
          have h := h v73 ev73
          refine aw_iinc (pc := 73) 4 v73 [(4, .int v73), (3, .int v72), (2, .int v48), (0, .ref k0), (1, .int x1)] dX6_stillIn_73 rfl (by rw [ev73]; rfl) (by decide) rfl ?_
          refine aw_goto (pc := 76) 7 dX6_stillIn_76 (by decide) ?_
          refine aw_sub (L' := [(0, .ref k0), (1, .int x1), (2, .int v48), (3, .int v72), (4, .int v73)]) [3, 4, 2, 1, 0] rfl ?_
          exact ih v48 v72 v73  _ h
def wp_X6_stillIn (k0 : Nat) (x1 : Int32) (σ : Sg) (K : Int32 → Sg → Prop) : Prop :=
  ∃ nf, b_X6_stillIn_7 k0 x1  K nf 0 0 0 σ
set_option maxRecDepth 20000 in
set_option maxHeartbeats 2000000 in
theorem ev_X6_stillIn (l : Launch) (k0 : Nat) (hk0 : k0 ∈ seaL) (x1 : Int32) {σ : Sg} {K : Int32 → Sg → Prop} (h : wp_X6_stillIn k0 x1 σ K) : Ev l yX6_stillIn cX6_stillIn 5 (some .int) 3 [.ref k0, .int x1] σ (qI K) := by
  refine ev_ov (by decide) (Nat.le_of_ble_eq_true rfl) ?_
  show AV l RX6 cX6_stillIn 5 (some .int) 3 (qI K) 0 [(0, .ref k0), (1, .int x1)] [] σ
  refine aw_iconst (pc := 0) 0 dX6_stillIn_0 (by decide) ?_
  refine aw_istore_n (pc := 1) (i := 2) [(2, .int 0), (0, .ref k0), (1, .int x1)] dX6_stillIn_1 rfl (by decide) rfl ?_
  refine aw_iconst (pc := 2) 0 dX6_stillIn_2 (by decide) ?_
  refine aw_istore_n (pc := 3) (i := 3) [(3, .int 0), (2, .int 0), (0, .ref k0), (1, .int x1)] dX6_stillIn_3 rfl (by decide) rfl ?_
  refine aw_iconst (pc := 4) 0 dX6_stillIn_4 (by decide) ?_
  refine aw_istore (pc := 5) [(4, .int 0), (3, .int 0), (2, .int 0), (0, .ref k0), (1, .int x1)] dX6_stillIn_5 (by decide) rfl ?_
  refine aw_sub (L' := [(0, .ref k0), (1, .int x1), (2, .int 0), (3, .int 0), (4, .int 0)]) [3, 4, 2, 1, 0] rfl ?_
  obtain ⟨nf, h⟩ := h
  exact bt_X6_stillIn_7 l k0 hk0 x1   nf 0 0 0  _ h
