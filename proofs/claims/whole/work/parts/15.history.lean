def wp_X2_clear  (σ : Sg) (K : Sg → Prop) : Prop :=
  ∀ τ2 : Sg, τ2 = up σ 63 2 0 → (K τ2)
set_option maxRecDepth 20000 in
set_option maxHeartbeats 2000000 in
theorem ev_X2_clear (l : Launch)  {σ : Sg} {K : Sg → Prop} (h : wp_X2_clear  σ K) : Ev l yX2_clear cX2_clear 1 none 0 [.ref 63] σ (qV K) := by
  refine ev_ov (by decide) (Nat.le_of_ble_eq_true rfl) ?_
  show AV l RX2 cX2_clear 1 none 0 (qV K) 0 [(0, .ref 63)] [] σ
  refine aw_aload_n (pc := 0) 0 dX2_clear_0 rfl ?_
  refine aw_iconst (pc := 1) 0 dX2_clear_1 (by decide) ?_
  refine aw_put (pc := 2) 2 kcX2 dX2_clear_2 lfX2_18 nn_63 ki_63 (by decide) rfl rfl rfl rfl ?_
  refine aw_tops (fun τ2 eτ2 => ?_)
  have h := h τ2 eτ2
  exact aw_vret (pc := 5) rfl dX2_clear_5 ⟨rfl, h⟩
def wp_X2_put  (σ : Sg) (K : Sg → Prop) : Prop :=
  vp_in (σ 63 1) 12 ∧ (wp_X6_copyFrom (64 + 1 + 8 * (σ 63 1).toNatClampNeg) 55 σ <| fun τ10 => (∀ τ23 : Sg, τ23 = up τ10 63 1 (((τ10 63 1) + 1) - ((τ10 63 1) + 1) / 12 * 12) → (∀ τ38 : Sg, τ38 = up τ23 63 2 (if 12 < ((τ23 63 2) + 1) then 12 else ((τ23 63 2) + 1)) → (K τ38))))
set_option maxRecDepth 20000 in
set_option maxHeartbeats 2000000 in
theorem ev_X2_put (l : Launch)  {σ : Sg} {K : Sg → Prop} (h : wp_X2_put  σ K) : Ev l yX2_put cX2_put 2 none 2 [.ref 63, .ref 55] σ (qV K) := by
  refine ev_ov (by decide) (Nat.le_of_ble_eq_true rfl) ?_
  show AV l RX2 cX2_put 2 none 2 (qV K) 0 [(0, .ref 63), (1, .ref 55)] [] σ
  refine aw_aload_n (pc := 0) 0 dX2_put_0 rfl ?_
  refine aw_getR (pc := 1) 0 kcX2 dX2_put_1 lfX2_11 nn_63 ki_63 (by decide) rfl rf_63_0 ?_
  refine aw_aload_n (pc := 4) 0 dX2_put_4 rfl ?_
  refine aw_getI (pc := 5) 1 kcX2 dX2_put_5 lfX2_22 nn_63 ki_63 (by decide) rfl ?_
  have hin8 := h.1
  have h := h.2
  refine aw_aldS (pc := 8) dX2_put_8 nn_64 ki_64 ln_64 hin8 (rf14 ki_64) ?_
  refine aw_aload_n (pc := 9) 1 dX2_put_9 rfl ?_
  refine aw_callVN (pc := 10) (As := [.ref 55]) (rest := []) kcX6 (sea_nn (ring_mem _ (vp_lt hin8))) (sea_ki (ring_mem _ (vp_lt hin8))) rfl (ev_X6_copyFrom l (64 + 1 + 8 * (σ 63 1).toNatClampNeg) (ring_mem _ (vp_lt hin8)) 55 sea_55 h) mfX6_copyFrom dX2_put_10 lmnX2_25 ⟨Nat.le_refl _, Nat.le_refl _⟩ (by decide) rfl rfl (Nat.le_of_ble_eq_true rfl) (nxV (fun τ10 h => ?_))
  refine aw_aload_n (pc := 13) 0 dX2_put_13 rfl ?_
  refine aw_aload_n (pc := 14) 0 dX2_put_14 rfl ?_
  refine aw_getI (pc := 15) 1 kcX2 dX2_put_15 lfX2_22 nn_63 ki_63 (by decide) rfl ?_
  refine aw_iconst (pc := 18) 1 dX2_put_18 (by decide) ?_
  refine aw_iadd (pc := 19) dX2_put_19 ?_
  refine aw_bipush (pc := 20) 12 dX2_put_20 (by decide) ?_
  refine aw_irem (pc := 22) dX2_put_22 (by decide) ?_
  refine aw_put (pc := 23) 1 kcX2 dX2_put_23 lfX2_22 nn_63 ki_63 (by decide) rfl rfl rfl rfl ?_
  refine aw_tops (fun τ23 eτ23 => ?_)
  have h := h τ23 eτ23
  refine aw_aload_n (pc := 26) 0 dX2_put_26 rfl ?_
  refine aw_aload_n (pc := 27) 0 dX2_put_27 rfl ?_
  refine aw_getI (pc := 28) 2 kcX2 dX2_put_28 lfX2_18 nn_63 ki_63 (by decide) rfl ?_
  refine aw_iconst (pc := 31) 1 dX2_put_31 (by decide) ?_
  refine aw_iadd (pc := 32) dX2_put_32 ?_
  refine aw_bipush (pc := 33) 12 dX2_put_33 (by decide) ?_
  refine aw_mmin (pc := 35) dX2_put_35 lmX2_29 lib_min.1 lib_min.2.1 lib_min.2.2 ⟨Nat.le_refl _, Nat.le_refl _⟩ (by decide) (Nat.le_of_ble_eq_true rfl) ?_
  refine aw_put (pc := 38) 2 kcX2 dX2_put_38 lfX2_18 nn_63 ki_63 (by decide) rfl rfl rfl rfl ?_
  refine aw_tops (fun τ38 eτ38 => ?_)
  have h := h τ38 eτ38
  exact aw_vret (pc := 41) rfl dX2_put_41 ⟨rfl, h⟩
def wp_X2_takeBack  (σ : Sg) (K : Sg → Prop) : Prop :=
  ∀ τ13 : Sg, τ13 = up σ 63 1 ((((σ 63 1) + 12) - 1) - (((σ 63 1) + 12) - 1) / 12 * 12) → (vp_in (τ13 63 1) 12 ∧ (wp_X6_copyFrom 55 (64 + 1 + 8 * (τ13 63 1).toNatClampNeg) τ13 <| fun τ26 => (∀ τ36 : Sg, τ36 = up τ26 63 2 ((τ26 63 2) - 1) → (K τ36))))
set_option maxRecDepth 20000 in
set_option maxHeartbeats 2000000 in
theorem ev_X2_takeBack (l : Launch)  {σ : Sg} {K : Sg → Prop} (h : wp_X2_takeBack  σ K) : Ev l yX2_takeBack cX2_takeBack 2 none 2 [.ref 63, .ref 55] σ (qV K) := by
  refine ev_ov (by decide) (Nat.le_of_ble_eq_true rfl) ?_
  show AV l RX2 cX2_takeBack 2 none 2 (qV K) 0 [(0, .ref 63), (1, .ref 55)] [] σ
  refine aw_aload_n (pc := 0) 0 dX2_takeBack_0 rfl ?_
  refine aw_aload_n (pc := 1) 0 dX2_takeBack_1 rfl ?_
  refine aw_getI (pc := 2) 1 kcX2 dX2_takeBack_2 lfX2_22 nn_63 ki_63 (by decide) rfl ?_
  refine aw_bipush (pc := 5) 12 dX2_takeBack_5 (by decide) ?_
  refine aw_iadd (pc := 7) dX2_takeBack_7 ?_
  refine aw_iconst (pc := 8) 1 dX2_takeBack_8 (by decide) ?_
  refine aw_isub (pc := 9) dX2_takeBack_9 ?_
  refine aw_bipush (pc := 10) 12 dX2_takeBack_10 (by decide) ?_
  refine aw_irem (pc := 12) dX2_takeBack_12 (by decide) ?_
  refine aw_put (pc := 13) 1 kcX2 dX2_takeBack_13 lfX2_22 nn_63 ki_63 (by decide) rfl rfl rfl rfl ?_
  refine aw_tops (fun τ13 eτ13 => ?_)
  have h := h τ13 eτ13
  refine aw_aload_n (pc := 16) 1 dX2_takeBack_16 rfl ?_
  refine aw_aload_n (pc := 17) 0 dX2_takeBack_17 rfl ?_
  refine aw_getR (pc := 18) 0 kcX2 dX2_takeBack_18 lfX2_11 nn_63 ki_63 (by decide) rfl rf_63_0 ?_
  refine aw_aload_n (pc := 21) 0 dX2_takeBack_21 rfl ?_
  refine aw_getI (pc := 22) 1 kcX2 dX2_takeBack_22 lfX2_22 nn_63 ki_63 (by decide) rfl ?_
  have hin25 := h.1
  have h := h.2
  refine aw_aldS (pc := 25) dX2_takeBack_25 nn_64 ki_64 ln_64 hin25 (rf14 ki_64) ?_
  refine aw_callVN (pc := 26) (As := [.ref (64 + 1 + 8 * (τ13 63 1).toNatClampNeg)]) (rest := []) kcX6 nn_55 ki_55 rfl (ev_X6_copyFrom l 55 sea_55 (64 + 1 + 8 * (τ13 63 1).toNatClampNeg) (ring_mem _ (vp_lt hin25)) h) mfX6_copyFrom dX2_takeBack_26 lmnX2_25 ⟨Nat.le_refl _, Nat.le_refl _⟩ (by decide) rfl rfl (Nat.le_of_ble_eq_true rfl) (nxV (fun τ26 h => ?_))
  refine aw_aload_n (pc := 29) 0 dX2_takeBack_29 rfl ?_
  refine aw_dup (pc := 30) dX2_takeBack_30 rfl ?_
  refine aw_getI (pc := 31) 2 kcX2 dX2_takeBack_31 lfX2_18 nn_63 ki_63 (by decide) rfl ?_
  refine aw_iconst (pc := 34) 1 dX2_takeBack_34 (by decide) ?_
  refine aw_isub (pc := 35) dX2_takeBack_35 ?_
  refine aw_put (pc := 36) 2 kcX2 dX2_takeBack_36 lfX2_18 nn_63 ki_63 (by decide) rfl rfl rfl rfl ?_
  refine aw_tops (fun τ36 eτ36 => ?_)
  have h := h τ36 eτ36
  exact aw_vret (pc := 39) rfl dX2_takeBack_39 ⟨rfl, h⟩
