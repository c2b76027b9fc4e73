def wp_X0_readClub  (σ : Sg) (K : Int32 → Sg → Prop) : Prop :=
  wp_X4_step  σ <| fun τ4 => (vp_in (τ4 28 0) 12 ∧ (∀ τ33 : Sg, τ33 = up τ4 28 0 ((τ4 28 0) + 1) → (wp_X4_takeNumber (29 + 1 + (τ4 28 0).toNatClampNeg) 3 0 0 9999 τ33 <| fun r46_ τ46 => (br (r46_ = 0) (K 0 τ46) (wp_X4_takeNumber (29 + 1 + (τ4 28 0).toNatClampNeg) 3 1 0 9999 τ46 <| fun r62_ τ62 => (br (r62_ = 0) (K 0 τ62) (wp_X4_takeNumber (29 + 1 + (τ4 28 0).toNatClampNeg) 3 2 0 99999 τ62 <| fun r77_ τ77 => (br (r77_ = 0) (K 0 τ77) (K 1 τ77)))))))))
set_option maxRecDepth 20000 in
set_option maxHeartbeats 2000000 in
theorem ev_X0_readClub (l : Launch)  {σ : Sg} {K : Int32 → Sg → Prop} (h : wp_X0_readClub  σ K) : Ev l yX0_readClub cX0_readClub 2 (some .boolean) 3 [.ref 27] σ (qI K) := by
  refine ev_ov (by decide) (Nat.le_of_ble_eq_true rfl) ?_
  show AV l RX0 cX0_readClub 2 (some .boolean) 3 (qI K) 0 [(0, .ref 27)] [] σ
  refine aw_aload_n (pc := 0) 0 dX0_readClub_0 rfl ?_
  refine aw_getR (pc := 1) 0 kcX0 dX0_readClub_1 lfX0_22 nn_27 ki_27 (by decide) rfl rf_27_0 ?_
  refine aw_callVN (pc := 4) (As := []) (rest := []) kcX4 nn_1 ki_1 rfl (ev_X4_step l  h) mfX4_step dX0_readClub_4 lmnX0_77 ⟨Nat.le_refl _, Nat.le_refl _⟩ (by decide) rfl rfl (Nat.le_of_ble_eq_true rfl) (nxV (fun τ4 h => ?_))
  refine aw_aload_n (pc := 7) 0 dX0_readClub_7 rfl ?_
  refine aw_getR (pc := 8) 1 kcX0 dX0_readClub_8 lfX0_12 nn_27 ki_27 (by decide) rfl rf_27_1 ?_
  refine aw_getRN (pc := 11) 2 kcX5 dX0_readClub_11 lfnX0_80 nn_28 ki_28 (by decide) rfl rf_28_2 ?_
  refine aw_aload_n (pc := 14) 0 dX0_readClub_14 rfl ?_
  refine aw_getR (pc := 15) 1 kcX0 dX0_readClub_15 lfX0_12 nn_27 ki_27 (by decide) rfl rf_27_1 ?_
  refine aw_getIN (pc := 18) 0 kcX5 dX0_readClub_18 lfnX0_52 nn_28 ki_28 (by decide) rfl ?_
  have hin21 := h.1
  have h := h.2
  refine aw_aldI (pc := 21) dX0_readClub_21 nn_29 ki_29 ln_29 hin21 (rf15 ki_29) ?_
  refine aw_astore_n (pc := 22) (i := 1) [(1, .ref (29 + 1 + (τ4 28 0).toNatClampNeg)), (0, .ref 27)] dX0_readClub_22 rfl (by decide) rfl ?_
  refine aw_aload_n (pc := 23) 1 dX0_readClub_23 rfl ?_
  refine aw_getR (pc := 24) 1 kcX0 dX0_readClub_24 lfX0_12 nn_27 ki_27 (by decide) rfl rf_27_1 ?_
  refine aw_dup (pc := 27) dX0_readClub_27 rfl ?_
  refine aw_getIN (pc := 28) 0 kcX5 dX0_readClub_28 lfnX0_52 nn_28 ki_28 (by decide) rfl ?_
  refine aw_iconst (pc := 31) 1 dX0_readClub_31 (by decide) ?_
  refine aw_iadd (pc := 32) dX0_readClub_32 ?_
  refine aw_putN (pc := 33) 0 kcX5 dX0_readClub_33 lfnX0_52 nn_28 ki_28 (by decide) rfl rfl rfl rfl ?_
  refine aw_tops (fun τ33 eτ33 => ?_)
  have h := h τ33 eτ33
  refine aw_aload_n (pc := 36) 1 dX0_readClub_36 rfl ?_
  refine aw_getR (pc := 37) 0 kcX0 dX0_readClub_37 lfX0_22 nn_27 ki_27 (by decide) rfl rf_27_0 ?_
  refine aw_aload_n (pc := 40) 0 dX0_readClub_40 rfl ?_
  refine aw_iconst (pc := 41) 0 dX0_readClub_41 (by decide) ?_
  refine aw_iconst (pc := 42) 0 dX0_readClub_42 (by decide) ?_
  refine aw_sipush (pc := 43) 9999 dX0_readClub_43 (by decide) ?_
  refine aw_callVN (pc := 46) (As := [.ref (29 + 1 + (τ4 28 0).toNatClampNeg), .int 0, .int 0, .int 9999]) (rest := []) kcX4 nn_1 ki_1 rfl (ev_X4_takeNumber l (29 + 1 + (τ4 28 0).toNatClampNeg) 3 (row_29 _ (vp_lt hin21)) 0 0 9999 h) mfX4_takeNumber dX0_readClub_46 lmnX0_84 ⟨Nat.le_refl _, Nat.le_refl _⟩ (by decide) rfl rfl (Nat.le_of_ble_eq_true rfl) (nxI (fun r46_ τ46 h => ?_))
  refine aw_if_eq (pc := 49) 87 dX0_readClub_49 (by decide) (fun q => ?_) (fun q => ?_)
  · have h := h.1 q
    refine aw_iconst (pc := 87) 0 dX0_readClub_87 (by decide) ?_
    exact aw_zret (pc := 88) rfl rfl dX0_readClub_88 ⟨_, rfl, h⟩
  · have h := h.2 q
    refine aw_aload_n (pc := 52) 1 dX0_readClub_52 rfl ?_
    refine aw_getR (pc := 53) 0 kcX0 dX0_readClub_53 lfX0_22 nn_27 ki_27 (by decide) rfl rf_27_0 ?_
    refine aw_aload_n (pc := 56) 0 dX0_readClub_56 rfl ?_
    refine aw_iconst (pc := 57) 1 dX0_readClub_57 (by decide) ?_
    refine aw_iconst (pc := 58) 0 dX0_readClub_58 (by decide) ?_
    refine aw_sipush (pc := 59) 9999 dX0_readClub_59 (by decide) ?_
    refine aw_callVN (pc := 62) (As := [.ref (29 + 1 + (τ4 28 0).toNatClampNeg), .int 1, .int 0, .int 9999]) (rest := []) kcX4 nn_1 ki_1 rfl (ev_X4_takeNumber l (29 + 1 + (τ4 28 0).toNatClampNeg) 3 (row_29 _ (vp_lt hin21)) 1 0 9999 h) mfX4_takeNumber dX0_readClub_62 lmnX0_84 ⟨Nat.le_refl _, Nat.le_refl _⟩ (by decide) rfl rfl (Nat.le_of_ble_eq_true rfl) (nxI (fun r62_ τ62 h => ?_))
    refine aw_if_eq (pc := 65) 87 dX0_readClub_65 (by decide) (fun q => ?_) (fun q => ?_)
    · have h := h.1 q
      refine aw_iconst (pc := 87) 0 dX0_readClub_87 (by decide) ?_
      exact aw_zret (pc := 88) rfl rfl dX0_readClub_88 ⟨_, rfl, h⟩
    · have h := h.2 q
      refine aw_aload_n (pc := 68) 1 dX0_readClub_68 rfl ?_
      refine aw_getR (pc := 69) 0 kcX0 dX0_readClub_69 lfX0_22 nn_27 ki_27 (by decide) rfl rf_27_0 ?_
      refine aw_aload_n (pc := 72) 0 dX0_readClub_72 rfl ?_
      refine aw_iconst (pc := 73) 2 dX0_readClub_73 (by decide) ?_
      refine aw_iconst (pc := 74) 0 dX0_readClub_74 (by decide) ?_
      refine aw_ldc (pc := 75) 99999 dX0_readClub_75 lcX0_88 ?_
      refine aw_callVN (pc := 77) (As := [.ref (29 + 1 + (τ4 28 0).toNatClampNeg), .int 2, .int 0, .int 99999]) (rest := []) kcX4 nn_1 ki_1 rfl (ev_X4_takeNumber l (29 + 1 + (τ4 28 0).toNatClampNeg) 3 (row_29 _ (vp_lt hin21)) 2 0 99999 h) mfX4_takeNumber dX0_readClub_77 lmnX0_84 ⟨Nat.le_refl _, Nat.le_refl _⟩ (by decide) rfl rfl (Nat.le_of_ble_eq_true rfl) (nxI (fun r77_ τ77 h => ?_))
      refine aw_if_eq (pc := 80) 87 dX0_readClub_80 (by decide) (fun q => ?_) (fun q => ?_)
      · have h := h.1 q
        refine aw_iconst (pc := 87) 0 dX0_readClub_87 (by decide) ?_
        exact aw_zret (pc := 88) rfl rfl dX0_readClub_88 ⟨_, rfl, h⟩
      · have h := h.2 q
        refine aw_iconst (pc := 83) 1 dX0_readClub_83 (by decide) ?_
        refine aw_goto (pc := 84) 88 dX0_readClub_84 (by decide) ?_
        exact aw_zret (pc := 88) rfl rfl dX0_readClub_88 ⟨_, rfl, h⟩
def wp_X0_readParts (k1 n1 : Nat) (x2 : Int32) (σ : Sg) (K : Int32 → Sg → Prop) : Prop :=
  wp_X4_takeNumber k1 n1 x2 0 100 σ <| fun r9_ τ9 => (br (r9_ = 0) (K 0 τ9) (wp_X4_takeNumber k1 n1 (x2 + 1) 0 100 τ9 <| fun r26_ τ26 => (br (r26_ = 0) (K 0 τ26) (vp_in x2 n1 ∧ (vp_in (x2 + 1) n1 ∧ (∀ v46 : Int32, v46 = (100 - (τ26 k1 x2.toNatClampNeg)) - (τ26 k1 (x2 + 1).toNatClampNeg) → (wp_X4_takeNumber k1 n1 (x2 + 2) v46 v46 τ26 <| fun r57_ τ57 => (isZ r57_ ∧ K r57_ τ57))))))))
set_option maxRecDepth 20000 in
set_option maxHeartbeats 2000000 in
theorem ev_X0_readParts (l : Launch) (k1 n1 : Nat) (hk1 : aOk k1 n1) (x2 : Int32) {σ : Sg} {K : Int32 → Sg → Prop} (h : wp_X0_readParts k1 n1 x2 σ K) : Ev l yX0_readParts cX0_readParts 4 (some .boolean) 3 [.ref 27, .ref k1, .int x2] σ (qI K) := by
  refine ev_ov (by decide) (Nat.le_of_ble_eq_true rfl) ?_
  show AV l RX0 cX0_readParts 4 (some .boolean) 3 (qI K) 0 [(0, .ref 27), (1, .ref k1), (2, .int x2)] [] σ
  refine aw_aload_n (pc := 0) 0 dX0_readParts_0 rfl ?_
  refine aw_getR (pc := 1) 0 kcX0 dX0_readParts_1 lfX0_22 nn_27 ki_27 (by decide) rfl rf_27_0 ?_
  refine aw_aload_n (pc := 4) 1 dX0_readParts_4 rfl ?_
  refine aw_iload_n (pc := 5) 2 dX0_readParts_5 rfl ?_
  refine aw_iconst (pc := 6) 0 dX0_readParts_6 (by decide) ?_
  refine aw_bipush (pc := 7) 100 dX0_readParts_7 (by decide) ?_
  refine aw_callVN (pc := 9) (As := [.ref k1, .int x2, .int 0, .int 100]) (rest := []) kcX4 nn_1 ki_1 rfl (ev_X4_takeNumber l k1 n1 hk1 x2 0 100 h) mfX4_takeNumber dX0_readParts_9 lmnX0_84 ⟨Nat.le_refl _, Nat.le_refl _⟩ (by decide) rfl rfl (Nat.le_of_ble_eq_true rfl) (nxI (fun r9_ τ9 h => ?_))
  refine aw_if_eq (pc := 12) 32 dX0_readParts_12 (by decide) (fun q => ?_) (fun q => ?_)
  · have h := h.1 q
    refine aw_iconst (pc := 32) 0 dX0_readParts_32 (by decide) ?_
    exact aw_zret (pc := 33) rfl rfl dX0_readParts_33 ⟨_, rfl, h⟩
  · have h := h.2 q
    refine aw_aload_n (pc := 15) 0 dX0_readParts_15 rfl ?_
    refine aw_getR (pc := 16) 0 kcX0 dX0_readParts_16 lfX0_22 nn_27 ki_27 (by decide) rfl rf_27_0 ?_
    refine aw_aload_n (pc := 19) 1 dX0_readParts_19 rfl ?_
    refine aw_iload_n (pc := 20) 2 dX0_readParts_20 rfl ?_
    refine aw_iconst (pc := 21) 1 dX0_readParts_21 (by decide) ?_
    refine aw_iadd (pc := 22) dX0_readParts_22 ?_
    refine aw_iconst (pc := 23) 0 dX0_readParts_23 (by decide) ?_
    refine aw_bipush (pc := 24) 100 dX0_readParts_24 (by decide) ?_
    refine aw_callVN (pc := 26) (As := [.ref k1, .int (x2 + 1), .int 0, .int 100]) (rest := []) kcX4 nn_1 ki_1 rfl (ev_X4_takeNumber l k1 n1 hk1 (x2 + 1) 0 100 h) mfX4_takeNumber dX0_readParts_26 lmnX0_84 ⟨Nat.le_refl _, Nat.le_refl _⟩ (by decide) rfl rfl (Nat.le_of_ble_eq_true rfl) (nxI (fun r26_ τ26 h => ?_))
    refine aw_if_ne (pc := 29) 34 dX0_readParts_29 (by decide) (fun q => ?_) (fun q => ?_)
    · have h := h.2 q
      refine aw_bipush (pc := 34) 100 dX0_readParts_34 (by decide) ?_
      refine aw_aload_n (pc := 36) 1 dX0_readParts_36 rfl ?_
      refine aw_iload_n (pc := 37) 2 dX0_readParts_37 rfl ?_
      refine aw_iald (pc := 38) (j := x2.toNatClampNeg) dX0_readParts_38 hk1.1 hk1.2.1 hk1.2.2 h.1 rfl ?_
      have h := h.2
      refine aw_isub (pc := 39) dX0_readParts_39 ?_
      refine aw_aload_n (pc := 40) 1 dX0_readParts_40 rfl ?_
      refine aw_iload_n (pc := 41) 2 dX0_readParts_41 rfl ?_
      refine aw_iconst (pc := 42) 1 dX0_readParts_42 (by decide) ?_
      refine aw_iadd (pc := 43) dX0_readParts_43 ?_
      refine aw_iald (pc := 44) (j := (x2 + 1).toNatClampNeg) dX0_readParts_44 hk1.1 hk1.2.1 hk1.2.2 h.1 rfl ?_
      have h := h.2
      refine aw_isub (pc := 45) dX0_readParts_45 ?_
      refine aw_topi (fun v46 ev46 => ?_)
      have h := h v46 ev46
      refine aw_istore_n (pc := 46) (i := 3) [(3, .int v46), (0, .ref 27), (1, .ref k1), (2, .int x2)] dX0_readParts_46 rfl (by decide) rfl ?_
      refine aw_aload_n (pc := 47) 1 dX0_readParts_47 rfl ?_
      refine aw_getR (pc := 48) 0 kcX0 dX0_readParts_48 lfX0_22 nn_27 ki_27 (by decide) rfl rf_27_0 ?_
      refine aw_aload_n (pc := 51) 2 dX0_readParts_51 rfl ?_
      refine aw_iload_n (pc := 52) 3 dX0_readParts_52 rfl ?_
      refine aw_iconst (pc := 53) 2 dX0_readParts_53 (by decide) ?_
      refine aw_iadd (pc := 54) dX0_readParts_54 ?_
      refine aw_iload_n (pc := 55) 0 dX0_readParts_55 rfl ?_
      refine aw_iload_n (pc := 56) 0 dX0_readParts_56 rfl ?_
      refine aw_callVN (pc := 57) (As := [.ref k1, .int (x2 + 2), .int v46, .int v46]) (rest := []) kcX4 nn_1 ki_1 rfl (ev_X4_takeNumber l k1 n1 hk1 (x2 + 2) v46 v46 h) mfX4_takeNumber dX0_readParts_57 lmnX0_84 ⟨Nat.le_refl _, Nat.le_refl _⟩ (by decide) rfl rfl (Nat.le_of_ble_eq_true rfl) (nxI (fun r57_ τ57 h => ?_))
      exact aw_zret (pc := 60) rfl (isZ_n h.1) dX0_readParts_60 ⟨_, rfl, h.2⟩
    · have h := h.1 q
      refine aw_iconst (pc := 32) 0 dX0_readParts_32 (by decide) ?_
      exact aw_zret (pc := 33) rfl rfl dX0_readParts_33 ⟨_, rfl, h⟩
def wp_X0_readOption (i1 : Nat) (k2 n2 : Nat) (x3 : Int32) (x4 : Int32) (x5 : Int32) (σ : Sg) (K : Int32 → Sg → Prop) : Prop :=
  wp_X4_takeWord i1 σ <| fun r5_ τ5 => (br (r5_ = 0) (K 1 τ5) (wp_X4_takeNumber k2 n2 x3 x4 x5 τ5 <| fun r21_ τ21 => (br (r21_ = 0) (K 0 τ21) (K 1 τ21))))
set_option maxRecDepth 20000 in
set_option maxHeartbeats 2000000 in
theorem ev_X0_readOption (l : Launch) (i1 : Nat) (hi1 : i1 < nSt) (gi1 : i1 ≠ 99) (k2 n2 : Nat) (hk2 : aOk k2 n2) (x3 : Int32) (x4 : Int32) (x5 : Int32) {σ : Sg} {K : Int32 → Sg → Prop} (h : wp_X0_readOption i1 k2 n2 x3 x4 x5 σ K) : Ev l yX0_readOption cX0_readOption 6 (some .boolean) 7 [.ref 27, .retAddr i1, .ref k2, .int x3, .int x4, .int x5] σ (qI K) := by
  refine ev_ov (by decide) (Nat.le_of_ble_eq_true rfl) ?_
  show AV l RX0 cX0_readOption 6 (some .boolean) 7 (qI K) 0 [(0, .ref 27), (1, .retAddr i1), (2, .ref k2), (3, .int x3), (4, .int x4), (5, .int x5)] [] σ
  refine aw_aload_n (pc := 0) 0 dX0_readOption_0 rfl ?_
  refine aw_getR (pc := 1) 0 kcX0 dX0_readOption_1 lfX0_22 nn_27 ki_27 (by decide) rfl rf_27_0 ?_
  refine aw_aload_nS (pc := 4) 1 gi1 dX0_readOption_4 rfl ?_
  refine aw_callVN (pc := 5) (As := [.retAddr i1]) (rest := []) kcX4 nn_1 ki_1 rfl (ev_X4_takeWord l i1 hi1 gi1 h) mfX4_takeWord dX0_readOption_5 lmnX0_114 ⟨Nat.le_refl _, Nat.le_refl _⟩ (by decide) rfl rfl (Nat.le_of_ble_eq_true rfl) (nxI (fun r5_ τ5 h => ?_))
  refine aw_if_eq (pc := 8) 27 dX0_readOption_8 (by decide) (fun q => ?_) (fun q => ?_)
  · have h := h.1 q
    refine aw_iconst (pc := 27) 1 dX0_readOption_27 (by decide) ?_
    refine aw_goto (pc := 28) 32 dX0_readOption_28 (by decide) ?_
    exact aw_zret (pc := 32) rfl rfl dX0_readOption_32 ⟨_, rfl, h⟩
  · have h := h.2 q
    refine aw_aload_n (pc := 11) 0 dX0_readOption_11 rfl ?_
    refine aw_getR (pc := 12) 0 kcX0 dX0_readOption_12 lfX0_22 nn_27 ki_27 (by decide) rfl rf_27_0 ?_
    refine aw_aload_n (pc := 15) 2 dX0_readOption_15 rfl ?_
    refine aw_iload_n (pc := 16) 3 dX0_readOption_16 rfl ?_
    refine aw_iload (pc := 17) 4 dX0_readOption_17 rfl ?_
    refine aw_iload (pc := 19) 5 dX0_readOption_19 rfl ?_
    refine aw_callVN (pc := 21) (As := [.ref k2, .int x3, .int x4, .int x5]) (rest := []) kcX4 nn_1 ki_1 rfl (ev_X4_takeNumber l k2 n2 hk2 x3 x4 x5 h) mfX4_takeNumber dX0_readOption_21 lmnX0_84 ⟨Nat.le_refl _, Nat.le_refl _⟩ (by decide) rfl rfl (Nat.le_of_ble_eq_true rfl) (nxI (fun r21_ τ21 h => ?_))
    refine aw_if_eq (pc := 24) 31 dX0_readOption_24 (by decide) (fun q => ?_) (fun q => ?_)
    · have h := h.1 q
      refine aw_iconst (pc := 31) 0 dX0_readOption_31 (by decide) ?_
      exact aw_zret (pc := 32) rfl rfl dX0_readOption_32 ⟨_, rfl, h⟩
    · have h := h.2 q
      refine aw_iconst (pc := 27) 1 dX0_readOption_27 (by decide) ?_
      refine aw_goto (pc := 28) 32 dX0_readOption_28 (by decide) ?_
      exact aw_zret (pc := 32) rfl rfl dX0_readOption_32 ⟨_, rfl, h⟩
def b_X0_readCup_118   (K : Int32 → Sg → Prop) (r1 : Nat) (σ : Sg) : Prop :=
  wp_X0_readOption 6 r1 11 9 1 6 σ <| fun r127_ τ127 => (br (r127_ = 0) (K 0 τ127) (wp_X0_readOption 7 r1 11 10 0 2 τ127 <| fun r141_ τ141 => (br (r141_ = 0) (K 0 τ141) (K 1 τ141))))
set_option maxRecDepth 20000 in
set_option maxHeartbeats 2000000 in
theorem bt_X0_readCup_118 (l : Launch)  {K : Int32 → Sg → Prop}   (r1 : Nat) (hr1 : aOk r1 11) (σ : Sg) (h : b_X0_readCup_118   K r1 σ) : AV l RX0 cX0_readCup 2 (some .boolean) 8 (qI K) 118 [(0, .ref 27), (1, .ref r1)] [] σ := by
  refine aw_aload_n (pc := 118) 0 dX0_readCup_118 rfl ?_
  refine aw_ldcS (pc := 119) 6 (by decide) dX0_readCup_119 lsX0_117 ?_
  refine aw_aload_n (pc := 121) 1 dX0_readCup_121 rfl ?_
  refine aw_bipush (pc := 122) 9 dX0_readCup_122 (by decide) ?_
  refine aw_iconst (pc := 124) 1 dX0_readCup_124 (by decide) ?_
  refine aw_bipush (pc := 125) 6 dX0_readCup_125 (by decide) ?_
  refine aw_callV (pc := 127) (As := [.retAddr 6, .ref r1, .int 9, .int 1, .int 6]) (rest := []) kcX0 nn_27 ki_27 rfl (ev_X0_readOption l 6 (by decide) (by decide) r1 11 hr1 9 1 6 h) mfX0_readOption dX0_readCup_127 lmX0_104 ⟨Nat.le_refl _, Nat.le_refl _⟩ (by decide) rfl rfl (Nat.le_of_ble_eq_true rfl) (nxI (fun r127_ τ127 h => ?_))
  refine aw_if_eq (pc := 130) 151 dX0_readCup_130 (by decide) (fun q => ?_) (fun q => ?_)
  · have h := h.1 q
    refine aw_iconst (pc := 151) 0 dX0_readCup_151 (by decide) ?_
    exact aw_zret (pc := 152) rfl rfl dX0_readCup_152 ⟨_, rfl, h⟩
  · have h := h.2 q
    refine aw_aload_n (pc := 133) 0 dX0_readCup_133 rfl ?_
    refine aw_ldcS (pc := 134) 7 (by decide) dX0_readCup_134 lsX0_119 ?_
    refine aw_aload_n (pc := 136) 1 dX0_readCup_136 rfl ?_
    refine aw_bipush (pc := 137) 10 dX0_readCup_137 (by decide) ?_
    refine aw_iconst (pc := 139) 0 dX0_readCup_139 (by decide) ?_
    refine aw_iconst (pc := 140) 2 dX0_readCup_140 (by decide) ?_
    refine aw_callV (pc := 141) (As := [.retAddr 7, .ref r1, .int 10, .int 0, .int 2]) (rest := []) kcX0 nn_27 ki_27 rfl (ev_X0_readOption l 7 (by decide) (by decide) r1 11 hr1 10 0 2 h) mfX0_readOption dX0_readCup_141 lmX0_104 ⟨Nat.le_refl _, Nat.le_refl _⟩ (by decide) rfl rfl (Nat.le_of_ble_eq_true rfl) (nxI (fun r141_ τ141 h => ?_))
    refine aw_if_eq (pc := 144) 151 dX0_readCup_144 (by decide) (fun q => ?_) (fun q => ?_)
    · have h := h.1 q
      refine aw_iconst (pc := 151) 0 dX0_readCup_151 (by decide) ?_
      exact aw_zret (pc := 152) rfl rfl dX0_readCup_152 ⟨_, rfl, h⟩
    · have h := h.2 q
      refine aw_iconst (pc := 147) 1 dX0_readCup_147 (by decide) ?_
      refine aw_goto (pc := 148) 152 dX0_readCup_148 (by decide) ?_
      exact aw_zret (pc := 152) rfl rfl dX0_readCup_152 ⟨_, rfl, h⟩
def wp_X0_readCup  (σ : Sg) (K : Int32 → Sg → Prop) : Prop :=
  wp_X4_step  σ <| fun τ4 => (vp_in (τ4 28 1) 4 ∧ (∀ τ33 : Sg, τ33 = up τ4 28 1 ((τ4 28 1) + 1) → (wp_X0_readParts (42 + 1 + (τ4 28 1).toNatClampNeg) 11 0 τ33 <| fun r39_ τ39 => (br (r39_ = 0) (K 0 τ39) (∀ τ53 : Sg, τ53 = upA τ39 (42 + 1 + (τ4 28 1).toNatClampNeg) (va_cpy (τ39 (42 + 1 + (τ4 28 1).toNatClampNeg)) (τ39 (42 + 1 + (τ4 28 1).toNatClampNeg)) (0 : Int32).toNatClampNeg (6 : Int32).toNatClampNeg (3 : Int32).toNatClampNeg) → (wp_X0_readOption 2 (42 + 1 + (τ4 28 1).toNatClampNeg) 11 3 0 2 τ53 <| fun r63_ τ63 => (br (r63_ = 0) (K 0 τ63) (wp_X0_readOption 3 (42 + 1 + (τ4 28 1).toNatClampNeg) 11 4 0 99999 τ63 <| fun r77_ τ77 => (br (r77_ = 0) (K 0 τ77) (wp_X0_readOption 4 (42 + 1 + (τ4 28 1).toNatClampNeg) 11 5 0 3 τ77 <| fun r90_ τ90 => (br (r90_ = 0) (K 0 τ90) (wp_X4_takeWord 5 τ90 <| fun r102_ τ102 => (br (r102_ = 0) (b_X0_readCup_118   K (42 + 1 + (τ4 28 1).toNatClampNeg) τ102) (wp_X0_readParts (42 + 1 + (τ4 28 1).toNatClampNeg) 11 6 τ102 <| fun r112_ τ112 => (br (r112_ = 0) (K 0 τ112) (b_X0_readCup_118   K (42 + 1 + (τ4 28 1).toNatClampNeg) τ112))))))))))))))))
set_option maxRecDepth 20000 in
set_option maxHeartbeats 2000000 in
theorem ev_X0_readCup (l : Launch)  {σ : Sg} {K : Int32 → Sg → Prop} (h : wp_X0_readCup  σ K) : Ev l yX0_readCup cX0_readCup 2 (some .boolean) 8 [.ref 27] σ (qI K) := by
  refine ev_ov (by decide) (Nat.le_of_ble_eq_true rfl) ?_
  show AV l RX0 cX0_readCup 2 (some .boolean) 8 (qI K) 0 [(0, .ref 27)] [] σ
  refine aw_aload_n (pc := 0) 0 dX0_readCup_0 rfl ?_
  refine aw_getR (pc := 1) 0 kcX0 dX0_readCup_1 lfX0_22 nn_27 ki_27 (by decide) rfl rf_27_0 ?_
  refine aw_callVN (pc := 4) (As := []) (rest := []) kcX4 nn_1 ki_1 rfl (ev_X4_step l  h) mfX4_step dX0_readCup_4 lmnX0_77 ⟨Nat.le_refl _, Nat.le_refl _⟩ (by decide) rfl rfl (Nat.le_of_ble_eq_true rfl) (nxV (fun τ4 h => ?_))
  refine aw_aload_n (pc := 7) 0 dX0_readCup_7 rfl ?_
  refine aw_getR (pc := 8) 1 kcX0 dX0_readCup_8 lfX0_12 nn_27 ki_27 (by decide) rfl rf_27_1 ?_
  refine aw_getRN (pc := 11) 3 kcX5 dX0_readCup_11 lfnX0_89 nn_28 ki_28 (by decide) rfl rf_28_3 ?_
  refine aw_aload_n (pc := 14) 0 dX0_readCup_14 rfl ?_
  refine aw_getR (pc := 15) 1 kcX0 dX0_readCup_15 lfX0_12 nn_27 ki_27 (by decide) rfl rf_27_1 ?_
  refine aw_getIN (pc := 18) 1 kcX5 dX0_readCup_18 lfnX0_55 nn_28 ki_28 (by decide) rfl ?_
  have hin21 := h.1
  have h := h.2
  refine aw_aldI (pc := 21) dX0_readCup_21 nn_42 ki_42 ln_42 hin21 (rf15 ki_42) ?_
  refine aw_astore_n (pc := 22) (i := 1) [(1, .ref (42 + 1 + (τ4 28 1).toNatClampNeg)), (0, .ref 27)] dX0_readCup_22 rfl (by decide) rfl ?_
  refine aw_aload_n (pc := 23) 1 dX0_readCup_23 rfl ?_
  refine aw_getR (pc := 24) 1 kcX0 dX0_readCup_24 lfX0_12 nn_27 ki_27 (by decide) rfl rf_27_1 ?_
  refine aw_dup (pc := 27) dX0_readCup_27 rfl ?_
  refine aw_getIN (pc := 28) 1 kcX5 dX0_readCup_28 lfnX0_55 nn_28 ki_28 (by decide) rfl ?_
  refine aw_iconst (pc := 31) 1 dX0_readCup_31 (by decide) ?_
  refine aw_iadd (pc := 32) dX0_readCup_32 ?_
  refine aw_putN (pc := 33) 1 kcX5 dX0_readCup_33 lfnX0_55 nn_28 ki_28 (by decide) rfl rfl rfl rfl ?_
  refine aw_tops (fun τ33 eτ33 => ?_)
  have h := h τ33 eτ33
  refine aw_aload_n (pc := 36) 1 dX0_readCup_36 rfl ?_
  refine aw_aload_n (pc := 37) 0 dX0_readCup_37 rfl ?_
  refine aw_iconst (pc := 38) 0 dX0_readCup_38 (by decide) ?_
  refine aw_callV (pc := 39) (As := [.ref (42 + 1 + (τ4 28 1).toNatClampNeg), .int 0]) (rest := []) kcX0 nn_27 ki_27 rfl (ev_X0_readParts l (42 + 1 + (τ4 28 1).toNatClampNeg) 11 (row_42 _ (vp_lt hin21)) 0 h) mfX0_readParts dX0_readCup_39 lmX0_92 ⟨Nat.le_refl _, Nat.le_refl _⟩ (by decide) rfl rfl (Nat.le_of_ble_eq_true rfl) (nxI (fun r39_ τ39 h => ?_))
  refine aw_if_ne (pc := 42) 47 dX0_readCup_42 (by decide) (fun q => ?_) (fun q => ?_)
  · have h := h.2 q
    refine aw_aload_n (pc := 47) 0 dX0_readCup_47 rfl ?_
    refine aw_iconst (pc := 48) 0 dX0_readCup_48 (by decide) ?_
    refine aw_aload_n (pc := 49) 0 dX0_readCup_49 rfl ?_
    refine aw_bipush (pc := 50) 6 dX0_readCup_50 (by decide) ?_
    refine aw_iconst (pc := 52) 3 dX0_readCup_52 (by decide) ?_
    refine aw_copy (pc := 53) dX0_readCup_53 lmX0_96 lib_copy.1 lib_copy.2.1 lib_copy.2.2 (row_42 _ (vp_lt hin21)).1 (row_42 _ (vp_lt hin21)).2.1 (row_42 _ (vp_lt hin21)).2.2 (row_42 _ (vp_lt hin21)).1 (row_42 _ (vp_lt hin21)).2.1 (row_42 _ (vp_lt hin21)).2.2 (by decide) (by decide) (by decide) (by decide) (by decide) ⟨Nat.le_refl _, Nat.le_refl _⟩ (by decide) (Nat.le_of_ble_eq_true rfl) ?_
    refine aw_tops (fun τ53 eτ53 => ?_)
    have h := h τ53 eτ53
    refine aw_aload_n (pc := 56) 1 dX0_readCup_56 rfl ?_
    refine aw_ldcS (pc := 57) 2 (by decide) dX0_readCup_57 lsX0_102 ?_
    refine aw_aload_n (pc := 59) 0 dX0_readCup_59 rfl ?_
    refine aw_iconst (pc := 60) 3 dX0_readCup_60 (by decide) ?_
    refine aw_iconst (pc := 61) 0 dX0_readCup_61 (by decide) ?_
    refine aw_iconst (pc := 62) 2 dX0_readCup_62 (by decide) ?_
    refine aw_callV (pc := 63) (As := [.retAddr 2, .ref (42 + 1 + (τ4 28 1).toNatClampNeg), .int 3, .int 0, .int 2]) (rest := []) kcX0 nn_27 ki_27 rfl (ev_X0_readOption l 2 (by decide) (by decide) (42 + 1 + (τ4 28 1).toNatClampNeg) 11 (row_42 _ (vp_lt hin21)) 3 0 2 h) mfX0_readOption dX0_readCup_63 lmX0_104 ⟨Nat.le_refl _, Nat.le_refl _⟩ (by decide) rfl rfl (Nat.le_of_ble_eq_true rfl) (nxI (fun r63_ τ63 h => ?_))
    refine aw_if_eq (pc := 66) 151 dX0_readCup_66 (by decide) (fun q => ?_) (fun q => ?_)
    · have h := h.1 q
      refine aw_iconst (pc := 151) 0 dX0_readCup_151 (by decide) ?_
      exact aw_zret (pc := 152) rfl rfl dX0_readCup_152 ⟨_, rfl, h⟩
    · have h := h.2 q
      refine aw_aload_n (pc := 69) 1 dX0_readCup_69 rfl ?_
      refine aw_ldcS (pc := 70) 3 (by decide) dX0_readCup_70 lsX0_108 ?_
      refine aw_aload_n (pc := 72) 0 dX0_readCup_72 rfl ?_
      refine aw_iconst (pc := 73) 4 dX0_readCup_73 (by decide) ?_
      refine aw_iconst (pc := 74) 0 dX0_readCup_74 (by decide) ?_
      refine aw_ldc (pc := 75) 99999 dX0_readCup_75 lcX0_88 ?_
      refine aw_callV (pc := 77) (As := [.retAddr 3, .ref (42 + 1 + (τ4 28 1).toNatClampNeg), .int 4, .int 0, .int 99999]) (rest := []) kcX0 nn_27 ki_27 rfl (ev_X0_readOption l 3 (by decide) (by decide) (42 + 1 + (τ4 28 1).toNatClampNeg) 11 (row_42 _ (vp_lt hin21)) 4 0 99999 h) mfX0_readOption dX0_readCup_77 lmX0_104 ⟨Nat.le_refl _, Nat.le_refl _⟩ (by decide) rfl rfl (Nat.le_of_ble_eq_true rfl) (nxI (fun r77_ τ77 h => ?_))
      refine aw_if_eq (pc := 80) 151 dX0_readCup_80 (by decide) (fun q => ?_) (fun q => ?_)
      · have h := h.1 q
        refine aw_iconst (pc := 151) 0 dX0_readCup_151 (by decide) ?_
        exact aw_zret (pc := 152) rfl rfl dX0_readCup_152 ⟨_, rfl, h⟩
      · have h := h.2 q
        refine aw_aload_n (pc := 83) 1 dX0_readCup_83 rfl ?_
        refine aw_ldcS (pc := 84) 4 (by decide) dX0_readCup_84 lsX0_110 ?_
        refine aw_aload_n (pc := 86) 0 dX0_readCup_86 rfl ?_
        refine aw_iconst (pc := 87) 5 dX0_readCup_87 (by decide) ?_
        refine aw_iconst (pc := 88) 0 dX0_readCup_88 (by decide) ?_
        refine aw_iconst (pc := 89) 3 dX0_readCup_89 (by decide) ?_
        refine aw_callV (pc := 90) (As := [.retAddr 4, .ref (42 + 1 + (τ4 28 1).toNatClampNeg), .int 5, .int 0, .int 3]) (rest := []) kcX0 nn_27 ki_27 rfl (ev_X0_readOption l 4 (by decide) (by decide) (42 + 1 + (τ4 28 1).toNatClampNeg) 11 (row_42 _ (vp_lt hin21)) 5 0 3 h) mfX0_readOption dX0_readCup_90 lmX0_104 ⟨Nat.le_refl _, Nat.le_refl _⟩ (by decide) rfl rfl (Nat.le_of_ble_eq_true rfl) (nxI (fun r90_ τ90 h => ?_))
        refine aw_if_eq (pc := 93) 151 dX0_readCup_93 (by decide) (fun q => ?_) (fun q => ?_)
        · have h := h.1 q
          refine aw_iconst (pc := 151) 0 dX0_readCup_151 (by decide) ?_
          exact aw_zret (pc := 152) rfl rfl dX0_readCup_152 ⟨_, rfl, h⟩
        · have h := h.2 q
          refine aw_aload_n (pc := 96) 1 dX0_readCup_96 rfl ?_
          refine aw_getR (pc := 97) 0 kcX0 dX0_readCup_97 lfX0_22 nn_27 ki_27 (by decide) rfl rf_27_0 ?_
          refine aw_ldcS (pc := 100) 5 (by decide) dX0_readCup_100 lsX0_112 ?_
          refine aw_callVN (pc := 102) (As := [.retAddr 5]) (rest := []) kcX4 nn_1 ki_1 rfl (ev_X4_takeWord l 5 (by decide) (by decide) h) mfX4_takeWord dX0_readCup_102 lmnX0_114 ⟨Nat.le_refl _, Nat.le_refl _⟩ (by decide) rfl rfl (Nat.le_of_ble_eq_true rfl) (nxI (fun r102_ τ102 h => ?_))
          refine aw_if_eq (pc := 105) 118 dX0_readCup_105 (by decide) (fun q => ?_) (fun q => ?_)
          · have h := h.1 q
            refine aw_sub (L' := [(0, .ref 27), (1, .ref (42 + 1 + (τ4 28 1).toNatClampNeg))]) [1, 0] rfl ?_
            exact bt_X0_readCup_118 l    (42 + 1 + (τ4 28 1).toNatClampNeg) (row_42 _ (vp_lt hin21)) _ h
          · have h := h.2 q
            refine aw_aload_n (pc := 108) 1 dX0_readCup_108 rfl ?_
            refine aw_aload_n (pc := 109) 0 dX0_readCup_109 rfl ?_
            refine aw_bipush (pc := 110) 6 dX0_readCup_110 (by decide) ?_
            refine aw_callV (pc := 112) (As := [.ref (42 + 1 + (τ4 28 1).toNatClampNeg), .int 6]) (rest := []) kcX0 nn_27 ki_27 rfl (ev_X0_readParts l (42 + 1 + (τ4 28 1).toNatClampNeg) 11 (row_42 _ (vp_lt hin21)) 6 h) mfX0_readParts dX0_readCup_112 lmX0_92 ⟨Nat.le_refl _, Nat.le_refl _⟩ (by decide) rfl rfl (Nat.le_of_ble_eq_true rfl) (nxI (fun r112_ τ112 h => ?_))
            refine aw_if_eq (pc := 115) 151 dX0_readCup_115 (by decide) (fun q => ?_) (fun q => ?_)
            · have h := h.1 q
              refine aw_iconst (pc := 151) 0 dX0_readCup_151 (by decide) ?_
              exact aw_zret (pc := 152) rfl rfl dX0_readCup_152 ⟨_, rfl, h⟩
            · have h := h.2 q
              refine aw_sub (L' := [(0, .ref 27), (1, .ref (42 + 1 + (τ4 28 1).toNatClampNeg))]) [1, 0] rfl ?_
              exact bt_X0_readCup_118 l    (42 + 1 + (τ4 28 1).toNatClampNeg) (row_42 _ (vp_lt hin21)) _ h
  · have h := h.1 q
    refine aw_iconst (pc := 45) 0 dX0_readCup_45 (by decide) ?_
    exact aw_zret (pc := 46) rfl rfl dX0_readCup_46 ⟨_, rfl, h⟩
def b_X0_readWay_71   (K : Int32 → Sg → Prop) (z0 : Int32) (σ : Sg) : Prop :=
  br (z0 = 0) (isZ z0 ∧ K z0 σ) (vp_in (σ 52 0) 4 ∧ (vp_in (σ 52 1) 6 ∧ (∀ τ102 : Sg, τ102 = up σ (47 + 1 + (σ 52 0).toNatClampNeg) (σ 52 1).toNatClampNeg (σ 52 2) → (isZ z0 ∧ K z0 τ102))))
set_option maxRecDepth 20000 in
set_option maxHeartbeats 2000000 in
theorem bt_X0_readWay_71 (l : Launch)  {K : Int32 → Sg → Prop}   (z0 : Int32)  (σ : Sg) (h : b_X0_readWay_71   K z0 σ) : AV l RX0 cX0_readWay 2 (some .boolean) 3 (qI K) 71 [(0, .ref 27)] [.int z0] σ := by
  refine aw_istore_n (pc := 71) (i := 1) [(1, .int z0), (0, .ref 27)] dX0_readWay_71 rfl (by decide) rfl ?_
  refine aw_iload_n (pc := 72) 0 dX0_readWay_72 rfl ?_
  refine aw_if_eq (pc := 73) 103 dX0_readWay_73 (by decide) (fun q => ?_) (fun q => ?_)
  · have h := h.1 q
    refine aw_iload_n (pc := 103) 0 dX0_readWay_103 rfl ?_
    exact aw_zret (pc := 104) rfl (isZ_n h.1) dX0_readWay_104 ⟨_, rfl, h.2⟩
  · have h := h.2 q
    refine aw_aload_n (pc := 76) 1 dX0_readWay_76 rfl ?_
    refine aw_getR (pc := 77) 1 kcX0 dX0_readWay_77 lfX0_12 nn_27 ki_27 (by decide) rfl rf_27_1 ?_
    refine aw_getRN (pc := 80) 4 kcX5 dX0_readWay_80 lfnX0_121 nn_28 ki_28 (by decide) rfl rf_28_4 ?_
    refine aw_aload_n (pc := 83) 1 dX0_readWay_83 rfl ?_
    refine aw_getR (pc := 84) 2 kcX0 dX0_readWay_84 lfX0_18 nn_27 ki_27 (by decide) rfl rf_27_2 ?_
    refine aw_iconst (pc := 87) 0 dX0_readWay_87 (by decide) ?_
    refine aw_iald (pc := 88) (j := 0) dX0_readWay_88 nn_52 ki_52 ln_52 (show vp_in _ _ by unfold vp_in; decide) (by decide) ?_
    have hin89 := h.1
    have h := h.2
    refine aw_aldI (pc := 89) dX0_readWay_89 nn_47 ki_47 ln_47 hin89 (rf15 ki_47) ?_
    refine aw_aload_n (pc := 90) 1 dX0_readWay_90 rfl ?_
    refine aw_getR (pc := 91) 2 kcX0 dX0_readWay_91 lfX0_18 nn_27 ki_27 (by decide) rfl rf_27_2 ?_
    refine aw_iconst (pc := 94) 1 dX0_readWay_94 (by decide) ?_
    refine aw_iald (pc := 95) (j := 1) dX0_readWay_95 nn_52 ki_52 ln_52 (show vp_in _ _ by unfold vp_in; decide) (by decide) ?_
    refine aw_aload_n (pc := 96) 1 dX0_readWay_96 rfl ?_
    refine aw_getR (pc := 97) 2 kcX0 dX0_readWay_97 lfX0_18 nn_27 ki_27 (by decide) rfl rf_27_2 ?_
    refine aw_iconst (pc := 100) 2 dX0_readWay_100 (by decide) ?_
    refine aw_iald (pc := 101) (j := 2) dX0_readWay_101 nn_52 ki_52 ln_52 (show vp_in _ _ by unfold vp_in; decide) (by decide) ?_
    refine aw_iast (pc := 102) (j := (σ 52 1).toNatClampNeg) (v := (σ 52 2)) dX0_readWay_102 (row_47 _ (vp_lt hin89)).1 (row_47 _ (vp_lt hin89)).2.1 (row_47 _ (vp_lt hin89)).2.2 h.1 rfl rfl ?_
    have h := h.2
    refine aw_tops (fun τ102 eτ102 => ?_)
    have h := h τ102 eτ102
    refine aw_iload_n (pc := 103) 0 dX0_readWay_103 rfl ?_
    exact aw_zret (pc := 104) rfl (isZ_n h.1) dX0_readWay_104 ⟨_, rfl, h.2⟩
def b_X0_readWay_70   (K : Int32 → Sg → Prop)  (σ : Sg) : Prop :=
  b_X0_readWay_71   K 0 σ
set_option maxRecDepth 20000 in
set_option maxHeartbeats 2000000 in
theorem bt_X0_readWay_70 (l : Launch)  {K : Int32 → Sg → Prop}     (σ : Sg) (h : b_X0_readWay_70   K  σ) : AV l RX0 cX0_readWay 2 (some .boolean) 3 (qI K) 70 [(0, .ref 27)] [] σ := by
  refine aw_iconst (pc := 70) 0 dX0_readWay_70 (by decide) ?_
  exact bt_X0_readWay_71 l    0  _ h
def wp_X0_readWay  (σ : Sg) (K : Int32 → Sg → Prop) : Prop :=
  wp_X4_step  σ <| fun τ4 => (wp_X4_takeNumber 52 3 0 0 ((τ4 28 1) - 1) τ4 <| fun r26_ τ26 => (br (r26_ = 0) (b_X0_readWay_70   K  τ26) (wp_X4_takeNumber 52 3 1 0 5 τ26 <| fun r43_ τ43 => (br (r43_ = 0) (b_X0_readWay_70   K  τ43) (wp_X4_takeNumber 52 3 2 0 3 τ43 <| fun r60_ τ60 => (br (r60_ = 0) (b_X0_readWay_70   K  τ60) (b_X0_readWay_71   K 1 τ60)))))))
set_option maxRecDepth 20000 in
set_option maxHeartbeats 2000000 in
theorem ev_X0_readWay (l : Launch)  {σ : Sg} {K : Int32 → Sg → Prop} (h : wp_X0_readWay  σ K) : Ev l yX0_readWay cX0_readWay 2 (some .boolean) 3 [.ref 27] σ (qI K) := by
  refine ev_ov (by decide) (Nat.le_of_ble_eq_true rfl) ?_
  show AV l RX0 cX0_readWay 2 (some .boolean) 3 (qI K) 0 [(0, .ref 27)] [] σ
  refine aw_aload_n (pc := 0) 0 dX0_readWay_0 rfl ?_
  refine aw_getR (pc := 1) 0 kcX0 dX0_readWay_1 lfX0_22 nn_27 ki_27 (by decide) rfl rf_27_0 ?_
  refine aw_callVN (pc := 4) (As := []) (rest := []) kcX4 nn_1 ki_1 rfl (ev_X4_step l  h) mfX4_step dX0_readWay_4 lmnX0_77 ⟨Nat.le_refl _, Nat.le_refl _⟩ (by decide) rfl rfl (Nat.le_of_ble_eq_true rfl) (nxV (fun τ4 h => ?_))
  refine aw_aload_n (pc := 7) 0 dX0_readWay_7 rfl ?_
  refine aw_getR (pc := 8) 0 kcX0 dX0_readWay_8 lfX0_22 nn_27 ki_27 (by decide) rfl rf_27_0 ?_
  refine aw_aload_n (pc := 11) 0 dX0_readWay_11 rfl ?_
  refine aw_getR (pc := 12) 2 kcX0 dX0_readWay_12 lfX0_18 nn_27 ki_27 (by decide) rfl rf_27_2 ?_
  refine aw_iconst (pc := 15) 0 dX0_readWay_15 (by decide) ?_
  refine aw_iconst (pc := 16) 0 dX0_readWay_16 (by decide) ?_
  refine aw_aload_n (pc := 17) 0 dX0_readWay_17 rfl ?_
  refine aw_getR (pc := 18) 1 kcX0 dX0_readWay_18 lfX0_12 nn_27 ki_27 (by decide) rfl rf_27_1 ?_
  refine aw_getIN (pc := 21) 1 kcX5 dX0_readWay_21 lfnX0_55 nn_28 ki_28 (by decide) rfl ?_
  refine aw_iconst (pc := 24) 1 dX0_readWay_24 (by decide) ?_
  refine aw_isub (pc := 25) dX0_readWay_25 ?_
  refine aw_callVN (pc := 26) (As := [.ref 52, .int 0, .int 0, .int ((τ4 28 1) - 1)]) (rest := []) kcX4 nn_1 ki_1 rfl (ev_X4_takeNumber l 52 3 ao_52 0 0 ((τ4 28 1) - 1) h) mfX4_takeNumber dX0_readWay_26 lmnX0_84 ⟨Nat.le_refl _, Nat.le_refl _⟩ (by decide) rfl rfl (Nat.le_of_ble_eq_true rfl) (nxI (fun r26_ τ26 h => ?_))
  refine aw_if_eq (pc := 29) 70 dX0_readWay_29 (by decide) (fun q => ?_) (fun q => ?_)
  · have h := h.1 q
    exact bt_X0_readWay_70 l      _ h
  · have h := h.2 q
    refine aw_aload_n (pc := 32) 0 dX0_readWay_32 rfl ?_
    refine aw_getR (pc := 33) 0 kcX0 dX0_readWay_33 lfX0_22 nn_27 ki_27 (by decide) rfl rf_27_0 ?_
    refine aw_aload_n (pc := 36) 0 dX0_readWay_36 rfl ?_
    refine aw_getR (pc := 37) 2 kcX0 dX0_readWay_37 lfX0_18 nn_27 ki_27 (by decide) rfl rf_27_2 ?_
    refine aw_iconst (pc := 40) 1 dX0_readWay_40 (by decide) ?_
    refine aw_iconst (pc := 41) 0 dX0_readWay_41 (by decide) ?_
    refine aw_iconst (pc := 42) 5 dX0_readWay_42 (by decide) ?_
    refine aw_callVN (pc := 43) (As := [.ref 52, .int 1, .int 0, .int 5]) (rest := []) kcX4 nn_1 ki_1 rfl (ev_X4_takeNumber l 52 3 ao_52 1 0 5 h) mfX4_takeNumber dX0_readWay_43 lmnX0_84 ⟨Nat.le_refl _, Nat.le_refl _⟩ (by decide) rfl rfl (Nat.le_of_ble_eq_true rfl) (nxI (fun r43_ τ43 h => ?_))
    refine aw_if_eq (pc := 46) 70 dX0_readWay_46 (by decide) (fun q => ?_) (fun q => ?_)
    · have h := h.1 q
      exact bt_X0_readWay_70 l      _ h
    · have h := h.2 q
      refine aw_aload_n (pc := 49) 0 dX0_readWay_49 rfl ?_
      refine aw_getR (pc := 50) 0 kcX0 dX0_readWay_50 lfX0_22 nn_27 ki_27 (by decide) rfl rf_27_0 ?_
      refine aw_aload_n (pc := 53) 0 dX0_readWay_53 rfl ?_
      refine aw_getR (pc := 54) 2 kcX0 dX0_readWay_54 lfX0_18 nn_27 ki_27 (by decide) rfl rf_27_2 ?_
      refine aw_iconst (pc := 57) 2 dX0_readWay_57 (by decide) ?_
      refine aw_iconst (pc := 58) 0 dX0_readWay_58 (by decide) ?_
      refine aw_iconst (pc := 59) 3 dX0_readWay_59 (by decide) ?_
      refine aw_callVN (pc := 60) (As := [.ref 52, .int 2, .int 0, .int 3]) (rest := []) kcX4 nn_1 ki_1 rfl (ev_X4_takeNumber l 52 3 ao_52 2 0 3 h) mfX4_takeNumber dX0_readWay_60 lmnX0_84 ⟨Nat.le_refl _, Nat.le_refl _⟩ (by decide) rfl rfl (Nat.le_of_ble_eq_true rfl) (nxI (fun r60_ τ60 h => ?_))
      refine aw_if_eq (pc := 63) 70 dX0_readWay_63 (by decide) (fun q => ?_) (fun q => ?_)
      · have h := h.1 q
        exact bt_X0_readWay_70 l      _ h
      · have h := h.2 q
        refine aw_iconst (pc := 66) 1 dX0_readWay_66 (by decide) ?_
        refine aw_goto (pc := 67) 71 dX0_readWay_67 (by decide) ?_
        exact bt_X0_readWay_71 l    1  _ h
def wp_X0_readLine  (σ : Sg) (K : Int32 → Sg → Prop) : Prop :=
  wp_X4_isAt 0 σ <| fun r6_ τ6 => (br (r6_ = 0) (wp_X4_isAt 1 τ6 <| fun r46_ τ46 => (br (r46_ = 0) (wp_X4_isAt 8 τ46 <| fun r85_ τ85 => (br (r85_ = 0) (wp_X4_refuse 1 τ85 <| fun r103_ τ103 => (isZ r103_ ∧ K r103_ τ103)) (wp_X0_readWay  τ85 <| fun r92_ τ92 => (isZ r92_ ∧ K r92_ τ92)))) (br (4 ≤ (τ46 28 1)) (wp_X4_refuse 3 τ46 <| fun r75_ τ75 => (isZ r75_ ∧ K r75_ τ75)) (wp_X0_readCup  τ46 <| fun r64_ τ64 => (isZ r64_ ∧ K r64_ τ64))))) (br (12 ≤ (τ6 28 0)) (wp_X4_refuse 3 τ6 <| fun r36_ τ36 => (isZ r36_ ∧ K r36_ τ36)) (wp_X0_readClub  τ6 <| fun r25_ τ25 => (isZ r25_ ∧ K r25_ τ25))))
set_option maxRecDepth 20000 in
set_option maxHeartbeats 2000000 in
theorem ev_X0_readLine (l : Launch)  {σ : Sg} {K : Int32 → Sg → Prop} (h : wp_X0_readLine  σ K) : Ev l yX0_readLine cX0_readLine 1 (some .boolean) 9 [.ref 27] σ (qI K) := by
  refine ev_ov (by decide) (Nat.le_of_ble_eq_true rfl) ?_
  show AV l RX0 cX0_readLine 1 (some .boolean) 9 (qI K) 0 [(0, .ref 27)] [] σ
  refine aw_aload_n (pc := 0) 0 dX0_readLine_0 rfl ?_
  refine aw_getR (pc := 1) 0 kcX0 dX0_readLine_1 lfX0_22 nn_27 ki_27 (by decide) rfl rf_27_0 ?_
  refine aw_ldcS (pc := 4) 0 (by decide) dX0_readLine_4 lsX0_58 ?_
  refine aw_callVN (pc := 6) (As := [.retAddr 0]) (rest := []) kcX4 nn_1 ki_1 rfl (ev_X4_isAt l 0 (by decide) (by decide) h) mfX4_isAt dX0_readLine_6 lmnX0_60 ⟨Nat.le_refl _, Nat.le_refl _⟩ (by decide) rfl rfl (Nat.le_of_ble_eq_true rfl) (nxI (fun r6_ τ6 h => ?_))
  refine aw_if_eq (pc := 9) 40 dX0_readLine_9 (by decide) (fun q => ?_) (fun q => ?_)
  · have h := h.1 q
    refine aw_aload_n (pc := 40) 0 dX0_readLine_40 rfl ?_
    refine aw_getR (pc := 41) 0 kcX0 dX0_readLine_41 lfX0_22 nn_27 ki_27 (by decide) rfl rf_27_0 ?_
    refine aw_ldcS (pc := 44) 1 (by decide) dX0_readLine_44 lsX0_67 ?_
    refine aw_callVN (pc := 46) (As := [.retAddr 1]) (rest := []) kcX4 nn_1 ki_1 rfl (ev_X4_isAt l 1 (by decide) (by decide) h) mfX4_isAt dX0_readLine_46 lmnX0_60 ⟨Nat.le_refl _, Nat.le_refl _⟩ (by decide) rfl rfl (Nat.le_of_ble_eq_true rfl) (nxI (fun r46_ τ46 h => ?_))
    refine aw_if_eq (pc := 49) 79 dX0_readLine_49 (by decide) (fun q => ?_) (fun q => ?_)
    · have h := h.1 q
      refine aw_aload_n (pc := 79) 0 dX0_readLine_79 rfl ?_
      refine aw_getR (pc := 80) 0 kcX0 dX0_readLine_80 lfX0_22 nn_27 ki_27 (by decide) rfl rf_27_0 ?_
      refine aw_ldcS (pc := 83) 8 (by decide) dX0_readLine_83 lsX0_72 ?_
      refine aw_callVN (pc := 85) (As := [.retAddr 8]) (rest := []) kcX4 nn_1 ki_1 rfl (ev_X4_isAt l 8 (by decide) (by decide) h) mfX4_isAt dX0_readLine_85 lmnX0_60 ⟨Nat.le_refl _, Nat.le_refl _⟩ (by decide) rfl rfl (Nat.le_of_ble_eq_true rfl) (nxI (fun r85_ τ85 h => ?_))
      refine aw_if_eq (pc := 88) 98 dX0_readLine_88 (by decide) (fun q => ?_) (fun q => ?_)
      · have h := h.1 q
        refine aw_aload_n (pc := 98) 0 dX0_readLine_98 rfl ?_
        refine aw_getR (pc := 99) 0 kcX0 dX0_readLine_99 lfX0_22 nn_27 ki_27 (by decide) rfl rf_27_0 ?_
        refine aw_iconst (pc := 102) 1 dX0_readLine_102 (by decide) ?_
        refine aw_callVN (pc := 103) (As := [.int 1]) (rest := []) kcX4 nn_1 ki_1 rfl (ev_X4_refuse l 1 h) mfX4_refuse dX0_readLine_103 lmnX0_48 ⟨Nat.le_refl _, Nat.le_refl _⟩ (by decide) rfl rfl (Nat.le_of_ble_eq_true rfl) (nxI (fun r103_ τ103 h => ?_))
        exact aw_zret (pc := 106) rfl (isZ_n h.1) dX0_readLine_106 ⟨_, rfl, h.2⟩
      · have h := h.2 q
        refine aw_aload_n (pc := 91) 0 dX0_readLine_91 rfl ?_
        refine aw_callV (pc := 92) (As := []) (rest := []) kcX0 nn_27 ki_27 rfl (ev_X0_readWay l  h) mfX0_readWay dX0_readLine_92 lmX0_74 ⟨Nat.le_refl _, Nat.le_refl _⟩ (by decide) rfl rfl (Nat.le_of_ble_eq_true rfl) (nxI (fun r92_ τ92 h => ?_))
        refine aw_goto (pc := 95) 106 dX0_readLine_95 (by decide) ?_
        exact aw_zret (pc := 106) rfl (isZ_n h.1) dX0_readLine_106 ⟨_, rfl, h.2⟩
    · have h := h.2 q
      refine aw_aload_n (pc := 52) 0 dX0_readLine_52 rfl ?_
      refine aw_getR (pc := 53) 1 kcX0 dX0_readLine_53 lfX0_12 nn_27 ki_27 (by decide) rfl rf_27_1 ?_
      refine aw_getIN (pc := 56) 1 kcX5 dX0_readLine_56 lfnX0_55 nn_28 ki_28 (by decide) rfl ?_
      refine aw_iconst (pc := 59) 4 dX0_readLine_59 (by decide) ?_
      refine aw_icmp_ge (pc := 60) 70 dX0_readLine_60 (by decide) (fun q => ?_) (fun q => ?_)
      · have h := h.1 q
        refine aw_aload_n (pc := 70) 0 dX0_readLine_70 rfl ?_
        refine aw_getR (pc := 71) 0 kcX0 dX0_readLine_71 lfX0_22 nn_27 ki_27 (by decide) rfl rf_27_0 ?_
        refine aw_iconst (pc := 74) 3 dX0_readLine_74 (by decide) ?_
        refine aw_callVN (pc := 75) (As := [.int 3]) (rest := []) kcX4 nn_1 ki_1 rfl (ev_X4_refuse l 3 h) mfX4_refuse dX0_readLine_75 lmnX0_48 ⟨Nat.le_refl _, Nat.le_refl _⟩ (by decide) rfl rfl (Nat.le_of_ble_eq_true rfl) (nxI (fun r75_ τ75 h => ?_))
        exact aw_zret (pc := 78) rfl (isZ_n h.1) dX0_readLine_78 ⟨_, rfl, h.2⟩
      · have h := h.2 q
        refine aw_aload_n (pc := 63) 0 dX0_readLine_63 rfl ?_
        refine aw_callV (pc := 64) (As := []) (rest := []) kcX0 nn_27 ki_27 rfl (ev_X0_readCup l  h) mfX0_readCup dX0_readLine_64 lmX0_69 ⟨Nat.le_refl _, Nat.le_refl _⟩ (by decide) rfl rfl (Nat.le_of_ble_eq_true rfl) (nxI (fun r64_ τ64 h => ?_))
        refine aw_goto (pc := 67) 78 dX0_readLine_67 (by decide) ?_
        exact aw_zret (pc := 78) rfl (isZ_n h.1) dX0_readLine_78 ⟨_, rfl, h.2⟩
  · have h := h.2 q
    refine aw_aload_n (pc := 12) 0 dX0_readLine_12 rfl ?_
    refine aw_getR (pc := 13) 1 kcX0 dX0_readLine_13 lfX0_12 nn_27 ki_27 (by decide) rfl rf_27_1 ?_
    refine aw_getIN (pc := 16) 0 kcX5 dX0_readLine_16 lfnX0_52 nn_28 ki_28 (by decide) rfl ?_
    refine aw_bipush (pc := 19) 12 dX0_readLine_19 (by decide) ?_
    refine aw_icmp_ge (pc := 21) 31 dX0_readLine_21 (by decide) (fun q => ?_) (fun q => ?_)
    · have h := h.1 q
      refine aw_aload_n (pc := 31) 0 dX0_readLine_31 rfl ?_
      refine aw_getR (pc := 32) 0 kcX0 dX0_readLine_32 lfX0_22 nn_27 ki_27 (by decide) rfl rf_27_0 ?_
      refine aw_iconst (pc := 35) 3 dX0_readLine_35 (by decide) ?_
      refine aw_callVN (pc := 36) (As := [.int 3]) (rest := []) kcX4 nn_1 ki_1 rfl (ev_X4_refuse l 3 h) mfX4_refuse dX0_readLine_36 lmnX0_48 ⟨Nat.le_refl _, Nat.le_refl _⟩ (by decide) rfl rfl (Nat.le_of_ble_eq_true rfl) (nxI (fun r36_ τ36 h => ?_))
      exact aw_zret (pc := 39) rfl (isZ_n h.1) dX0_readLine_39 ⟨_, rfl, h.2⟩
    · have h := h.2 q
      refine aw_aload_n (pc := 24) 0 dX0_readLine_24 rfl ?_
      refine aw_callV (pc := 25) (As := []) (rest := []) kcX0 nn_27 ki_27 rfl (ev_X0_readClub l  h) mfX0_readClub dX0_readLine_25 lmX0_64 ⟨Nat.le_refl _, Nat.le_refl _⟩ (by decide) rfl rfl (Nat.le_of_ble_eq_true rfl) (nxI (fun r25_ τ25 h => ?_))
      refine aw_goto (pc := 28) 39 dX0_readLine_28 (by decide) ?_
      exact aw_zret (pc := 39) rfl (isZ_n h.1) dX0_readLine_39 ⟨_, rfl, h.2⟩
def b_X0_readBook_81   (K : Int32 → Sg → Prop)  (σ : Sg) : Prop :=
  wp_X4_refuse 1 σ <| fun r86_ τ86 => (isZ r86_ ∧ K r86_ τ86)
set_option maxRecDepth 20000 in
set_option maxHeartbeats 2000000 in
theorem bt_X0_readBook_81 (l : Launch)  {K : Int32 → Sg → Prop}     (σ : Sg) (h : b_X0_readBook_81   K  σ) : AV l RX0 cX0_readBook 3 (some .boolean) 10 (qI K) 81 [(0, .ref 27)] [] σ := by
  refine aw_aload_n (pc := 81) 0 dX0_readBook_81 rfl ?_
  refine aw_getR (pc := 82) 0 kcX0 dX0_readBook_82 lfX0_22 nn_27 ki_27 (by decide) rfl rf_27_0 ?_
  refine aw_iconst (pc := 85) 1 dX0_readBook_85 (by decide) ?_
  refine aw_callVN (pc := 86) (As := [.int 1]) (rest := []) kcX4 nn_1 ki_1 rfl (ev_X4_refuse l 1 h) mfX4_refuse dX0_readBook_86 lmnX0_48 ⟨Nat.le_refl _, Nat.le_refl _⟩ (by decide) rfl rfl (Nat.le_of_ble_eq_true rfl) (nxI (fun r86_ τ86 h => ?_))
  exact aw_zret (pc := 89) rfl (isZ_n h.1) dX0_readBook_89 ⟨_, rfl, h.2⟩
def b_X0_readBook_112   (K : Int32 → Sg → Prop)  (σ : Sg) : Prop :=
  wp_X4_refuse 4 σ <| fun r117_ τ117 => (br (r117_ = 0) (K 0 τ117) (K 1 τ117))
set_option maxRecDepth 20000 in
set_option maxHeartbeats 2000000 in
theorem bt_X0_readBook_112 (l : Launch)  {K : Int32 → Sg → Prop}     (σ : Sg) (h : b_X0_readBook_112   K  σ) : AV l RX0 cX0_readBook 3 (some .boolean) 10 (qI K) 112 [(0, .ref 27)] [] σ := by
  refine aw_aload_n (pc := 112) 0 dX0_readBook_112 rfl ?_
  refine aw_getR (pc := 113) 0 kcX0 dX0_readBook_113 lfX0_22 nn_27 ki_27 (by decide) rfl rf_27_0 ?_
  refine aw_iconst (pc := 116) 4 dX0_readBook_116 (by decide) ?_
  refine aw_callVN (pc := 117) (As := [.int 4]) (rest := []) kcX4 nn_1 ki_1 rfl (ev_X4_refuse l 4 h) mfX4_refuse dX0_readBook_117 lmnX0_48 ⟨Nat.le_refl _, Nat.le_refl _⟩ (by decide) rfl rfl (Nat.le_of_ble_eq_true rfl) (nxI (fun r117_ τ117 h => ?_))
  refine aw_if_eq (pc := 120) 127 dX0_readBook_120 (by decide) (fun q => ?_) (fun q => ?_)
  · have h := h.1 q
    refine aw_iconst (pc := 127) 0 dX0_readBook_127 (by decide) ?_
    exact aw_zret (pc := 128) rfl rfl dX0_readBook_128 ⟨_, rfl, h⟩
  · have h := h.2 q
    refine aw_iconst (pc := 123) 1 dX0_readBook_123 (by decide) ?_
    refine aw_goto (pc := 124) 128 dX0_readBook_124 (by decide) ?_
    exact aw_zret (pc := 128) rfl rfl dX0_readBook_128 ⟨_, rfl, h⟩
def b_X0_readBook_67   (K : Int32 → Sg → Prop) (y1 : Int32) (σ : Sg) : Prop :=
  br ((σ 1 2) = 0) (br (y1 = 0) (br ((σ 28 0) < 2) (b_X0_readBook_112   K  σ) (br (1 ≤ (σ 28 1)) (K 1 σ) (b_X0_readBook_112   K  σ))) (b_X0_readBook_81   K  σ)) (b_X0_readBook_81   K  σ)
set_option maxRecDepth 20000 in
set_option maxHeartbeats 2000000 in
theorem bt_X0_readBook_67 (l : Launch)  {K : Int32 → Sg → Prop}   (y1 : Int32)  (σ : Sg) (h : b_X0_readBook_67   K y1 σ) : AV l RX0 cX0_readBook 3 (some .boolean) 10 (qI K) 67 [(0, .ref 27), (1, .int y1)] [] σ := by
  refine aw_aload_n (pc := 67) 0 dX0_readBook_67 rfl ?_
  refine aw_getR (pc := 68) 0 kcX0 dX0_readBook_68 lfX0_22 nn_27 ki_27 (by decide) rfl rf_27_0 ?_
  refine aw_getIN (pc := 71) 2 kcX4 dX0_readBook_71 lfnX0_45 nn_1 ki_1 (by decide) rfl ?_
  refine aw_if_ne (pc := 74) 81 dX0_readBook_74 (by decide) (fun q => ?_) (fun q => ?_)
  · have h := h.2 q
    refine aw_sub (L' := [(0, .ref 27)]) [0] rfl ?_
    exact bt_X0_readBook_81 l      _ h
  · have h := h.1 q
    refine aw_iload_n (pc := 77) 1 dX0_readBook_77 rfl ?_
    refine aw_if_eq (pc := 78) 90 dX0_readBook_78 (by decide) (fun q => ?_) (fun q => ?_)
    · have h := h.1 q
      refine aw_aload_n (pc := 90) 0 dX0_readBook_90 rfl ?_
      refine aw_getR (pc := 91) 1 kcX0 dX0_readBook_91 lfX0_12 nn_27 ki_27 (by decide) rfl rf_27_1 ?_
      refine aw_getIN (pc := 94) 0 kcX5 dX0_readBook_94 lfnX0_52 nn_28 ki_28 (by decide) rfl ?_
      refine aw_iconst (pc := 97) 2 dX0_readBook_97 (by decide) ?_
      refine aw_icmp_lt (pc := 98) 112 dX0_readBook_98 (by decide) (fun q => ?_) (fun q => ?_)
      · have h := h.1 q
        refine aw_sub (L' := [(0, .ref 27)]) [0] rfl ?_
        exact bt_X0_readBook_112 l      _ h
      · have h := h.2 q
        refine aw_aload_n (pc := 101) 0 dX0_readBook_101 rfl ?_
        refine aw_getR (pc := 102) 1 kcX0 dX0_readBook_102 lfX0_12 nn_27 ki_27 (by decide) rfl rf_27_1 ?_
        refine aw_getIN (pc := 105) 1 kcX5 dX0_readBook_105 lfnX0_55 nn_28 ki_28 (by decide) rfl ?_
        refine aw_iconst (pc := 108) 1 dX0_readBook_108 (by decide) ?_
        refine aw_icmp_ge (pc := 109) 123 dX0_readBook_109 (by decide) (fun q => ?_) (fun q => ?_)
        · have h := h.1 q
          refine aw_iconst (pc := 123) 1 dX0_readBook_123 (by decide) ?_
          refine aw_goto (pc := 124) 128 dX0_readBook_124 (by decide) ?_
          exact aw_zret (pc := 128) rfl rfl dX0_readBook_128 ⟨_, rfl, h⟩
        · have h := h.2 q
          refine aw_sub (L' := [(0, .ref 27)]) [0] rfl ?_
          exact bt_X0_readBook_112 l      _ h
    · have h := h.2 q
      refine aw_sub (L' := [(0, .ref 27)]) [0] rfl ?_
      exact bt_X0_readBook_81 l      _ h
def b_X0_readBook_23   (K : Int32 → Sg → Prop) : Nat → Int32 → Int32 → Sg → Prop
  | 0, _, _, _ => False
  | n + 1, y1, y2, σ =>
  br (600 ≤ y2) (b_X0_readBook_67   K y1 σ) (br (y1 = 0) (b_X0_readBook_67   K y1 σ) (wp_X0_readLine  σ <| fun r35_ τ35 => (br (r35_ = 0) (K 0 τ35) (∀ τ50 : Sg, τ50 = up τ35 27 3 ((τ35 27 3) + 1) → (wp_X4_takeSeparator  τ50 <| fun r57_ τ57 => (∀ v61 : Int32, v61 = y2 + 1 → (b_X0_readBook_23   K n r57_ v61 τ57)))))))
set_option maxRecDepth 20000 in
set_option maxHeartbeats 2000000 in
theorem bt_X0_readBook_23 (l : Launch)  {K : Int32 → Sg → Prop}   : ∀ (n : Nat) (y1 : Int32) (y2 : Int32)  (σ : Sg), b_X0_readBook_23   K n y1 y2 σ → AV l RX0 cX0_readBook 3 (some .boolean) 10 (qI K) 23 [(0, .ref 27), (1, .int y1), (2, .int y2)] [] σ := by
  intro n
  induction n with
  | zero => intro y1 y2 σ h; exact h.elim
  | succ n ih =>
    intro y1 y2 σ h
    refine aw_iload_n (pc := 23) 2 dX0_readBook_23 rfl ?_
    refine aw_sipush (pc := 24) 600 dX0_readBook_24 (by decide) ?_
    refine aw_icmp_ge (pc := 27) 67 dX0_readBook_27 (by decide) (fun q => ?_) (fun q => ?_)
    · have h := h.1 q
      refine aw_sub (L' := [(0, .ref 27), (1, .int y1)]) [0, 1] rfl ?_
      exact bt_X0_readBook_67 l    y1  _ h
    · have h := h.2 q
      refine aw_iload_n (pc := 30) 1 dX0_readBook_30 rfl ?_
      refine aw_if_eq (pc := 31) 67 dX0_readBook_31 (by decide) (fun q => ?_) (fun q => ?_)
      · have h := h.1 q
        refine aw_sub (L' := [(0, .ref 27), (1, .int y1)]) [0, 1] rfl ?_
        exact bt_X0_readBook_67 l    y1  _ h
      · have h := h.2 q
        refine aw_aload_n (pc := 34) 0 dX0_readBook_34 rfl ?_
        refine aw_callV (pc := 35) (As := []) (rest := []) kcX0 nn_27 ki_27 rfl (ev_X0_readLine l  h) mfX0_readLine dX0_readBook_35 lmX0_38 ⟨Nat.le_refl _, Nat.le_refl _⟩ (by decide) rfl rfl (Nat.le_of_ble_eq_true rfl) (nxI (fun r35_ τ35 h => ?_))
        refine aw_if_ne (pc := 38) 43 dX0_readBook_38 (by decide) (fun q => ?_) (fun q => ?_)
        · have h := h.2 q
          refine aw_aload_n (pc := 43) 0 dX0_readBook_43 rfl ?_
          refine aw_dup (pc := 44) dX0_readBook_44 rfl ?_
          refine aw_getI (pc := 45) 3 kcX0 dX0_readBook_45 lfX0_29 nn_27 ki_27 (by decide) rfl ?_
          refine aw_iconst (pc := 48) 1 dX0_readBook_48 (by decide) ?_
          refine aw_iadd (pc := 49) dX0_readBook_49 ?_
          refine aw_put (pc := 50) 3 kcX0 dX0_readBook_50 lfX0_29 nn_27 ki_27 (by decide) rfl rfl rfl rfl ?_
          refine aw_tops (fun τ50 eτ50 => ?_)
          have h := h τ50 eτ50
          refine aw_aload_n (pc := 53) 0 dX0_readBook_53 rfl ?_
          refine aw_getR (pc := 54) 0 kcX0 dX0_readBook_54 lfX0_22 nn_27 ki_27 (by decide) rfl rf_27_0 ?_
          refine aw_callVN (pc := 57) (As := []) (rest := []) kcX4 nn_1 ki_1 rfl (ev_X4_takeSeparator l  h) mfX4_takeSeparator dX0_readBook_57 lmnX0_42 ⟨Nat.le_refl _, Nat.le_refl _⟩ (by decide) rfl rfl (Nat.le_of_ble_eq_true rfl) (nxI (fun r57_ τ57 h => ?_))
          refine aw_istore_n (pc := 60) (i := 1) [(1, .int r57_), (0, .ref 27), (2, .int y2)] dX0_readBook_60 rfl (by decide) rfl ?_
          obtain ⟨v61, ev61⟩ : ∃ v : Int32, v = y2 + 1 := ⟨_, rfl⟩
          have h := h v61 ev61
          refine aw_iinc (pc := 61) 2 v61 [(2, .int v61), (1, .int r57_), (0, .ref 27)] dX0_readBook_61 rfl (by rw [ev61]; rfl) (by decide) rfl ?_
          refine aw_goto (pc := 64) 23 dX0_readBook_64 (by decide) ?_
          refine aw_sub (L' := [(0, .ref 27), (1, .int r57_), (2, .int v61)]) [2, 1, 0] rfl ?_
          exact ih r57_ v61  _ h
        · have h := h.1 q
          refine aw_iconst (pc := 41) 0 dX0_readBook_41 (by decide) ?_
          exact aw_zret (pc := 42) rfl rfl dX0_readBook_42 ⟨_, rfl, h⟩
def wp_X0_readBook  (σ : Sg) (K : Int32 → Sg → Prop) : Prop :=
  wp_X5_clear 28 σ <| fun τ4 => (∀ τ9 : Sg, τ9 = up τ4 27 3 0 → (wp_X4_rewind  τ9 <| fun τ16 => (∃ nf, b_X0_readBook_23   K nf 1 0 τ16)))
set_option maxRecDepth 20000 in
set_option maxHeartbeats 2000000 in
theorem ev_X0_readBook (l : Launch)  {σ : Sg} {K : Int32 → Sg → Prop} (h : wp_X0_readBook  σ K) : Ev l yX0_readBook cX0_readBook 3 (some .boolean) 10 [.ref 27] σ (qI K) := by
  refine ev_ov (by decide) (Nat.le_of_ble_eq_true rfl) ?_
  show AV l RX0 cX0_readBook 3 (some .boolean) 10 (qI K) 0 [(0, .ref 27)] [] σ
  refine aw_aload_n (pc := 0) 0 dX0_readBook_0 rfl ?_
  refine aw_getR (pc := 1) 1 kcX0 dX0_readBook_1 lfX0_12 nn_27 ki_27 (by decide) rfl rf_27_1 ?_
  refine aw_callVN (pc := 4) (As := []) (rest := []) kcX5 nn_28 ki_28 rfl (ev_X5_clear l 28 rul_28 h) mfX5_clear dX0_readBook_4 lmnX0_26 ⟨Nat.le_refl _, Nat.le_refl _⟩ (by decide) rfl rfl (Nat.le_of_ble_eq_true rfl) (nxV (fun τ4 h => ?_))
  refine aw_aload_n (pc := 7) 0 dX0_readBook_7 rfl ?_
  refine aw_iconst (pc := 8) 0 dX0_readBook_8 (by decide) ?_
  refine aw_put (pc := 9) 3 kcX0 dX0_readBook_9 lfX0_29 nn_27 ki_27 (by decide) rfl rfl rfl rfl ?_
  refine aw_tops (fun τ9 eτ9 => ?_)
  have h := h τ9 eτ9
  refine aw_aload_n (pc := 12) 0 dX0_readBook_12 rfl ?_
  refine aw_getR (pc := 13) 0 kcX0 dX0_readBook_13 lfX0_22 nn_27 ki_27 (by decide) rfl rf_27_0 ?_
  refine aw_callVN (pc := 16) (As := []) (rest := []) kcX4 nn_1 ki_1 rfl (ev_X4_rewind l  h) mfX4_rewind dX0_readBook_16 lmnX0_33 ⟨Nat.le_refl _, Nat.le_refl _⟩ (by decide) rfl rfl (Nat.le_of_ble_eq_true rfl) (nxV (fun τ16 h => ?_))
  refine aw_iconst (pc := 19) 1 dX0_readBook_19 (by decide) ?_
  refine aw_istore_n (pc := 20) (i := 1) [(1, .int 1), (0, .ref 27)] dX0_readBook_20 rfl (by decide) rfl ?_
  refine aw_iconst (pc := 21) 0 dX0_readBook_21 (by decide) ?_
  refine aw_istore_n (pc := 22) (i := 2) [(2, .int 0), (1, .int 1), (0, .ref 27)] dX0_readBook_22 rfl (by decide) rfl ?_
  refine aw_sub (L' := [(0, .ref 27), (1, .int 1), (2, .int 0)]) [2, 1, 0] rfl ?_
  obtain ⟨nf, h⟩ := h
  exact bt_X0_readBook_23 l    nf 1 0  _ h
