def wp_J0_coder_7d493 (i0 : Nat) (σ : Sg) (K : Int32 → Sg → Prop) : Prop :=
  br ((1 : Int32) = 0) (K 1 σ) (K 0 σ)
set_option maxRecDepth 20000 in
set_option maxHeartbeats 2000000 in
theorem ev_J0_coder_7d493 (l : Launch) (i0 : Nat) (hi0 : i0 < nSt) (gi0 : i0 ≠ 99) {σ : Sg} {K : Int32 → Sg → Prop} (h : wp_J0_coder_7d493 i0 σ K) : Ev l yJ0_coder_7d493 cJ0_coder_7d493 1 (some .byte) 0 [.retAddr i0] σ (qI K) := by
  refine ev_ov (by decide) (Nat.le_of_ble_eq_true rfl) ?_
  show AV l RJ0 cJ0_coder_7d493 1 (some .byte) 0 (qI K) 0 [(0, .retAddr i0)] [] σ
  refine aw_getsZ (pc := 0) dJ0_coder_7d493_0 lfJ0_38 ?_
  refine aw_if_eq (pc := 3) 13 dJ0_coder_7d493_3 (by decide) (fun q => ?_) (fun q => ?_)
  · have h := h.1 q
    refine aw_iconst (pc := 13) 1 dJ0_coder_7d493_13 (by decide) ?_
    exact aw_zret (pc := 14) rfl rfl dJ0_coder_7d493_14 ⟨_, rfl, h⟩
  · have h := h.2 q
    refine aw_aload_nS (pc := 6) 0 gi0 dJ0_coder_7d493_6 rfl ?_
    refine aw_getSc (pc := 7) hi0 gi0 dJ0_coder_7d493_7 lfJ0_15 ?_
    refine aw_goto (pc := 10) 14 dJ0_coder_7d493_10 (by decide) ?_
    exact aw_zret (pc := 14) rfl rfl dJ0_coder_7d493_14 ⟨_, rfl, h⟩
def wp_J0_length_8abf5 (i0 : Nat) (σ : Sg) (K : Int32 → Sg → Prop) : Prop :=
  wp_J0_coder_7d493 i0 σ <| fun r6_ τ6 => (K ((Int32.ofNat (lenSt.getD i0 0)) >>> (r6_ &&& 31)) τ6)
set_option maxRecDepth 20000 in
set_option maxHeartbeats 2000000 in
theorem ev_J0_length_8abf5 (l : Launch) (i0 : Nat) (hi0 : i0 < nSt) (gi0 : i0 ≠ 99) {σ : Sg} {K : Int32 → Sg → Prop} (h : wp_J0_length_8abf5 i0 σ K) : Ev l yJ0_length_8abf5 cJ0_length_8abf5 1 (some .int) 1 [.retAddr i0] σ (qI K) := by
  refine ev_ov (by decide) (Nat.le_of_ble_eq_true rfl) ?_
  show AV l RJ0 cJ0_length_8abf5 1 (some .int) 1 (qI K) 0 [(0, .retAddr i0)] [] σ
  refine aw_aload_nS (pc := 0) 0 gi0 dJ0_length_8abf5_0 rfl ?_
  refine aw_getSv (pc := 1) hi0 gi0 dJ0_length_8abf5_1 lfJ0_9 ?_
  refine aw_slen (pc := 4) hi0 dJ0_length_8abf5_4 rfl ?_
  refine aw_aload_nS (pc := 5) 0 gi0 dJ0_length_8abf5_5 rfl ?_
  refine aw_callT (pc := 6) (As := []) (rest := [.int (Int32.ofNat (lenSt.getD i0 0))]) hi0 gi0 rfl (ev_J0_coder_7d493 l i0 hi0 gi0 h) mfJ0_coder_7d493 dJ0_length_8abf5_6 lmJ0_335 ⟨Nat.le_refl _, Nat.le_refl _⟩ (by decide) rfl rfl (Nat.le_of_ble_eq_true rfl) (nxI (fun r6_ τ6 h => ?_))
  refine aw_ishr (pc := 9) dJ0_length_8abf5_9 ?_
  exact aw_iret (pc := 10) rfl dJ0_length_8abf5_10 ⟨_, rfl, h⟩
def wp_J0_isLatin1_aae02 (i0 : Nat) (σ : Sg) (K : Int32 → Sg → Prop) : Prop :=
  br ((1 : Int32) = 0) (K 0 σ) (br ((0 : Int32) = 0) (K 1 σ) (K 0 σ))
set_option maxRecDepth 20000 in
set_option maxHeartbeats 2000000 in
theorem ev_J0_isLatin1_aae02 (l : Launch) (i0 : Nat) (hi0 : i0 < nSt) (gi0 : i0 ≠ 99) {σ : Sg} {K : Int32 → Sg → Prop} (h : wp_J0_isLatin1_aae02 i0 σ K) : Ev l yJ0_isLatin1_aae02 cJ0_isLatin1_aae02 1 (some .boolean) 0 [.retAddr i0] σ (qI K) := by
  refine ev_ov (by decide) (Nat.le_of_ble_eq_true rfl) ?_
  show AV l RJ0 cJ0_isLatin1_aae02 1 (some .boolean) 0 (qI K) 0 [(0, .retAddr i0)] [] σ
  refine aw_getsZ (pc := 0) dJ0_isLatin1_aae02_0 lfJ0_38 ?_
  refine aw_if_eq (pc := 3) 17 dJ0_isLatin1_aae02_3 (by decide) (fun q => ?_) (fun q => ?_)
  · have h := h.1 q
    refine aw_iconst (pc := 17) 0 dJ0_isLatin1_aae02_17 (by decide) ?_
    exact aw_zret (pc := 18) rfl rfl dJ0_isLatin1_aae02_18 ⟨_, rfl, h⟩
  · have h := h.2 q
    refine aw_aload_nS (pc := 6) 0 gi0 dJ0_isLatin1_aae02_6 rfl ?_
    refine aw_getSc (pc := 7) hi0 gi0 dJ0_isLatin1_aae02_7 lfJ0_15 ?_
    refine aw_if_ne (pc := 10) 17 dJ0_isLatin1_aae02_10 (by decide) (fun q => ?_) (fun q => ?_)
    · have h := h.2 q
      refine aw_iconst (pc := 17) 0 dJ0_isLatin1_aae02_17 (by decide) ?_
      exact aw_zret (pc := 18) rfl rfl dJ0_isLatin1_aae02_18 ⟨_, rfl, h⟩
    · have h := h.1 q
      refine aw_iconst (pc := 13) 1 dJ0_isLatin1_aae02_13 (by decide) ?_
      refine aw_goto (pc := 14) 18 dJ0_isLatin1_aae02_14 (by decide) ?_
      exact aw_zret (pc := 18) rfl rfl dJ0_isLatin1_aae02_18 ⟨_, rfl, h⟩
def b_J3_checkIndex_8e157_9 (x0 : Int32) (x1 : Int32)  (K : Int32 → Sg → Prop)  (σ : Sg) : Prop :=
  False
set_option maxRecDepth 20000 in
set_option maxHeartbeats 2000000 in
theorem bt_J3_checkIndex_8e157_9 (l : Launch) (x0 : Int32) (x1 : Int32) {K : Int32 → Sg → Prop}     (σ : Sg) (h : b_J3_checkIndex_8e157_9 x0 x1  K  σ) : AV l RJ3 cJ3_checkIndex_8e157 3 (some .int) 0 (qI K) 9 [(0, .int x0), (1, .int x1), (2, .retAddr 99)] [] σ := by
  exact h.elim
def wp_J3_checkIndex_8e157 (x0 : Int32) (x1 : Int32) (σ : Sg) (K : Int32 → Sg → Prop) : Prop :=
  br (x0 < 0) (b_J3_checkIndex_8e157_9 x0 x1  K  σ) (br (x0 < x1) (K x0 σ) (b_J3_checkIndex_8e157_9 x0 x1  K  σ))
set_option maxRecDepth 20000 in
set_option maxHeartbeats 2000000 in
theorem ev_J3_checkIndex_8e157 (l : Launch) (x0 : Int32) (x1 : Int32) {σ : Sg} {K : Int32 → Sg → Prop} (h : wp_J3_checkIndex_8e157 x0 x1 σ K) : Ev l yJ3_checkIndex_8e157 cJ3_checkIndex_8e157 3 (some .int) 0 [.int x0, .int x1, .retAddr 99] σ (qI K) := by
  refine ev_ov (by decide) (Nat.le_of_ble_eq_true rfl) ?_
  show AV l RJ3 cJ3_checkIndex_8e157 3 (some .int) 0 (qI K) 0 [(0, .int x0), (1, .int x1), (2, .retAddr 99)] [] σ
  refine aw_iload_n (pc := 0) 0 dJ3_checkIndex_8e157_0 rfl ?_
  refine aw_if_lt (pc := 1) 9 dJ3_checkIndex_8e157_1 (by decide) (fun q => ?_) (fun q => ?_)
  · have h := h.1 q
    exact bt_J3_checkIndex_8e157_9 l x0 x1     _ h
  · have h := h.2 q
    refine aw_iload_n (pc := 4) 0 dJ3_checkIndex_8e157_4 rfl ?_
    refine aw_iload_n (pc := 5) 1 dJ3_checkIndex_8e157_5 rfl ?_
    refine aw_icmp_lt (pc := 6) 16 dJ3_checkIndex_8e157_6 (by decide) (fun q => ?_) (fun q => ?_)
    · have h := h.1 q
      refine aw_iload_n (pc := 16) 0 dJ3_checkIndex_8e157_16 rfl ?_
      exact aw_iret (pc := 17) rfl dJ3_checkIndex_8e157_17 ⟨_, rfl, h⟩
    · have h := h.2 q
      exact bt_J3_checkIndex_8e157_9 l x0 x1     _ h
def wp_J0_checkIndex_df160 (x0 : Int32) (x1 : Int32) (σ : Sg) (K : Sg → Prop) : Prop :=
  wp_J3_checkIndex_8e157 x0 x1 σ <| fun r5_ τ5 => (K τ5)
set_option maxRecDepth 20000 in
set_option maxHeartbeats 2000000 in
theorem ev_J0_checkIndex_df160 (l : Launch) (x0 : Int32) (x1 : Int32) {σ : Sg} {K : Sg → Prop} (h : wp_J0_checkIndex_df160 x0 x1 σ K) : Ev l yJ0_checkIndex_df160 cJ0_checkIndex_df160 2 none 1 [.int x0, .int x1] σ (qV K) := by
  refine ev_ov (by decide) (Nat.le_of_ble_eq_true rfl) ?_
  show AV l RJ0 cJ0_checkIndex_df160 2 none 1 (qV K) 0 [(0, .int x0), (1, .int x1)] [] σ
  refine aw_iload_n (pc := 0) 0 dJ0_checkIndex_df160_0 rfl ?_
  refine aw_iload_n (pc := 1) 1 dJ0_checkIndex_df160_1 rfl ?_
  refine aw_getsF (pc := 2) dJ0_checkIndex_df160_2 lfJ0_1053 ?_
  refine aw_callS (pc := 5) (As := [.int x0, .int x1, .retAddr 99]) (rest := []) (ev_J3_checkIndex_8e157 l x0 x1 h) mfJ3_checkIndex_8e157 dJ0_checkIndex_df160_5 lmJ0_1059 ⟨Nat.le_refl _, Nat.le_refl _⟩ (by decide) rfl rfl (Nat.le_of_ble_eq_true rfl) (nxI (fun r5_ τ5 h => ?_))
  refine aw_pop (pc := 8) dJ0_checkIndex_df160_8 rfl ?_
  exact aw_vret (pc := 9) rfl dJ0_checkIndex_df160_9 ⟨rfl, h⟩
def wp_J1_charAt_3b067 (i0 : Nat) (x1 : Int32) (σ : Sg) (K : Int32 → Sg → Prop) : Prop :=
  wp_J0_checkIndex_df160 x1 (Int32.ofNat (lenSt.getD i0 0)) σ <| fun τ3 => (vp_in x1 (lenSt.getD i0 0) ∧ (narrow .char (.int (((Int32.toUInt32 (((bytSt.getD i0 []).getD x1.toNatClampNeg 0) &&& 255)) % 65536).toInt32)) = .int (((Int32.toUInt32 (((bytSt.getD i0 []).getD x1.toNatClampNeg 0) &&& 255)) % 65536).toInt32) ∧ K (((Int32.toUInt32 (((bytSt.getD i0 []).getD x1.toNatClampNeg 0) &&& 255)) % 65536).toInt32) τ3))
set_option maxRecDepth 20000 in
set_option maxHeartbeats 2000000 in
theorem ev_J1_charAt_3b067 (l : Launch) (i0 : Nat) (hi0 : i0 < nSt) (gi0 : i0 ≠ 99) (x1 : Int32) {σ : Sg} {K : Int32 → Sg → Prop} (h : wp_J1_charAt_3b067 i0 x1 σ K) : Ev l yJ1_charAt_3b067 cJ1_charAt_3b067 2 (some .char) 2 [.retAddr (100 + i0), .int x1] σ (qI K) := by
  refine ev_ov (by decide) (Nat.le_of_ble_eq_true rfl) ?_
  show AV l RJ1 cJ1_charAt_3b067 2 (some .char) 2 (qI K) 0 [(0, .retAddr (100 + i0)), (1, .int x1)] [] σ
  refine aw_iload_n (pc := 0) 1 dJ1_charAt_3b067_0 rfl ?_
  refine aw_aload_nS (pc := 1) 0 (show 100 + i0 ≠ 99 by omega) dJ1_charAt_3b067_1 rfl ?_
  refine aw_slen (pc := 2) hi0 dJ1_charAt_3b067_2 rfl ?_
  refine aw_callS (pc := 3) (As := [.int x1, .int (Int32.ofNat (lenSt.getD i0 0))]) (rest := []) (ev_J0_checkIndex_df160 l x1 (Int32.ofNat (lenSt.getD i0 0)) h) mfJ0_checkIndex_df160 dJ1_charAt_3b067_3 lmJ1_9 ⟨Nat.le_refl _, Nat.le_refl _⟩ (by decide) rfl rfl (Nat.le_of_ble_eq_true rfl) (nxV (fun τ3 h => ?_))
  refine aw_aload_nS (pc := 6) 0 (show 100 + i0 ≠ 99 by omega) dJ1_charAt_3b067_6 rfl ?_
  refine aw_iload_n (pc := 7) 1 dJ1_charAt_3b067_7 rfl ?_
  refine aw_sbald (pc := 8) hi0 dJ1_charAt_3b067_8 h.1 ?_
  have h := h.2
  refine aw_sipush (pc := 9) 255 dJ1_charAt_3b067_9 (by decide) ?_
  refine aw_iand (pc := 12) dJ1_charAt_3b067_12 ?_
  refine aw_i2c (pc := 13) dJ1_charAt_3b067_13 ?_
  exact aw_zret (pc := 14) rfl h.1 dJ1_charAt_3b067_14 ⟨_, rfl, h.2⟩
def wp_J0_charAt_5068e (i0 : Nat) (x1 : Int32) (σ : Sg) (K : Int32 → Sg → Prop) : Prop :=
  wp_J0_isLatin1_aae02 i0 σ <| fun r1_ τ1 => (br (r1_ = 0) (False) (wp_J1_charAt_3b067 i0 x1 τ1 <| fun r12_ τ12 => (narrow .char (.int r12_) = .int r12_ ∧ K r12_ τ12)))
set_option maxRecDepth 20000 in
set_option maxHeartbeats 2000000 in
theorem ev_J0_charAt_5068e (l : Launch) (i0 : Nat) (hi0 : i0 < nSt) (gi0 : i0 ≠ 99) (x1 : Int32) {σ : Sg} {K : Int32 → Sg → Prop} (h : wp_J0_charAt_5068e i0 x1 σ K) : Ev l yJ0_charAt_5068e cJ0_charAt_5068e 2 (some .char) 4 [.retAddr i0, .int x1] σ (qI K) := by
  refine ev_ov (by decide) (Nat.le_of_ble_eq_true rfl) ?_
  show AV l RJ0 cJ0_charAt_5068e 2 (some .char) 4 (qI K) 0 [(0, .retAddr i0), (1, .int x1)] [] σ
  refine aw_aload_nS (pc := 0) 0 gi0 dJ0_charAt_5068e_0 rfl ?_
  refine aw_callT (pc := 1) (As := []) (rest := []) hi0 gi0 rfl (ev_J0_isLatin1_aae02 l i0 hi0 gi0 h) mfJ0_isLatin1_aae02 dJ0_charAt_5068e_1 lmJ0_492 ⟨Nat.le_refl _, Nat.le_refl _⟩ (by decide) rfl rfl (Nat.le_of_ble_eq_true rfl) (nxI (fun r1_ τ1 h => ?_))
  refine aw_if_eq (pc := 4) 16 dJ0_charAt_5068e_4 (by decide) (fun q => ?_) (fun q => ?_)
  · have h := h.1 q
    refine aw_aload_nS (pc := 16) 0 gi0 dJ0_charAt_5068e_16 rfl ?_
    refine aw_getSv (pc := 17) hi0 gi0 dJ0_charAt_5068e_17 lfJ0_9 ?_
    refine aw_iload_n (pc := 20) 1 dJ0_charAt_5068e_20 rfl ?_
    exact h.elim
  · have h := h.2 q
    refine aw_aload_nS (pc := 7) 0 gi0 dJ0_charAt_5068e_7 rfl ?_
    refine aw_getSv (pc := 8) hi0 gi0 dJ0_charAt_5068e_8 lfJ0_9 ?_
    refine aw_iload_n (pc := 11) 1 dJ0_charAt_5068e_11 rfl ?_
    refine aw_callS (pc := 12) (As := [.retAddr (100 + i0), .int x1]) (rest := []) (ev_J1_charAt_3b067 l i0 hi0 gi0 x1 h) mfJ1_charAt_3b067 dJ0_charAt_5068e_12 lmJ0_495 ⟨Nat.le_refl _, Nat.le_refl _⟩ (by decide) rfl rfl (Nat.le_of_ble_eq_true rfl) (nxI (fun r12_ τ12 h => ?_))
    exact aw_zret (pc := 15) rfl h.1 dJ0_charAt_5068e_15 ⟨_, rfl, h.2⟩
def wp_J6_bitCount_0f7a4 (x0 : Int32) (σ : Sg) (K : Int32 → Sg → Prop) : Prop :=
  ∀ v9 : Int32, v9 = x0 - (((x0.toUInt32 >>> (Int32.toUInt32 1 &&& Int32.toUInt32 31)).toInt32) &&& 1431655765) → (∀ v23 : Int32, v23 = (v9 &&& 858993459) + (((v9.toUInt32 >>> (Int32.toUInt32 2 &&& Int32.toUInt32 31)).toInt32) &&& 858993459) → (∀ v33 : Int32, v33 = (v23 + ((v23.toUInt32 >>> (Int32.toUInt32 4 &&& Int32.toUInt32 31)).toInt32)) &&& 252645135 → (∀ v40 : Int32, v40 = v33 + ((v33.toUInt32 >>> (Int32.toUInt32 8 &&& Int32.toUInt32 31)).toInt32) → (∀ v47 : Int32, v47 = v40 + ((v40.toUInt32 >>> (Int32.toUInt32 16 &&& Int32.toUInt32 31)).toInt32) → (K (v47 &&& 63) σ)))))
set_option maxRecDepth 20000 in
set_option maxHeartbeats 2000000 in
theorem ev_J6_bitCount_0f7a4 (l : Launch) (x0 : Int32) {σ : Sg} {K : Int32 → Sg → Prop} (h : wp_J6_bitCount_0f7a4 x0 σ K) : Ev l yJ6_bitCount_0f7a4 cJ6_bitCount_0f7a4 1 (some .int) 0 [.int x0] σ (qI K) := by
  refine ev_ov (by decide) (Nat.le_of_ble_eq_true rfl) ?_
  show AV l RJ6 cJ6_bitCount_0f7a4 1 (some .int) 0 (qI K) 0 [(0, .int x0)] [] σ
  refine aw_iload_n (pc := 0) 0 dJ6_bitCount_0f7a4_0 rfl ?_
  refine aw_iload_n (pc := 1) 0 dJ6_bitCount_0f7a4_1 rfl ?_
  refine aw_iconst (pc := 2) 1 dJ6_bitCount_0f7a4_2 (by decide) ?_
  refine aw_iushr (pc := 3) dJ6_bitCount_0f7a4_3 ?_
  refine aw_ldcw (pc := 4) 1431655765 dJ6_bitCount_0f7a4_4 lcJ6_265 ?_
  refine aw_iand (pc := 7) dJ6_bitCount_0f7a4_7 ?_
  refine aw_isub (pc := 8) dJ6_bitCount_0f7a4_8 ?_
  refine aw_topi (fun v9 ev9 => ?_)
  have h := h v9 ev9
  refine aw_istore_n (pc := 9) (i := 0) [(0, .int v9)] dJ6_bitCount_0f7a4_9 rfl (by decide) rfl ?_
  refine aw_iload_n (pc := 10) 0 dJ6_bitCount_0f7a4_10 rfl ?_
  refine aw_ldcw (pc := 11) 858993459 dJ6_bitCount_0f7a4_11 lcJ6_266 ?_
  refine aw_iand (pc := 14) dJ6_bitCount_0f7a4_14 ?_
  refine aw_iload_n (pc := 15) 0 dJ6_bitCount_0f7a4_15 rfl ?_
  refine aw_iconst (pc := 16) 2 dJ6_bitCount_0f7a4_16 (by decide) ?_
  refine aw_iushr (pc := 17) dJ6_bitCount_0f7a4_17 ?_
  refine aw_ldcw (pc := 18) 858993459 dJ6_bitCount_0f7a4_18 lcJ6_266 ?_
  refine aw_iand (pc := 21) dJ6_bitCount_0f7a4_21 ?_
  refine aw_iadd (pc := 22) dJ6_bitCount_0f7a4_22 ?_
  refine aw_topi (fun v23 ev23 => ?_)
  have h := h v23 ev23
  refine aw_istore_n (pc := 23) (i := 0) [(0, .int v23)] dJ6_bitCount_0f7a4_23 rfl (by decide) rfl ?_
  refine aw_iload_n (pc := 24) 0 dJ6_bitCount_0f7a4_24 rfl ?_
  refine aw_iload_n (pc := 25) 0 dJ6_bitCount_0f7a4_25 rfl ?_
  refine aw_iconst (pc := 26) 4 dJ6_bitCount_0f7a4_26 (by decide) ?_
  refine aw_iushr (pc := 27) dJ6_bitCount_0f7a4_27 ?_
  refine aw_iadd (pc := 28) dJ6_bitCount_0f7a4_28 ?_
  refine aw_ldcw (pc := 29) 252645135 dJ6_bitCount_0f7a4_29 lcJ6_267 ?_
  refine aw_iand (pc := 32) dJ6_bitCount_0f7a4_32 ?_
  refine aw_topi (fun v33 ev33 => ?_)
  have h := h v33 ev33
  refine aw_istore_n (pc := 33) (i := 0) [(0, .int v33)] dJ6_bitCount_0f7a4_33 rfl (by decide) rfl ?_
  refine aw_iload_n (pc := 34) 0 dJ6_bitCount_0f7a4_34 rfl ?_
  refine aw_iload_n (pc := 35) 0 dJ6_bitCount_0f7a4_35 rfl ?_
  refine aw_bipush (pc := 36) 8 dJ6_bitCount_0f7a4_36 (by decide) ?_
  refine aw_iushr (pc := 38) dJ6_bitCount_0f7a4_38 ?_
  refine aw_iadd (pc := 39) dJ6_bitCount_0f7a4_39 ?_
  refine aw_topi (fun v40 ev40 => ?_)
  have h := h v40 ev40
  refine aw_istore_n (pc := 40) (i := 0) [(0, .int v40)] dJ6_bitCount_0f7a4_40 rfl (by decide) rfl ?_
  refine aw_iload_n (pc := 41) 0 dJ6_bitCount_0f7a4_41 rfl ?_
  refine aw_iload_n (pc := 42) 0 dJ6_bitCount_0f7a4_42 rfl ?_
  refine aw_bipush (pc := 43) 16 dJ6_bitCount_0f7a4_43 (by decide) ?_
  refine aw_iushr (pc := 45) dJ6_bitCount_0f7a4_45 ?_
  refine aw_iadd (pc := 46) dJ6_bitCount_0f7a4_46 ?_
  refine aw_topi (fun v47 ev47 => ?_)
  have h := h v47 ev47
  refine aw_istore_n (pc := 47) (i := 0) [(0, .int v47)] dJ6_bitCount_0f7a4_47 rfl (by decide) rfl ?_
  refine aw_iload_n (pc := 48) 0 dJ6_bitCount_0f7a4_48 rfl ?_
  refine aw_bipush (pc := 49) 63 dJ6_bitCount_0f7a4_49 (by decide) ?_
  refine aw_iand (pc := 51) dJ6_bitCount_0f7a4_51 ?_
  exact aw_iret (pc := 52) rfl dJ6_bitCount_0f7a4_52 ⟨_, rfl, h⟩
