def b_X4_append_17 (x1 : Int32)  (K : Int32 → Sg → Prop) : Nat → Int32 → Sg → Prop
  | 0, _, _ => False
  | n + 1, y2, σ =>
  br (y2 < 0) (K 1 σ) (vp_in (σ 1 1) 600 ∧ (∀ τ36 : Sg, τ36 = up σ 2 (σ 1 1).toNatClampNeg (((x1.toUInt32 >>> (Int32.toUInt32 y2 &&& Int32.toUInt32 31)).toInt32) &&& 255) → (∀ τ44 : Sg, τ44 = up τ36 1 1 ((τ36 1 1) + 1) → (∀ v47 : Int32, v47 = y2 + (-8) → (b_X4_append_17 x1  K n v47 τ44)))))
set_option maxRecDepth 20000 in
set_option maxHeartbeats 2000000 in
theorem bt_X4_append_17 (l : Launch) (x1 : Int32) {K : Int32 → Sg → Prop}   : ∀ (n : Nat) (y2 : Int32)  (σ : Sg), b_X4_append_17 x1  K n y2 σ → AV l RX4 cX4_append 3 (some .boolean) 0 (qI K) 17 [(0, .ref 1), (1, .int x1), (2, .int y2)] [] σ := by
  intro n
  induction n with
  | zero => intro y2 σ h; exact h.elim
  | succ n ih =>
    intro y2 σ h
    refine aw_iload_n (pc := 17) 2 dX4_append_17 rfl ?_
    refine aw_if_lt (pc := 18) 53 dX4_append_18 (by decide) (fun q => ?_) (fun q => ?_)
    · have h := h.1 q
      refine aw_iconst (pc := 53) 1 dX4_append_53 (by decide) ?_
      exact aw_zret (pc := 54) rfl rfl dX4_append_54 ⟨_, rfl, h⟩
    · have h := h.2 q
      refine aw_aload_n (pc := 21) 0 dX4_append_21 rfl ?_
      refine aw_getR (pc := 22) 0 kcX4 dX4_append_22 lfX4_9 nn_1 ki_1 (by decide) rfl rf_1_0 ?_
      refine aw_aload_n (pc := 25) 0 dX4_append_25 rfl ?_
      refine aw_getI (pc := 26) 1 kcX4 dX4_append_26 lfX4_19 nn_1 ki_1 (by decide) rfl ?_
      refine aw_iload_n (pc := 29) 1 dX4_append_29 rfl ?_
      refine aw_iload_n (pc := 30) 2 dX4_append_30 rfl ?_
      refine aw_iushr (pc := 31) dX4_append_31 ?_
      refine aw_sipush (pc := 32) 255 dX4_append_32 (by decide) ?_
      refine aw_iand (pc := 35) dX4_append_35 ?_
      refine aw_iast (pc := 36) (j := (σ 1 1).toNatClampNeg) (v := (((x1.toUInt32 >>> (Int32.toUInt32 y2 &&& Int32.toUInt32 31)).toInt32) &&& 255)) dX4_append_36 nn_2 ki_2 ln_2 h.1 rfl rfl ?_
      have h := h.2
      refine aw_tops (fun τ36 eτ36 => ?_)
      have h := h τ36 eτ36
      refine aw_aload_n (pc := 37) 0 dX4_append_37 rfl ?_
      refine aw_dup (pc := 38) dX4_append_38 rfl ?_
      refine aw_getI (pc := 39) 1 kcX4 dX4_append_39 lfX4_19 nn_1 ki_1 (by decide) rfl ?_
      refine aw_iconst (pc := 42) 1 dX4_append_42 (by decide) ?_
      refine aw_iadd (pc := 43) dX4_append_43 ?_
      refine aw_put (pc := 44) 1 kcX4 dX4_append_44 lfX4_19 nn_1 ki_1 (by decide) rfl rfl rfl rfl ?_
      refine aw_tops (fun τ44 eτ44 => ?_)
      have h := h τ44 eτ44
      obtain ⟨v47, ev47⟩ : ∃ v : Int32, v = y2 + (-8) := ⟨_, rfl⟩
      have h := h v47 ev47
      refine aw_iinc (pc := 47) 2 v47 [(2, .int v47), (0, .ref 1), (1, .int x1)] dX4_append_47 rfl (by rw [ev47]; rfl) (by decide) rfl ?_
      refine aw_goto (pc := 50) 17 dX4_append_50 (by decide) ?_
      refine aw_sub (L' := [(0, .ref 1), (1, .int x1), (2, .int v47)]) [1, 2, 0] rfl ?_
      exact ih v47  _ h
def wp_X4_append (x1 : Int32) (σ : Sg) (K : Int32 → Sg → Prop) : Prop :=
  br (((σ 1 1) + 4) ≤ 600) (∃ nf, b_X4_append_17 x1  K nf 24 σ) (K 0 σ)
set_option maxRecDepth 20000 in
set_option maxHeartbeats 2000000 in
theorem ev_X4_append (l : Launch) (x1 : Int32) {σ : Sg} {K : Int32 → Sg → Prop} (h : wp_X4_append x1 σ K) : Ev l yX4_append cX4_append 3 (some .boolean) 0 [.ref 1, .int x1] σ (qI K) := by
  refine ev_ov (by decide) (Nat.le_of_ble_eq_true rfl) ?_
  show AV l RX4 cX4_append 3 (some .boolean) 0 (qI K) 0 [(0, .ref 1), (1, .int x1)] [] σ
  refine aw_aload_n (pc := 0) 0 dX4_append_0 rfl ?_
  refine aw_getI (pc := 1) 1 kcX4 dX4_append_1 lfX4_19 nn_1 ki_1 (by decide) rfl ?_
  refine aw_iconst (pc := 4) 4 dX4_append_4 (by decide) ?_
  refine aw_iadd (pc := 5) dX4_append_5 ?_
  refine aw_sipush (pc := 6) 600 dX4_append_6 (by decide) ?_
  refine aw_icmp_le (pc := 9) 14 dX4_append_9 (by decide) (fun q => ?_) (fun q => ?_)
  · have h := h.1 q
    refine aw_bipush (pc := 14) 24 dX4_append_14 (by decide) ?_
    refine aw_istore_n (pc := 16) (i := 2) [(2, .int 24), (0, .ref 1), (1, .int x1)] dX4_append_16 rfl (by decide) rfl ?_
    refine aw_sub (L' := [(0, .ref 1), (1, .int x1), (2, .int 24)]) [1, 2, 0] rfl ?_
    obtain ⟨nf, h⟩ := h
    exact bt_X4_append_17 l x1   nf 24  _ h
  · have h := h.2 q
    refine aw_iconst (pc := 12) 0 dX4_append_12 (by decide) ?_
    exact aw_zret (pc := 13) rfl rfl dX4_append_13 ⟨_, rfl, h⟩
def b_X4_kindOf_28 (x0 : Int32)  (K : Int32 → Sg → Prop)  (σ : Sg) : Prop :=
  br (x0 < 48) (K 4 σ) (br (57 < x0) (K 4 σ) (K 3 σ))
set_option maxRecDepth 20000 in
set_option maxHeartbeats 2000000 in
theorem bt_X4_kindOf_28 (l : Launch) (x0 : Int32) {K : Int32 → Sg → Prop}     (σ : Sg) (h : b_X4_kindOf_28 x0  K  σ) : AV l RX4 cX4_kindOf 1 (some .int) 0 (qI K) 28 [(0, .int x0)] [] σ := by
  refine aw_iload_n (pc := 28) 0 dX4_kindOf_28 rfl ?_
  refine aw_bipush (pc := 29) 48 dX4_kindOf_29 (by decide) ?_
  refine aw_icmp_lt (pc := 31) 44 dX4_kindOf_31 (by decide) (fun q => ?_) (fun q => ?_)
  · have h := h.1 q
    refine aw_iconst (pc := 44) 4 dX4_kindOf_44 (by decide) ?_
    exact aw_iret (pc := 45) rfl dX4_kindOf_45 ⟨_, rfl, h⟩
  · have h := h.2 q
    refine aw_iload_n (pc := 34) 0 dX4_kindOf_34 rfl ?_
    refine aw_bipush (pc := 35) 57 dX4_kindOf_35 (by decide) ?_
    refine aw_icmp_gt (pc := 37) 44 dX4_kindOf_37 (by decide) (fun q => ?_) (fun q => ?_)
    · have h := h.1 q
      refine aw_iconst (pc := 44) 4 dX4_kindOf_44 (by decide) ?_
      exact aw_iret (pc := 45) rfl dX4_kindOf_45 ⟨_, rfl, h⟩
    · have h := h.2 q
      refine aw_iconst (pc := 40) 3 dX4_kindOf_40 (by decide) ?_
      refine aw_goto (pc := 41) 45 dX4_kindOf_41 (by decide) ?_
      exact aw_iret (pc := 45) rfl dX4_kindOf_45 ⟨_, rfl, h⟩
def wp_X4_kindOf (x0 : Int32) (σ : Sg) (K : Int32 → Sg → Prop) : Prop :=
  br (x0 = 32) (K 1 σ) (br (x0 = 10) (K 1 σ) (br (x0 < 97) (b_X4_kindOf_28 x0  K  σ) (br (122 < x0) (b_X4_kindOf_28 x0  K  σ) (K 2 σ))))
set_option maxRecDepth 20000 in
set_option maxHeartbeats 2000000 in
theorem ev_X4_kindOf (l : Launch) (x0 : Int32) {σ : Sg} {K : Int32 → Sg → Prop} (h : wp_X4_kindOf x0 σ K) : Ev l yX4_kindOf cX4_kindOf 1 (some .int) 0 [.int x0] σ (qI K) := by
  refine ev_ov (by decide) (Nat.le_of_ble_eq_true rfl) ?_
  show AV l RX4 cX4_kindOf 1 (some .int) 0 (qI K) 0 [(0, .int x0)] [] σ
  refine aw_iload_n (pc := 0) 0 dX4_kindOf_0 rfl ?_
  refine aw_bipush (pc := 1) 32 dX4_kindOf_1 (by decide) ?_
  refine aw_icmp_eq (pc := 3) 12 dX4_kindOf_3 (by decide) (fun q => ?_) (fun q => ?_)
  · have h := h.1 q
    refine aw_iconst (pc := 12) 1 dX4_kindOf_12 (by decide) ?_
    exact aw_iret (pc := 13) rfl dX4_kindOf_13 ⟨_, rfl, h⟩
  · have h := h.2 q
    refine aw_iload_n (pc := 6) 0 dX4_kindOf_6 rfl ?_
    refine aw_bipush (pc := 7) 10 dX4_kindOf_7 (by decide) ?_
    refine aw_icmp_ne (pc := 9) 14 dX4_kindOf_9 (by decide) (fun q => ?_) (fun q => ?_)
    · have h := h.2 q
      refine aw_iload_n (pc := 14) 0 dX4_kindOf_14 rfl ?_
      refine aw_bipush (pc := 15) 97 dX4_kindOf_15 (by decide) ?_
      refine aw_icmp_lt (pc := 17) 28 dX4_kindOf_17 (by decide) (fun q => ?_) (fun q => ?_)
      · have h := h.1 q
        exact bt_X4_kindOf_28 l x0     _ h
      · have h := h.2 q
        refine aw_iload_n (pc := 20) 0 dX4_kindOf_20 rfl ?_
        refine aw_bipush (pc := 21) 122 dX4_kindOf_21 (by decide) ?_
        refine aw_icmp_gt (pc := 23) 28 dX4_kindOf_23 (by decide) (fun q => ?_) (fun q => ?_)
        · have h := h.1 q
          exact bt_X4_kindOf_28 l x0     _ h
        · have h := h.2 q
          refine aw_iconst (pc := 26) 2 dX4_kindOf_26 (by decide) ?_
          exact aw_iret (pc := 27) rfl dX4_kindOf_27 ⟨_, rfl, h⟩
    · have h := h.1 q
      refine aw_iconst (pc := 12) 1 dX4_kindOf_12 (by decide) ?_
      exact aw_iret (pc := 13) rfl dX4_kindOf_13 ⟨_, rfl, h⟩
def b_X4_step_111   (K : Sg → Prop) (y1 : Int32) (σ : Sg) : Prop :=
  ∀ τ113 : Sg, τ113 = up σ 1 4 y1 → (K τ113)
set_option maxRecDepth 20000 in
set_option maxHeartbeats 2000000 in
theorem bt_X4_step_111 (l : Launch)  {K : Sg → Prop}   (y1 : Int32)  (σ : Sg) (h : b_X4_step_111   K y1 σ) : AV l RX4 cX4_step 2 none 1 (qV K) 111 [(0, .ref 1), (1, .int y1)] [] σ := by
  refine aw_aload_n (pc := 111) 0 dX4_step_111 rfl ?_
  refine aw_iload_n (pc := 112) 1 dX4_step_112 rfl ?_
  refine aw_put (pc := 113) 4 kcX4 dX4_step_113 lfX4_25 nn_1 ki_1 (by decide) rfl rfl rfl rfl ?_
  refine aw_tops (fun τ113 eτ113 => ?_)
  have h := h τ113 eτ113
  exact aw_vret (pc := 116) rfl dX4_step_116 ⟨rfl, h⟩
def b_X4_step_73   (K : Sg → Prop) : Nat → Int32 → Sg → Prop
  | 0, _, _ => False
  | n + 1, y1, σ =>
  br ((σ 1 1) ≤ y1) (b_X4_step_111   K y1 σ) (br ((σ 1 2) = 4) (b_X4_step_111   K y1 σ) (vp_in y1 600 ∧ (wp_X4_kindOf (σ 2 y1.toNatClampNeg) σ <| fun r95_ τ95 => (br (r95_ = (τ95 1 2)) (∀ v105 : Int32, v105 = y1 + 1 → (b_X4_step_73   K n v105 τ95)) (b_X4_step_111   K y1 τ95)))))
set_option maxRecDepth 20000 in
set_option maxHeartbeats 2000000 in
theorem bt_X4_step_73 (l : Launch)  {K : Sg → Prop}   : ∀ (n : Nat) (y1 : Int32)  (σ : Sg), b_X4_step_73   K n y1 σ → AV l RX4 cX4_step 2 none 1 (qV K) 73 [(0, .ref 1), (1, .int y1)] [] σ := by
  intro n
  induction n with
  | zero => intro y1 σ h; exact h.elim
  | succ n ih =>
    intro y1 σ h
    refine aw_iload_n (pc := 73) 1 dX4_step_73 rfl ?_
    refine aw_aload_n (pc := 74) 0 dX4_step_74 rfl ?_
    refine aw_getI (pc := 75) 1 kcX4 dX4_step_75 lfX4_19 nn_1 ki_1 (by decide) rfl ?_
    refine aw_icmp_ge (pc := 78) 111 dX4_step_78 (by decide) (fun q => ?_) (fun q => ?_)
    · have h := h.1 q
      exact bt_X4_step_111 l    y1  _ h
    · have h := h.2 q
      refine aw_aload_n (pc := 81) 0 dX4_step_81 rfl ?_
      refine aw_getI (pc := 82) 2 kcX4 dX4_step_82 lfX4_38 nn_1 ki_1 (by decide) rfl ?_
      refine aw_iconst (pc := 85) 4 dX4_step_85 (by decide) ?_
      refine aw_icmp_eq (pc := 86) 111 dX4_step_86 (by decide) (fun q => ?_) (fun q => ?_)
      · have h := h.1 q
        exact bt_X4_step_111 l    y1  _ h
      · have h := h.2 q
        refine aw_aload_n (pc := 89) 0 dX4_step_89 rfl ?_
        refine aw_getR (pc := 90) 0 kcX4 dX4_step_90 lfX4_9 nn_1 ki_1 (by decide) rfl rf_1_0 ?_
        refine aw_iload_n (pc := 93) 1 dX4_step_93 rfl ?_
        refine aw_iald (pc := 94) (j := y1.toNatClampNeg) dX4_step_94 nn_2 ki_2 ln_2 h.1 rfl ?_
        have h := h.2
        refine aw_callS (pc := 95) (As := [.int (σ 2 y1.toNatClampNeg)]) (rest := []) (ev_X4_kindOf l (σ 2 y1.toNatClampNeg) h) mfX4_kindOf dX4_step_95 lmX4_31 ⟨Nat.le_refl _, Nat.le_refl _⟩ (by decide) rfl rfl (Nat.le_of_ble_eq_true rfl) (nxI (fun r95_ τ95 h => ?_))
        refine aw_aload_n (pc := 98) 0 dX4_step_98 rfl ?_
        refine aw_getI (pc := 99) 2 kcX4 dX4_step_99 lfX4_38 nn_1 ki_1 (by decide) rfl ?_
        refine aw_icmp_ne (pc := 102) 111 dX4_step_102 (by decide) (fun q => ?_) (fun q => ?_)
        · have h := h.2 q
          exact bt_X4_step_111 l    y1  _ h
        · have h := h.1 q
          obtain ⟨v105, ev105⟩ : ∃ v : Int32, v = y1 + 1 := ⟨_, rfl⟩
          have h := h v105 ev105
          refine aw_iinc (pc := 105) 1 v105 [(1, .int v105), (0, .ref 1)] dX4_step_105 rfl (by rw [ev105]; rfl) (by decide) rfl ?_
          refine aw_goto (pc := 108) 73 dX4_step_108 (by decide) ?_
          refine aw_sub (L' := [(0, .ref 1), (1, .int v105)]) [1, 0] rfl ?_
          exact ih v105  _ h
def b_X4_step_59   (K : Sg → Prop) (y1 : Int32) (z0 : Int32) (σ : Sg) : Prop :=
  ∀ τ59 : Sg, τ59 = up σ 1 2 z0 → (br ((τ59 1 2) = 4) (∀ v70 : Int32, v70 = y1 + 1 → (∃ nf, b_X4_step_73   K nf v70 τ59)) (∃ nf, b_X4_step_73   K nf y1 τ59))
set_option maxRecDepth 20000 in
set_option maxHeartbeats 2000000 in
theorem bt_X4_step_59 (l : Launch)  {K : Sg → Prop}   (y1 : Int32) (z0 : Int32)  (σ : Sg) (h : b_X4_step_59   K y1 z0 σ) : AV l RX4 cX4_step 2 none 1 (qV K) 59 [(0, .ref 1), (1, .int y1)] [.int z0, .ref 1] σ := by
  refine aw_put (pc := 59) 2 kcX4 dX4_step_59 lfX4_38 nn_1 ki_1 (by decide) rfl rfl rfl rfl ?_
  refine aw_tops (fun τ59 eτ59 => ?_)
  have h := h τ59 eτ59
  refine aw_aload_n (pc := 62) 0 dX4_step_62 rfl ?_
  refine aw_getI (pc := 63) 2 kcX4 dX4_step_63 lfX4_38 nn_1 ki_1 (by decide) rfl ?_
  refine aw_iconst (pc := 66) 4 dX4_step_66 (by decide) ?_
  refine aw_icmp_ne (pc := 67) 73 dX4_step_67 (by decide) (fun q => ?_) (fun q => ?_)
  · have h := h.2 q
    obtain ⟨nf, h⟩ := h
    exact bt_X4_step_73 l    nf y1  _ h
  · have h := h.1 q
    obtain ⟨v70, ev70⟩ : ∃ v : Int32, v = y1 + 1 := ⟨_, rfl⟩
    have h := h v70 ev70
    refine aw_iinc (pc := 70) 1 v70 [(1, .int v70), (0, .ref 1)] dX4_step_70 rfl (by rw [ev70]; rfl) (by decide) rfl ?_
    refine aw_sub (L' := [(0, .ref 1), (1, .int v70)]) [1, 0] rfl ?_
    obtain ⟨nf, h⟩ := h
    exact bt_X4_step_73 l    nf v70  _ h
def b_X4_step_32   (K : Sg → Prop) (y1 : Int32) (σ : Sg) : Prop :=
  ∀ τ34 : Sg, τ34 = up σ 1 3 y1 → (br ((τ34 1 1) ≤ y1) (b_X4_step_59   K y1 0 τ34) (vp_in y1 600 ∧ (wp_X4_kindOf (τ34 2 y1.toNatClampNeg) τ34 <| fun r52_ τ52 => (b_X4_step_59   K y1 r52_ τ52))))
set_option maxRecDepth 20000 in
set_option maxHeartbeats 2000000 in
theorem bt_X4_step_32 (l : Launch)  {K : Sg → Prop}   (y1 : Int32)  (σ : Sg) (h : b_X4_step_32   K y1 σ) : AV l RX4 cX4_step 2 none 1 (qV K) 32 [(0, .ref 1), (1, .int y1)] [] σ := by
  refine aw_aload_n (pc := 32) 0 dX4_step_32 rfl ?_
  refine aw_iload_n (pc := 33) 1 dX4_step_33 rfl ?_
  refine aw_put (pc := 34) 3 kcX4 dX4_step_34 lfX4_35 nn_1 ki_1 (by decide) rfl rfl rfl rfl ?_
  refine aw_tops (fun τ34 eτ34 => ?_)
  have h := h τ34 eτ34
  refine aw_aload_n (pc := 37) 0 dX4_step_37 rfl ?_
  refine aw_iload_n (pc := 38) 1 dX4_step_38 rfl ?_
  refine aw_aload_n (pc := 39) 0 dX4_step_39 rfl ?_
  refine aw_getI (pc := 40) 1 kcX4 dX4_step_40 lfX4_19 nn_1 ki_1 (by decide) rfl ?_
  refine aw_icmp_ge (pc := 43) 58 dX4_step_43 (by decide) (fun q => ?_) (fun q => ?_)
  · have h := h.1 q
    refine aw_iconst (pc := 58) 0 dX4_step_58 (by decide) ?_
    exact bt_X4_step_59 l    y1 0  _ h
  · have h := h.2 q
    refine aw_aload_n (pc := 46) 0 dX4_step_46 rfl ?_
    refine aw_getR (pc := 47) 0 kcX4 dX4_step_47 lfX4_9 nn_1 ki_1 (by decide) rfl rf_1_0 ?_
    refine aw_iload_n (pc := 50) 1 dX4_step_50 rfl ?_
    refine aw_iald (pc := 51) (j := y1.toNatClampNeg) dX4_step_51 nn_2 ki_2 ln_2 h.1 rfl ?_
    have h := h.2
    refine aw_callS (pc := 52) (As := [.int (τ34 2 y1.toNatClampNeg)]) (rest := [.ref 1]) (ev_X4_kindOf l (τ34 2 y1.toNatClampNeg) h) mfX4_kindOf dX4_step_52 lmX4_31 ⟨Nat.le_refl _, Nat.le_refl _⟩ (by decide) rfl rfl (Nat.le_of_ble_eq_true rfl) (nxI (fun r52_ τ52 h => ?_))
    refine aw_goto (pc := 55) 59 dX4_step_55 (by decide) ?_
    exact bt_X4_step_59 l    y1 r52_  _ h
def b_X4_step_5   (K : Sg → Prop) : Nat → Int32 → Sg → Prop
  | 0, _, _ => False
  | n + 1, y1, σ =>
  br ((σ 1 1) ≤ y1) (b_X4_step_32   K y1 σ) (vp_in y1 600 ∧ (wp_X4_kindOf (σ 2 y1.toNatClampNeg) σ <| fun r19_ τ19 => (br (r19_ = 1) (∀ v26 : Int32, v26 = y1 + 1 → (b_X4_step_5   K n v26 τ19)) (b_X4_step_32   K y1 τ19))))
set_option maxRecDepth 20000 in
set_option maxHeartbeats 2000000 in
theorem bt_X4_step_5 (l : Launch)  {K : Sg → Prop}   : ∀ (n : Nat) (y1 : Int32)  (σ : Sg), b_X4_step_5   K n y1 σ → AV l RX4 cX4_step 2 none 1 (qV K) 5 [(0, .ref 1), (1, .int y1)] [] σ := by
  intro n
  induction n with
  | zero => intro y1 σ h; exact h.elim
  | succ n ih =>
    intro y1 σ h
    refine aw_iload_n (pc := 5) 1 dX4_step_5 rfl ?_
    refine aw_aload_n (pc := 6) 0 dX4_step_6 rfl ?_
    refine aw_getI (pc := 7) 1 kcX4 dX4_step_7 lfX4_19 nn_1 ki_1 (by decide) rfl ?_
    refine aw_icmp_ge (pc := 10) 32 dX4_step_10 (by decide) (fun q => ?_) (fun q => ?_)
    · have h := h.1 q
      exact bt_X4_step_32 l    y1  _ h
    · have h := h.2 q
      refine aw_aload_n (pc := 13) 0 dX4_step_13 rfl ?_
      refine aw_getR (pc := 14) 0 kcX4 dX4_step_14 lfX4_9 nn_1 ki_1 (by decide) rfl rf_1_0 ?_
      refine aw_iload_n (pc := 17) 1 dX4_step_17 rfl ?_
      refine aw_iald (pc := 18) (j := y1.toNatClampNeg) dX4_step_18 nn_2 ki_2 ln_2 h.1 rfl ?_
      have h := h.2
      refine aw_callS (pc := 19) (As := [.int (σ 2 y1.toNatClampNeg)]) (rest := []) (ev_X4_kindOf l (σ 2 y1.toNatClampNeg) h) mfX4_kindOf dX4_step_19 lmX4_31 ⟨Nat.le_refl _, Nat.le_refl _⟩ (by decide) rfl rfl (Nat.le_of_ble_eq_true rfl) (nxI (fun r19_ τ19 h => ?_))
      refine aw_iconst (pc := 22) 1 dX4_step_22 (by decide) ?_
      refine aw_icmp_ne (pc := 23) 32 dX4_step_23 (by decide) (fun q => ?_) (fun q => ?_)
      · have h := h.2 q
        exact bt_X4_step_32 l    y1  _ h
      · have h := h.1 q
        obtain ⟨v26, ev26⟩ : ∃ v : Int32, v = y1 + 1 := ⟨_, rfl⟩
        have h := h v26 ev26
        refine aw_iinc (pc := 26) 1 v26 [(1, .int v26), (0, .ref 1)] dX4_step_26 rfl (by rw [ev26]; rfl) (by decide) rfl ?_
        refine aw_goto (pc := 29) 5 dX4_step_29 (by decide) ?_
        refine aw_sub (L' := [(0, .ref 1), (1, .int v26)]) [1, 0] rfl ?_
        exact ih v26  _ h
def wp_X4_step  (σ : Sg) (K : Sg → Prop) : Prop :=
  ∀ v4 : Int32, v4 = σ 1 4 → (∃ nf, b_X4_step_5   K nf v4 σ)
set_option maxRecDepth 20000 in
set_option maxHeartbeats 2000000 in
theorem ev_X4_step (l : Launch)  {σ : Sg} {K : Sg → Prop} (h : wp_X4_step  σ K) : Ev l yX4_step cX4_step 2 none 1 [.ref 1] σ (qV K) := by
  refine ev_ov (by decide) (Nat.le_of_ble_eq_true rfl) ?_
  show AV l RX4 cX4_step 2 none 1 (qV K) 0 [(0, .ref 1)] [] σ
  refine aw_aload_n (pc := 0) 0 dX4_step_0 rfl ?_
  refine aw_getI (pc := 1) 4 kcX4 dX4_step_1 lfX4_25 nn_1 ki_1 (by decide) rfl ?_
  refine aw_topi (fun v4 ev4 => ?_)
  have h := h v4 ev4
  refine aw_istore_n (pc := 4) (i := 1) [(1, .int v4), (0, .ref 1)] dX4_step_4 rfl (by decide) rfl ?_
  refine aw_sub (L' := [(0, .ref 1), (1, .int v4)]) [1, 0] rfl ?_
  obtain ⟨nf, h⟩ := h
  exact bt_X4_step_5 l    nf v4  _ h
def wp_X4_rewind  (σ : Sg) (K : Sg → Prop) : Prop :=
  ∀ τ2 : Sg, τ2 = up σ 1 5 0 → (∀ τ7 : Sg, τ7 = up τ2 1 6 (-1) → (∀ τ12 : Sg, τ12 = up τ7 1 4 0 → (wp_X4_step  τ12 <| fun τ16 => (K τ16))))
set_option maxRecDepth 20000 in
set_option maxHeartbeats 2000000 in
theorem ev_X4_rewind (l : Launch)  {σ : Sg} {K : Sg → Prop} (h : wp_X4_rewind  σ K) : Ev l yX4_rewind cX4_rewind 1 none 2 [.ref 1] σ (qV K) := by
  refine ev_ov (by decide) (Nat.le_of_ble_eq_true rfl) ?_
  show AV l RX4 cX4_rewind 1 none 2 (qV K) 0 [(0, .ref 1)] [] σ
  refine aw_aload_n (pc := 0) 0 dX4_rewind_0 rfl ?_
  refine aw_iconst (pc := 1) 0 dX4_rewind_1 (by decide) ?_
  refine aw_put (pc := 2) 5 kcX4 dX4_rewind_2 lfX4_22 nn_1 ki_1 (by decide) rfl rfl rfl rfl ?_
  refine aw_tops (fun τ2 eτ2 => ?_)
  have h := h τ2 eτ2
  refine aw_aload_n (pc := 5) 0 dX4_rewind_5 rfl ?_
  refine aw_iconst (pc := 6) (-1) dX4_rewind_6 (by decide) ?_
  refine aw_put (pc := 7) 6 kcX4 dX4_rewind_7 lfX4_15 nn_1 ki_1 (by decide) rfl rfl rfl rfl ?_
  refine aw_tops (fun τ7 eτ7 => ?_)
  have h := h τ7 eτ7
  refine aw_aload_n (pc := 10) 0 dX4_rewind_10 rfl ?_
  refine aw_iconst (pc := 11) 0 dX4_rewind_11 (by decide) ?_
  refine aw_put (pc := 12) 4 kcX4 dX4_rewind_12 lfX4_25 nn_1 ki_1 (by decide) rfl rfl rfl rfl ?_
  refine aw_tops (fun τ12 eτ12 => ?_)
  have h := h τ12 eτ12
  refine aw_aload_n (pc := 15) 0 dX4_rewind_15 rfl ?_
  refine aw_callV (pc := 16) (As := []) (rest := []) kcX4 nn_1 ki_1 rfl (ev_X4_step l  h) mfX4_step dX4_rewind_16 lmX4_28 ⟨Nat.le_refl _, Nat.le_refl _⟩ (by decide) rfl rfl (Nat.le_of_ble_eq_true rfl) (nxV (fun τ16 h => ?_))
  exact aw_vret (pc := 19) rfl dX4_rewind_19 ⟨rfl, h⟩
def wp_X4_refuse (x1 : Int32) (σ : Sg) (K : Int32 → Sg → Prop) : Prop :=
  ∀ τ2 : Sg, τ2 = up σ 1 5 x1 → (∀ τ10 : Sg, τ10 = up τ2 1 6 (τ2 1 3) → (K 0 τ10))
set_option maxRecDepth 20000 in
set_option maxHeartbeats 2000000 in
theorem ev_X4_refuse (l : Launch) (x1 : Int32) {σ : Sg} {K : Int32 → Sg → Prop} (h : wp_X4_refuse x1 σ K) : Ev l yX4_refuse cX4_refuse 2 (some .boolean) 0 [.ref 1, .int x1] σ (qI K) := by
  refine ev_ov (by decide) (Nat.le_of_ble_eq_true rfl) ?_
  show AV l RX4 cX4_refuse 2 (some .boolean) 0 (qI K) 0 [(0, .ref 1), (1, .int x1)] [] σ
  refine aw_aload_n (pc := 0) 0 dX4_refuse_0 rfl ?_
  refine aw_iload_n (pc := 1) 1 dX4_refuse_1 rfl ?_
  refine aw_put (pc := 2) 5 kcX4 dX4_refuse_2 lfX4_22 nn_1 ki_1 (by decide) rfl rfl rfl rfl ?_
  refine aw_tops (fun τ2 eτ2 => ?_)
  have h := h τ2 eτ2
  refine aw_aload_n (pc := 5) 0 dX4_refuse_5 rfl ?_
  refine aw_aload_n (pc := 6) 0 dX4_refuse_6 rfl ?_
  refine aw_getI (pc := 7) 3 kcX4 dX4_refuse_7 lfX4_35 nn_1 ki_1 (by decide) rfl ?_
  refine aw_put (pc := 10) 6 kcX4 dX4_refuse_10 lfX4_15 nn_1 ki_1 (by decide) rfl rfl rfl rfl ?_
  refine aw_tops (fun τ10 eτ10 => ?_)
  have h := h τ10 eτ10
  refine aw_iconst (pc := 13) 0 dX4_refuse_13 (by decide) ?_
  exact aw_zret (pc := 14) rfl rfl dX4_refuse_14 ⟨_, rfl, h⟩
def b_X4_isAt_28 (i1 : Nat)  (K : Int32 → Sg → Prop) : Nat → Int32 → Sg → Prop
  | 0, _, _ => False
  | n + 1, y2, σ =>
  wp_J0_length_8abf5 i1 σ <| fun r30_ τ30 => (br (r30_ ≤ y2) (K 1 τ30) (vp_in ((τ30 1 3) + y2) 600 ∧ (wp_J0_charAt_5068e i1 y2 τ30 <| fun r49_ τ49 => (br ((τ30 2 ((τ30 1 3) + y2).toNatClampNeg) = r49_) (∀ v57 : Int32, v57 = y2 + 1 → (b_X4_isAt_28 i1  K n v57 τ49)) (K 0 τ49)))))
set_option maxRecDepth 20000 in
set_option maxHeartbeats 2000000 in
theorem bt_X4_isAt_28 (l : Launch) (i1 : Nat) (hi1 : i1 < nSt) (gi1 : i1 ≠ 99) {K : Int32 → Sg → Prop}   : ∀ (n : Nat) (y2 : Int32)  (σ : Sg), b_X4_isAt_28 i1  K n y2 σ → AV l RX4 cX4_isAt 3 (some .boolean) 5 (qI K) 28 [(0, .ref 1), (1, .retAddr i1), (2, .int y2)] [] σ := by
  intro n
  induction n with
  | zero => intro y2 σ h; exact h.elim
  | succ n ih =>
    intro y2 σ h
    refine aw_iload_n (pc := 28) 2 dX4_isAt_28 rfl ?_
    refine aw_aload_nS (pc := 29) 1 gi1 dX4_isAt_29 rfl ?_
    refine aw_callT (pc := 30) (As := []) (rest := [.int y2]) hi1 gi1 rfl (ev_J0_length_8abf5 l i1 hi1 gi1 h) mfJ0_length_8abf5 dX4_isAt_30 lmX4_41 ⟨Nat.le_refl _, Nat.le_refl _⟩ (by decide) rfl rfl (Nat.le_of_ble_eq_true rfl) (nxI (fun r30_ τ30 h => ?_))
    refine aw_icmp_ge (pc := 33) 63 dX4_isAt_33 (by decide) (fun q => ?_) (fun q => ?_)
    · have h := h.1 q
      refine aw_iconst (pc := 63) 1 dX4_isAt_63 (by decide) ?_
      exact aw_zret (pc := 64) rfl rfl dX4_isAt_64 ⟨_, rfl, h⟩
    · have h := h.2 q
      refine aw_aload_n (pc := 36) 0 dX4_isAt_36 rfl ?_
      refine aw_getR (pc := 37) 0 kcX4 dX4_isAt_37 lfX4_9 nn_1 ki_1 (by decide) rfl rf_1_0 ?_
      refine aw_aload_n (pc := 40) 0 dX4_isAt_40 rfl ?_
      refine aw_getI (pc := 41) 3 kcX4 dX4_isAt_41 lfX4_35 nn_1 ki_1 (by decide) rfl ?_
      refine aw_iload_n (pc := 44) 2 dX4_isAt_44 rfl ?_
      refine aw_iadd (pc := 45) dX4_isAt_45 ?_
      refine aw_iald (pc := 46) (j := ((τ30 1 3) + y2).toNatClampNeg) dX4_isAt_46 nn_2 ki_2 ln_2 h.1 rfl ?_
      have h := h.2
      refine aw_aload_nS (pc := 47) 1 gi1 dX4_isAt_47 rfl ?_
      refine aw_iload_n (pc := 48) 2 dX4_isAt_48 rfl ?_
      refine aw_callT (pc := 49) (As := [.int y2]) (rest := [.int (τ30 2 ((τ30 1 3) + y2).toNatClampNeg)]) hi1 gi1 rfl (ev_J0_charAt_5068e l i1 hi1 gi1 y2 h) mfJ0_charAt_5068e dX4_isAt_49 lmX4_47 ⟨Nat.le_refl _, Nat.le_refl _⟩ (by decide) rfl rfl (Nat.le_of_ble_eq_true rfl) (nxI (fun r49_ τ49 h => ?_))
      refine aw_icmp_eq (pc := 52) 57 dX4_isAt_52 (by decide) (fun q => ?_) (fun q => ?_)
      · have h := h.1 q
        obtain ⟨v57, ev57⟩ : ∃ v : Int32, v = y2 + 1 := ⟨_, rfl⟩
        have h := h v57 ev57
        refine aw_iinc (pc := 57) 2 v57 [(2, .int v57), (0, .ref 1), (1, .retAddr i1)] dX4_isAt_57 rfl (by rw [ev57]; rfl) (by decide) rfl ?_
        refine aw_goto (pc := 60) 28 dX4_isAt_60 (by decide) ?_
        refine aw_sub (L' := [(0, .ref 1), (1, .retAddr i1), (2, .int v57)]) [1, 2, 0] rfl ?_
        exact ih v57  _ h
      · have h := h.2 q
        refine aw_iconst (pc := 55) 0 dX4_isAt_55 (by decide) ?_
        exact aw_zret (pc := 56) rfl rfl dX4_isAt_56 ⟨_, rfl, h⟩
def wp_X4_isAt (i1 : Nat) (σ : Sg) (K : Int32 → Sg → Prop) : Prop :=
  br ((σ 1 2) = 2) (wp_J0_length_8abf5 i1 σ <| fun r18_ τ18 => (br (((σ 1 4) - (σ 1 3)) = r18_) (∃ nf, b_X4_isAt_28 i1  K nf 0 τ18) (K 0 τ18))) (K 0 σ)
set_option maxRecDepth 20000 in
set_option maxHeartbeats 2000000 in
theorem ev_X4_isAt (l : Launch) (i1 : Nat) (hi1 : i1 < nSt) (gi1 : i1 ≠ 99) {σ : Sg} {K : Int32 → Sg → Prop} (h : wp_X4_isAt i1 σ K) : Ev l yX4_isAt cX4_isAt 3 (some .boolean) 5 [.ref 1, .retAddr i1] σ (qI K) := by
  refine ev_ov (by decide) (Nat.le_of_ble_eq_true rfl) ?_
  show AV l RX4 cX4_isAt 3 (some .boolean) 5 (qI K) 0 [(0, .ref 1), (1, .retAddr i1)] [] σ
  refine aw_aload_n (pc := 0) 0 dX4_isAt_0 rfl ?_
  refine aw_getI (pc := 1) 2 kcX4 dX4_isAt_1 lfX4_38 nn_1 ki_1 (by decide) rfl ?_
  refine aw_iconst (pc := 4) 2 dX4_isAt_4 (by decide) ?_
  refine aw_icmp_ne (pc := 5) 24 dX4_isAt_5 (by decide) (fun q => ?_) (fun q => ?_)
  · have h := h.2 q
    refine aw_iconst (pc := 24) 0 dX4_isAt_24 (by decide) ?_
    exact aw_zret (pc := 25) rfl rfl dX4_isAt_25 ⟨_, rfl, h⟩
  · have h := h.1 q
    refine aw_aload_n (pc := 8) 0 dX4_isAt_8 rfl ?_
    refine aw_getI (pc := 9) 4 kcX4 dX4_isAt_9 lfX4_25 nn_1 ki_1 (by decide) rfl ?_
    refine aw_aload_n (pc := 12) 0 dX4_isAt_12 rfl ?_
    refine aw_getI (pc := 13) 3 kcX4 dX4_isAt_13 lfX4_35 nn_1 ki_1 (by decide) rfl ?_
    refine aw_isub (pc := 16) dX4_isAt_16 ?_
    refine aw_aload_nS (pc := 17) 1 gi1 dX4_isAt_17 rfl ?_
    refine aw_callT (pc := 18) (As := []) (rest := [.int ((σ 1 4) - (σ 1 3))]) hi1 gi1 rfl (ev_J0_length_8abf5 l i1 hi1 gi1 h) mfJ0_length_8abf5 dX4_isAt_18 lmX4_41 ⟨Nat.le_refl _, Nat.le_refl _⟩ (by decide) rfl rfl (Nat.le_of_ble_eq_true rfl) (nxI (fun r18_ τ18 h => ?_))
    refine aw_icmp_eq (pc := 21) 26 dX4_isAt_21 (by decide) (fun q => ?_) (fun q => ?_)
    · have h := h.1 q
      refine aw_iconst (pc := 26) 0 dX4_isAt_26 (by decide) ?_
      refine aw_istore_n (pc := 27) (i := 2) [(2, .int 0), (0, .ref 1), (1, .retAddr i1)] dX4_isAt_27 rfl (by decide) rfl ?_
      refine aw_sub (L' := [(0, .ref 1), (1, .retAddr i1), (2, .int 0)]) [1, 2, 0] rfl ?_
      obtain ⟨nf, h⟩ := h
      exact bt_X4_isAt_28 l i1 hi1 gi1   nf 0  _ h
    · have h := h.2 q
      refine aw_iconst (pc := 24) 0 dX4_isAt_24 (by decide) ?_
      exact aw_zret (pc := 25) rfl rfl dX4_isAt_25 ⟨_, rfl, h⟩
def wp_X4_takeWord (i1 : Nat) (σ : Sg) (K : Int32 → Sg → Prop) : Prop :=
  wp_X4_isAt i1 σ <| fun r2_ τ2 => (br (r2_ = 0) (K 0 τ2) (wp_X4_step  τ2 <| fun τ11 => (K 1 τ11)))
set_option maxRecDepth 20000 in
set_option maxHeartbeats 2000000 in
theorem ev_X4_takeWord (l : Launch) (i1 : Nat) (hi1 : i1 < nSt) (gi1 : i1 ≠ 99) {σ : Sg} {K : Int32 → Sg → Prop} (h : wp_X4_takeWord i1 σ K) : Ev l yX4_takeWord cX4_takeWord 2 (some .boolean) 6 [.ref 1, .retAddr i1] σ (qI K) := by
  refine ev_ov (by decide) (Nat.le_of_ble_eq_true rfl) ?_
  show AV l RX4 cX4_takeWord 2 (some .boolean) 6 (qI K) 0 [(0, .ref 1), (1, .retAddr i1)] [] σ
  refine aw_aload_n (pc := 0) 0 dX4_takeWord_0 rfl ?_
  refine aw_aload_nS (pc := 1) 1 gi1 dX4_takeWord_1 rfl ?_
  refine aw_callV (pc := 2) (As := [.retAddr i1]) (rest := []) kcX4 nn_1 ki_1 rfl (ev_X4_isAt l i1 hi1 gi1 h) mfX4_isAt dX4_takeWord_2 lmX4_51 ⟨Nat.le_refl _, Nat.le_refl _⟩ (by decide) rfl rfl (Nat.le_of_ble_eq_true rfl) (nxI (fun r2_ τ2 h => ?_))
  refine aw_if_ne (pc := 5) 10 dX4_takeWord_5 (by decide) (fun q => ?_) (fun q => ?_)
  · have h := h.2 q
    refine aw_aload_n (pc := 10) 0 dX4_takeWord_10 rfl ?_
    refine aw_callV (pc := 11) (As := []) (rest := []) kcX4 nn_1 ki_1 rfl (ev_X4_step l  h) mfX4_step dX4_takeWord_11 lmX4_28 ⟨Nat.le_refl _, Nat.le_refl _⟩ (by decide) rfl rfl (Nat.le_of_ble_eq_true rfl) (nxV (fun τ11 h => ?_))
    refine aw_iconst (pc := 14) 1 dX4_takeWord_14 (by decide) ?_
    exact aw_zret (pc := 15) rfl rfl dX4_takeWord_15 ⟨_, rfl, h⟩
  · have h := h.1 q
    refine aw_iconst (pc := 8) 0 dX4_takeWord_8 (by decide) ?_
    exact aw_zret (pc := 9) rfl rfl dX4_takeWord_9 ⟨_, rfl, h⟩
def wp_X4_takeSeparator  (σ : Sg) (K : Int32 → Sg → Prop) : Prop :=
  br ((σ 1 2) = 4) (vp_in (σ 1 3) 600 ∧ (br ((σ 2 (σ 1 3).toNatClampNeg) = 59) (wp_X4_step  σ <| fun τ25 => (K 1 τ25)) (K 0 σ))) (K 0 σ)
set_option maxRecDepth 20000 in
set_option maxHeartbeats 2000000 in
theorem ev_X4_takeSeparator (l : Launch)  {σ : Sg} {K : Int32 → Sg → Prop} (h : wp_X4_takeSeparator  σ K) : Ev l yX4_takeSeparator cX4_takeSeparator 1 (some .boolean) 2 [.ref 1] σ (qI K) := by
  refine ev_ov (by decide) (Nat.le_of_ble_eq_true rfl) ?_
  show AV l RX4 cX4_takeSeparator 1 (some .boolean) 2 (qI K) 0 [(0, .ref 1)] [] σ
  refine aw_aload_n (pc := 0) 0 dX4_takeSeparator_0 rfl ?_
  refine aw_getI (pc := 1) 2 kcX4 dX4_takeSeparator_1 lfX4_38 nn_1 ki_1 (by decide) rfl ?_
  refine aw_iconst (pc := 4) 4 dX4_takeSeparator_4 (by decide) ?_
  refine aw_icmp_ne (pc := 5) 22 dX4_takeSeparator_5 (by decide) (fun q => ?_) (fun q => ?_)
  · have h := h.2 q
    refine aw_iconst (pc := 22) 0 dX4_takeSeparator_22 (by decide) ?_
    exact aw_zret (pc := 23) rfl rfl dX4_takeSeparator_23 ⟨_, rfl, h⟩
  · have h := h.1 q
    refine aw_aload_n (pc := 8) 0 dX4_takeSeparator_8 rfl ?_
    refine aw_getR (pc := 9) 0 kcX4 dX4_takeSeparator_9 lfX4_9 nn_1 ki_1 (by decide) rfl rf_1_0 ?_
    refine aw_aload_n (pc := 12) 0 dX4_takeSeparator_12 rfl ?_
    refine aw_getI (pc := 13) 3 kcX4 dX4_takeSeparator_13 lfX4_35 nn_1 ki_1 (by decide) rfl ?_
    refine aw_iald (pc := 16) (j := (σ 1 3).toNatClampNeg) dX4_takeSeparator_16 nn_2 ki_2 ln_2 h.1 rfl ?_
    have h := h.2
    refine aw_bipush (pc := 17) 59 dX4_takeSeparator_17 (by decide) ?_
    refine aw_icmp_eq (pc := 19) 24 dX4_takeSeparator_19 (by decide) (fun q => ?_) (fun q => ?_)
    · have h := h.1 q
      refine aw_aload_n (pc := 24) 0 dX4_takeSeparator_24 rfl ?_
      refine aw_callV (pc := 25) (As := []) (rest := []) kcX4 nn_1 ki_1 rfl (ev_X4_step l  h) mfX4_step dX4_takeSeparator_25 lmX4_28 ⟨Nat.le_refl _, Nat.le_refl _⟩ (by decide) rfl rfl (Nat.le_of_ble_eq_true rfl) (nxV (fun τ25 h => ?_))
      refine aw_iconst (pc := 28) 1 dX4_takeSeparator_28 (by decide) ?_
      exact aw_zret (pc := 29) rfl rfl dX4_takeSeparator_29 ⟨_, rfl, h⟩
    · have h := h.2 q
      refine aw_iconst (pc := 22) 0 dX4_takeSeparator_22 (by decide) ?_
      exact aw_zret (pc := 23) rfl rfl dX4_takeSeparator_23 ⟨_, rfl, h⟩
def b_X4_takeNumber_88 (k1 n1 : Nat) (x2 : Int32) (x3 : Int32) (x4 : Int32)  (K : Int32 → Sg → Prop)  (σ : Sg) : Prop :=
  wp_X4_refuse 2 σ <| fun r90_ τ90 => (isZ r90_ ∧ K r90_ τ90)
set_option maxRecDepth 20000 in
set_option maxHeartbeats 2000000 in
theorem bt_X4_takeNumber_88 (l : Launch) (k1 n1 : Nat) (hk1 : aOk k1 n1) (x2 : Int32) (x3 : Int32) (x4 : Int32) {K : Int32 → Sg → Prop}     (σ : Sg) (h : b_X4_takeNumber_88 k1 n1 x2 x3 x4  K  σ) : AV l RX4 cX4_takeNumber 7 (some .boolean) 2 (qI K) 88 [(0, .ref 1)] [] σ := by
  refine aw_aload_n (pc := 88) 0 dX4_takeNumber_88 rfl ?_
  refine aw_iconst (pc := 89) 2 dX4_takeNumber_89 (by decide) ?_
  refine aw_callV (pc := 90) (As := [.int 2]) (rest := []) kcX4 nn_1 ki_1 rfl (ev_X4_refuse l 2 h) mfX4_refuse dX4_takeNumber_90 lmX4_55 ⟨Nat.le_refl _, Nat.le_refl _⟩ (by decide) rfl rfl (Nat.le_of_ble_eq_true rfl) (nxI (fun r90_ τ90 h => ?_))
  exact aw_zret (pc := 93) rfl (isZ_n h.1) dX4_takeNumber_93 ⟨_, rfl, h.2⟩
def b_X4_takeNumber_42 (k1 n1 : Nat) (x2 : Int32) (x3 : Int32) (x4 : Int32)  (K : Int32 → Sg → Prop) : Nat → Int32 → Int32 → Sg → Prop
  | 0, _, _, _ => False
  | n + 1, y5, y6, σ =>
  br ((σ 1 4) ≤ y6) (br (y5 < x3) (b_X4_takeNumber_88 k1 n1 x2 x3 x4  K  σ) (br (y5 ≤ x4) (vp_in x2 n1 ∧ (∀ τ98 : Sg, τ98 = up σ k1 x2.toNatClampNeg y5 → (wp_X4_step  τ98 <| fun τ100 => (K 1 τ100)))) (b_X4_takeNumber_88 k1 n1 x2 x3 x4  K  σ))) (vp_in y6 600 ∧ (∀ v67 : Int32, v67 = ((y5 * 10) + (σ 2 y6.toNatClampNeg)) - 48 → (∀ v69 : Int32, v69 = y6 + 1 → (b_X4_takeNumber_42 k1 n1 x2 x3 x4  K n v67 v69 σ))))
set_option maxRecDepth 20000 in
set_option maxHeartbeats 2000000 in
theorem bt_X4_takeNumber_42 (l : Launch) (k1 n1 : Nat) (hk1 : aOk k1 n1) (x2 : Int32) (x3 : Int32) (x4 : Int32) {K : Int32 → Sg → Prop}   : ∀ (n : Nat) (y5 : Int32) (y6 : Int32)  (σ : Sg), b_X4_takeNumber_42 k1 n1 x2 x3 x4  K n y5 y6 σ → AV l RX4 cX4_takeNumber 7 (some .boolean) 2 (qI K) 42 [(0, .ref 1), (1, .ref k1), (2, .int x2), (3, .int x3), (4, .int x4), (5, .int y5), (6, .int y6)] [] σ := by
  intro n
  induction n with
  | zero => intro y5 y6 σ h; exact h.elim
  | succ n ih =>
    intro y5 y6 σ h
    refine aw_iload (pc := 42) 6 dX4_takeNumber_42 rfl ?_
    refine aw_aload_n (pc := 44) 0 dX4_takeNumber_44 rfl ?_
    refine aw_getI (pc := 45) 4 kcX4 dX4_takeNumber_45 lfX4_25 nn_1 ki_1 (by decide) rfl ?_
    refine aw_icmp_ge (pc := 48) 75 dX4_takeNumber_48 (by decide) (fun q => ?_) (fun q => ?_)
    · have h := h.1 q
      refine aw_iload (pc := 75) 5 dX4_takeNumber_75 rfl ?_
      refine aw_iload_n (pc := 77) 3 dX4_takeNumber_77 rfl ?_
      refine aw_icmp_lt (pc := 78) 88 dX4_takeNumber_78 (by decide) (fun q => ?_) (fun q => ?_)
      · have h := h.1 q
        refine aw_sub (L' := [(0, .ref 1)]) [0] rfl ?_
        exact bt_X4_takeNumber_88 l k1 n1 hk1 x2 x3 x4     _ h
      · have h := h.2 q
        refine aw_iload (pc := 81) 5 dX4_takeNumber_81 rfl ?_
        refine aw_iload (pc := 83) 4 dX4_takeNumber_83 rfl ?_
        refine aw_icmp_le (pc := 85) 94 dX4_takeNumber_85 (by decide) (fun q => ?_) (fun q => ?_)
        · have h := h.1 q
          refine aw_aload_n (pc := 94) 1 dX4_takeNumber_94 rfl ?_
          refine aw_iload_n (pc := 95) 2 dX4_takeNumber_95 rfl ?_
          refine aw_iload (pc := 96) 5 dX4_takeNumber_96 rfl ?_
          refine aw_iast (pc := 98) (j := x2.toNatClampNeg) (v := y5) dX4_takeNumber_98 hk1.1 hk1.2.1 hk1.2.2 h.1 rfl rfl ?_
          have h := h.2
          refine aw_tops (fun τ98 eτ98 => ?_)
          have h := h τ98 eτ98
          refine aw_aload_n (pc := 99) 0 dX4_takeNumber_99 rfl ?_
          refine aw_callV (pc := 100) (As := []) (rest := []) kcX4 nn_1 ki_1 rfl (ev_X4_step l  h) mfX4_step dX4_takeNumber_100 lmX4_28 ⟨Nat.le_refl _, Nat.le_refl _⟩ (by decide) rfl rfl (Nat.le_of_ble_eq_true rfl) (nxV (fun τ100 h => ?_))
          refine aw_iconst (pc := 103) 1 dX4_takeNumber_103 (by decide) ?_
          exact aw_zret (pc := 104) rfl rfl dX4_takeNumber_104 ⟨_, rfl, h⟩
        · have h := h.2 q
          refine aw_sub (L' := [(0, .ref 1)]) [0] rfl ?_
          exact bt_X4_takeNumber_88 l k1 n1 hk1 x2 x3 x4     _ h
    · have h := h.2 q
      refine aw_iload (pc := 51) 5 dX4_takeNumber_51 rfl ?_
      refine aw_bipush (pc := 53) 10 dX4_takeNumber_53 (by decide) ?_
      refine aw_imul (pc := 55) dX4_takeNumber_55 ?_
      refine aw_aload_n (pc := 56) 0 dX4_takeNumber_56 rfl ?_
      refine aw_getR (pc := 57) 0 kcX4 dX4_takeNumber_57 lfX4_9 nn_1 ki_1 (by decide) rfl rf_1_0 ?_
      refine aw_iload (pc := 60) 6 dX4_takeNumber_60 rfl ?_
      refine aw_iald (pc := 62) (j := y6.toNatClampNeg) dX4_takeNumber_62 nn_2 ki_2 ln_2 h.1 rfl ?_
      have h := h.2
      refine aw_iadd (pc := 63) dX4_takeNumber_63 ?_
      refine aw_bipush (pc := 64) 48 dX4_takeNumber_64 (by decide) ?_
      refine aw_isub (pc := 66) dX4_takeNumber_66 ?_
      refine aw_topi (fun v67 ev67 => ?_)
      have h := h v67 ev67
      refine aw_istore (pc := 67) [(5, .int v67), (0, .ref 1), (1, .ref k1), (2, .int x2), (3, .int x3), (4, .int x4), (6, .int y6)] dX4_takeNumber_67 (by decide) rfl ?_
      obtain ⟨v69, ev69⟩ : ∃ v : Int32, v = y6 + 1 := ⟨_, rfl⟩
      have h := h v69 ev69
      refine aw_iinc (pc := 69) 6 v69 [(6, .int v69), (5, .int v67), (0, .ref 1), (1, .ref k1), (2, .int x2), (3, .int x3), (4, .int x4)] dX4_takeNumber_69 rfl (by rw [ev69]; rfl) (by decide) rfl ?_
      refine aw_goto (pc := 72) 42 dX4_takeNumber_72 (by decide) ?_
      refine aw_sub (L' := [(0, .ref 1), (1, .ref k1), (2, .int x2), (3, .int x3), (4, .int x4), (5, .int v67), (6, .int v69)]) [2, 3, 4, 5, 6, 1, 0] rfl ?_
      exact ih v67 v69  _ h
def wp_X4_takeNumber (k1 n1 : Nat) (x2 : Int32) (x3 : Int32) (x4 : Int32) (σ : Sg) (K : Int32 → Sg → Prop) : Prop :=
  br ((σ 1 2) = 3) (br (((σ 1 4) - (σ 1 3)) ≤ 5) (∀ v40 : Int32, v40 = σ 1 3 → (∃ nf, b_X4_takeNumber_42 k1 n1 x2 x3 x4  K nf 0 v40 σ)) (wp_X4_refuse 2 σ <| fun r29_ τ29 => (isZ r29_ ∧ K r29_ τ29))) (wp_X4_refuse 1 σ <| fun r10_ τ10 => (isZ r10_ ∧ K r10_ τ10))
set_option maxRecDepth 20000 in
set_option maxHeartbeats 2000000 in
theorem ev_X4_takeNumber (l : Launch) (k1 n1 : Nat) (hk1 : aOk k1 n1) (x2 : Int32) (x3 : Int32) (x4 : Int32) {σ : Sg} {K : Int32 → Sg → Prop} (h : wp_X4_takeNumber k1 n1 x2 x3 x4 σ K) : Ev l yX4_takeNumber cX4_takeNumber 7 (some .boolean) 2 [.ref 1, .ref k1, .int x2, .int x3, .int x4] σ (qI K) := by
  refine ev_ov (by decide) (Nat.le_of_ble_eq_true rfl) ?_
  show AV l RX4 cX4_takeNumber 7 (some .boolean) 2 (qI K) 0 [(0, .ref 1), (1, .ref k1), (2, .int x2), (3, .int x3), (4, .int x4)] [] σ
  refine aw_aload_n (pc := 0) 0 dX4_takeNumber_0 rfl ?_
  refine aw_getI (pc := 1) 2 kcX4 dX4_takeNumber_1 lfX4_38 nn_1 ki_1 (by decide) rfl ?_
  refine aw_iconst (pc := 4) 3 dX4_takeNumber_4 (by decide) ?_
  refine aw_icmp_eq (pc := 5) 14 dX4_takeNumber_5 (by decide) (fun q => ?_) (fun q => ?_)
  · have h := h.1 q
    refine aw_aload_n (pc := 14) 0 dX4_takeNumber_14 rfl ?_
    refine aw_getI (pc := 15) 4 kcX4 dX4_takeNumber_15 lfX4_25 nn_1 ki_1 (by decide) rfl ?_
    refine aw_aload_n (pc := 18) 0 dX4_takeNumber_18 rfl ?_
    refine aw_getI (pc := 19) 3 kcX4 dX4_takeNumber_19 lfX4_35 nn_1 ki_1 (by decide) rfl ?_
    refine aw_isub (pc := 22) dX4_takeNumber_22 ?_
    refine aw_iconst (pc := 23) 5 dX4_takeNumber_23 (by decide) ?_
    refine aw_icmp_le (pc := 24) 33 dX4_takeNumber_24 (by decide) (fun q => ?_) (fun q => ?_)
    · have h := h.1 q
      refine aw_iconst (pc := 33) 0 dX4_takeNumber_33 (by decide) ?_
      refine aw_istore (pc := 34) [(5, .int 0), (0, .ref 1), (1, .ref k1), (2, .int x2), (3, .int x3), (4, .int x4)] dX4_takeNumber_34 (by decide) rfl ?_
      refine aw_aload_n (pc := 36) 1 dX4_takeNumber_36 rfl ?_
      refine aw_getI (pc := 37) 3 kcX4 dX4_takeNumber_37 lfX4_35 nn_1 ki_1 (by decide) rfl ?_
      refine aw_topi (fun v40 ev40 => ?_)
      have h := h v40 ev40
      refine aw_istore (pc := 40) [(6, .int v40), (5, .int 0), (0, .ref 1), (1, .ref k1), (2, .int x2), (3, .int x3), (4, .int x4)] dX4_takeNumber_40 (by decide) rfl ?_
      refine aw_sub (L' := [(0, .ref 1), (1, .ref k1), (2, .int x2), (3, .int x3), (4, .int x4), (5, .int 0), (6, .int v40)]) [2, 3, 4, 5, 6, 1, 0] rfl ?_
      obtain ⟨nf, h⟩ := h
      exact bt_X4_takeNumber_42 l k1 n1 hk1 x2 x3 x4   nf 0 v40  _ h
    · have h := h.2 q
      refine aw_aload_n (pc := 27) 0 dX4_takeNumber_27 rfl ?_
      refine aw_iconst (pc := 28) 2 dX4_takeNumber_28 (by decide) ?_
      refine aw_callV (pc := 29) (As := [.int 2]) (rest := []) kcX4 nn_1 ki_1 rfl (ev_X4_refuse l 2 h) mfX4_refuse dX4_takeNumber_29 lmX4_55 ⟨Nat.le_refl _, Nat.le_refl _⟩ (by decide) rfl rfl (Nat.le_of_ble_eq_true rfl) (nxI (fun r29_ τ29 h => ?_))
      exact aw_zret (pc := 32) rfl (isZ_n h.1) dX4_takeNumber_32 ⟨_, rfl, h.2⟩
  · have h := h.2 q
    refine aw_aload_n (pc := 8) 0 dX4_takeNumber_8 rfl ?_
    refine aw_iconst (pc := 9) 1 dX4_takeNumber_9 (by decide) ?_
    refine aw_callV (pc := 10) (As := [.int 1]) (rest := []) kcX4 nn_1 ki_1 rfl (ev_X4_refuse l 1 h) mfX4_refuse dX4_takeNumber_10 lmX4_55 ⟨Nat.le_refl _, Nat.le_refl _⟩ (by decide) rfl rfl (Nat.le_of_ble_eq_true rfl) (nxI (fun r10_ τ10 h => ?_))
    exact aw_zret (pc := 13) rfl (isZ_n h.1) dX4_takeNumber_13 ⟨_, rfl, h.2⟩
