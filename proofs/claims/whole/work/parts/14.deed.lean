def b_X1_readNumbers_2 (x1 : Int32) (x2 : Int32)  (K : Int32 → Sg → Prop) : Nat → Int32 → Sg → Prop
  | 0, _, _ => False
  | n + 1, y3, σ =>
  br (x2 ≤ y3) (K 1 σ) (wp_X4_takeNumber 54 335 (x1 + y3) 0 99999 σ <| fun r21_ τ21 => (br (r21_ = 0) (K 0 τ21) (∀ v29 : Int32, v29 = y3 + 1 → (b_X1_readNumbers_2 x1 x2  K n v29 τ21))))
set_option maxRecDepth 20000 in
set_option maxHeartbeats 2000000 in
theorem bt_X1_readNumbers_2 (l : Launch) (x1 : Int32) (x2 : Int32) {K : Int32 → Sg → Prop}   : ∀ (n : Nat) (y3 : Int32)  (σ : Sg), b_X1_readNumbers_2 x1 x2  K n y3 σ → AV l RX1 cX1_readNumbers 4 (some .boolean) 3 (qI K) 2 [(0, .ref 53), (1, .int x1), (2, .int x2), (3, .int y3)] [] σ := by
  intro n
  induction n with
  | zero => intro y3 σ h; exact h.elim
  | succ n ih =>
    intro y3 σ h
    refine aw_iload_n (pc := 2) 3 dX1_readNumbers_2 rfl ?_
    refine aw_iload_n (pc := 3) 2 dX1_readNumbers_3 rfl ?_
    refine aw_icmp_ge (pc := 4) 35 dX1_readNumbers_4 (by decide) (fun q => ?_) (fun q => ?_)
    · have h := h.1 q
      refine aw_iconst (pc := 35) 1 dX1_readNumbers_35 (by decide) ?_
      exact aw_zret (pc := 36) rfl rfl dX1_readNumbers_36 ⟨_, rfl, h⟩
    · have h := h.2 q
      refine aw_aload_n (pc := 7) 0 dX1_readNumbers_7 rfl ?_
      refine aw_getR (pc := 8) 0 kcX1 dX1_readNumbers_8 lfX1_15 nn_53 ki_53 (by decide) rfl rf_53_0 ?_
      refine aw_aload_n (pc := 11) 0 dX1_readNumbers_11 rfl ?_
      refine aw_getR (pc := 12) 1 kcX1 dX1_readNumbers_12 lfX1_9 nn_53 ki_53 (by decide) rfl rf_53_1 ?_
      refine aw_iload_n (pc := 15) 1 dX1_readNumbers_15 rfl ?_
      refine aw_iload_n (pc := 16) 3 dX1_readNumbers_16 rfl ?_
      refine aw_iadd (pc := 17) dX1_readNumbers_17 ?_
      refine aw_iconst (pc := 18) 0 dX1_readNumbers_18 (by decide) ?_
      refine aw_ldc (pc := 19) 99999 dX1_readNumbers_19 lcX1_59 ?_
      refine aw_callVN (pc := 21) (As := [.ref 54, .int (x1 + y3), .int 0, .int 99999]) (rest := []) kcX4 nn_1 ki_1 rfl (ev_X4_takeNumber l 54 335 ao_54 (x1 + y3) 0 99999 h) mfX4_takeNumber dX1_readNumbers_21 lmnX1_60 ⟨Nat.le_refl _, Nat.le_refl _⟩ (by decide) rfl rfl (Nat.le_of_ble_eq_true rfl) (nxI (fun r21_ τ21 h => ?_))
      refine aw_if_ne (pc := 24) 29 dX1_readNumbers_24 (by decide) (fun q => ?_) (fun q => ?_)
      · have h := h.2 q
        obtain ⟨v29, ev29⟩ : ∃ v : Int32, v = y3 + 1 := ⟨_, rfl⟩
        have h := h v29 ev29
        refine aw_iinc (pc := 29) 3 v29 [(3, .int v29), (0, .ref 53), (1, .int x1), (2, .int x2)] dX1_readNumbers_29 rfl (by rw [ev29]; rfl) (by decide) rfl ?_
        refine aw_goto (pc := 32) 2 dX1_readNumbers_32 (by decide) ?_
        refine aw_sub (L' := [(0, .ref 53), (1, .int x1), (2, .int x2), (3, .int v29)]) [1, 2, 3, 0] rfl ?_
        exact ih v29  _ h
      · have h := h.1 q
        refine aw_iconst (pc := 27) 0 dX1_readNumbers_27 (by decide) ?_
        exact aw_zret (pc := 28) rfl rfl dX1_readNumbers_28 ⟨_, rfl, h⟩
def wp_X1_readNumbers (x1 : Int32) (x2 : Int32) (σ : Sg) (K : Int32 → Sg → Prop) : Prop :=
  ∃ nf, b_X1_readNumbers_2 x1 x2  K nf 0 σ
set_option maxRecDepth 20000 in
set_option maxHeartbeats 2000000 in
theorem ev_X1_readNumbers (l : Launch) (x1 : Int32) (x2 : Int32) {σ : Sg} {K : Int32 → Sg → Prop} (h : wp_X1_readNumbers x1 x2 σ K) : Ev l yX1_readNumbers cX1_readNumbers 4 (some .boolean) 3 [.ref 53, .int x1, .int x2] σ (qI K) := by
  refine ev_ov (by decide) (Nat.le_of_ble_eq_true rfl) ?_
  show AV l RX1 cX1_readNumbers 4 (some .boolean) 3 (qI K) 0 [(0, .ref 53), (1, .int x1), (2, .int x2)] [] σ
  refine aw_iconst (pc := 0) 0 dX1_readNumbers_0 (by decide) ?_
  refine aw_istore_n (pc := 1) (i := 3) [(3, .int 0), (0, .ref 53), (1, .int x1), (2, .int x2)] dX1_readNumbers_1 rfl (by decide) rfl ?_
  refine aw_sub (L' := [(0, .ref 53), (1, .int x1), (2, .int x2), (3, .int 0)]) [1, 2, 3, 0] rfl ?_
  obtain ⟨nf, h⟩ := h
  exact bt_X1_readNumbers_2 l x1 x2   nf 0  _ h
def wp_X1_readWon (x1 : Int32) (σ : Sg) (K : Int32 → Sg → Prop) : Prop :=
  wp_X4_takeWord 2 σ <| fun r6_ τ6 => (br (r6_ = 0) (wp_X4_takeWord 11 τ6 <| fun r27_ τ27 => (br (r27_ = 0) (vp_in x1 335 ∧ (∀ τ48 : Sg, τ48 = up τ27 54 x1.toNatClampNeg 2 → (wp_X4_takeWord 12 τ48 <| fun r55_ τ55 => (br (r55_ = 0) (wp_X4_refuse 1 τ55 <| fun r66_ τ66 => (br (r66_ = 0) (K 0 τ66) (K 1 τ66))) (K 1 τ55))))) (vp_in x1 335 ∧ (∀ τ39 : Sg, τ39 = up τ27 54 x1.toNatClampNeg 1 → (K 1 τ39))))) (vp_in x1 335 ∧ (∀ τ18 : Sg, τ18 = up τ6 54 x1.toNatClampNeg 0 → (K 1 τ18))))
set_option maxRecDepth 20000 in
set_option maxHeartbeats 2000000 in
theorem ev_X1_readWon (l : Launch) (x1 : Int32) {σ : Sg} {K : Int32 → Sg → Prop} (h : wp_X1_readWon x1 σ K) : Ev l yX1_readWon cX1_readWon 2 (some .boolean) 7 [.ref 53, .int x1] σ (qI K) := by
  refine ev_ov (by decide) (Nat.le_of_ble_eq_true rfl) ?_
  show AV l RX1 cX1_readWon 2 (some .boolean) 7 (qI K) 0 [(0, .ref 53), (1, .int x1)] [] σ
  refine aw_aload_n (pc := 0) 0 dX1_readWon_0 rfl ?_
  refine aw_getR (pc := 1) 0 kcX1 dX1_readWon_1 lfX1_15 nn_53 ki_53 (by decide) rfl rf_53_0 ?_
  refine aw_ldcS (pc := 4) 2 (by decide) dX1_readWon_4 lsX1_64 ?_
  refine aw_callVN (pc := 6) (As := [.retAddr 2]) (rest := []) kcX4 nn_1 ki_1 rfl (ev_X4_takeWord l 2 (by decide) (by decide) h) mfX4_takeWord dX1_readWon_6 lmnX1_44 ⟨Nat.le_refl _, Nat.le_refl _⟩ (by decide) rfl rfl (Nat.le_of_ble_eq_true rfl) (nxI (fun r6_ τ6 h => ?_))
  refine aw_if_eq (pc := 9) 21 dX1_readWon_9 (by decide) (fun q => ?_) (fun q => ?_)
  · have h := h.1 q
    refine aw_aload_n (pc := 21) 0 dX1_readWon_21 rfl ?_
    refine aw_getR (pc := 22) 0 kcX1 dX1_readWon_22 lfX1_15 nn_53 ki_53 (by decide) rfl rf_53_0 ?_
    refine aw_ldcS (pc := 25) 11 (by decide) dX1_readWon_25 lsX1_66 ?_
    refine aw_callVN (pc := 27) (As := [.retAddr 11]) (rest := []) kcX4 nn_1 ki_1 rfl (ev_X4_takeWord l 11 (by decide) (by decide) h) mfX4_takeWord dX1_readWon_27 lmnX1_44 ⟨Nat.le_refl _, Nat.le_refl _⟩ (by decide) rfl rfl (Nat.le_of_ble_eq_true rfl) (nxI (fun r27_ τ27 h => ?_))
    refine aw_if_eq (pc := 30) 42 dX1_readWon_30 (by decide) (fun q => ?_) (fun q => ?_)
    · have h := h.1 q
      refine aw_aload_n (pc := 42) 0 dX1_readWon_42 rfl ?_
      refine aw_getR (pc := 43) 1 kcX1 dX1_readWon_43 lfX1_9 nn_53 ki_53 (by decide) rfl rf_53_1 ?_
      refine aw_iload_n (pc := 46) 1 dX1_readWon_46 rfl ?_
      refine aw_iconst (pc := 47) 2 dX1_readWon_47 (by decide) ?_
      refine aw_iast (pc := 48) (j := x1.toNatClampNeg) (v := 2) dX1_readWon_48 nn_54 ki_54 ln_54 h.1 rfl rfl ?_
      have h := h.2
      refine aw_tops (fun τ48 eτ48 => ?_)
      have h := h τ48 eτ48
      refine aw_aload_n (pc := 49) 0 dX1_readWon_49 rfl ?_
      refine aw_getR (pc := 50) 0 kcX1 dX1_readWon_50 lfX1_15 nn_53 ki_53 (by decide) rfl rf_53_0 ?_
      refine aw_ldcS (pc := 53) 12 (by decide) dX1_readWon_53 lsX1_68 ?_
      refine aw_callVN (pc := 55) (As := [.retAddr 12]) (rest := []) kcX4 nn_1 ki_1 rfl (ev_X4_takeWord l 12 (by decide) (by decide) h) mfX4_takeWord dX1_readWon_55 lmnX1_44 ⟨Nat.le_refl _, Nat.le_refl _⟩ (by decide) rfl rfl (Nat.le_of_ble_eq_true rfl) (nxI (fun r55_ τ55 h => ?_))
      refine aw_if_ne (pc := 58) 72 dX1_readWon_58 (by decide) (fun q => ?_) (fun q => ?_)
      · have h := h.2 q
        refine aw_iconst (pc := 72) 1 dX1_readWon_72 (by decide) ?_
        refine aw_goto (pc := 73) 77 dX1_readWon_73 (by decide) ?_
        exact aw_zret (pc := 77) rfl rfl dX1_readWon_77 ⟨_, rfl, h⟩
      · have h := h.1 q
        refine aw_aload_n (pc := 61) 0 dX1_readWon_61 rfl ?_
        refine aw_getR (pc := 62) 0 kcX1 dX1_readWon_62 lfX1_15 nn_53 ki_53 (by decide) rfl rf_53_0 ?_
        refine aw_iconst (pc := 65) 1 dX1_readWon_65 (by decide) ?_
        refine aw_callVN (pc := 66) (As := [.int 1]) (rest := []) kcX4 nn_1 ki_1 rfl (ev_X4_refuse l 1 h) mfX4_refuse dX1_readWon_66 lmnX1_39 ⟨Nat.le_refl _, Nat.le_refl _⟩ (by decide) rfl rfl (Nat.le_of_ble_eq_true rfl) (nxI (fun r66_ τ66 h => ?_))
        refine aw_if_eq (pc := 69) 76 dX1_readWon_69 (by decide) (fun q => ?_) (fun q => ?_)
        · have h := h.1 q
          refine aw_iconst (pc := 76) 0 dX1_readWon_76 (by decide) ?_
          exact aw_zret (pc := 77) rfl rfl dX1_readWon_77 ⟨_, rfl, h⟩
        · have h := h.2 q
          refine aw_iconst (pc := 72) 1 dX1_readWon_72 (by decide) ?_
          refine aw_goto (pc := 73) 77 dX1_readWon_73 (by decide) ?_
          exact aw_zret (pc := 77) rfl rfl dX1_readWon_77 ⟨_, rfl, h⟩
    · have h := h.2 q
      refine aw_aload_n (pc := 33) 0 dX1_readWon_33 rfl ?_
      refine aw_getR (pc := 34) 1 kcX1 dX1_readWon_34 lfX1_9 nn_53 ki_53 (by decide) rfl rf_53_1 ?_
      refine aw_iload_n (pc := 37) 1 dX1_readWon_37 rfl ?_
      refine aw_iconst (pc := 38) 1 dX1_readWon_38 (by decide) ?_
      refine aw_iast (pc := 39) (j := x1.toNatClampNeg) (v := 1) dX1_readWon_39 nn_54 ki_54 ln_54 h.1 rfl rfl ?_
      have h := h.2
      refine aw_tops (fun τ39 eτ39 => ?_)
      have h := h τ39 eτ39
      refine aw_iconst (pc := 40) 1 dX1_readWon_40 (by decide) ?_
      exact aw_zret (pc := 41) rfl rfl dX1_readWon_41 ⟨_, rfl, h⟩
  · have h := h.2 q
    refine aw_aload_n (pc := 12) 0 dX1_readWon_12 rfl ?_
    refine aw_getR (pc := 13) 1 kcX1 dX1_readWon_13 lfX1_9 nn_53 ki_53 (by decide) rfl rf_53_1 ?_
    refine aw_iload_n (pc := 16) 1 dX1_readWon_16 rfl ?_
    refine aw_iconst (pc := 17) 0 dX1_readWon_17 (by decide) ?_
    refine aw_iast (pc := 18) (j := x1.toNatClampNeg) (v := 0) dX1_readWon_18 nn_54 ki_54 ln_54 h.1 rfl rfl ?_
    have h := h.2
    refine aw_tops (fun τ18 eτ18 => ?_)
    have h := h τ18 eτ18
    refine aw_iconst (pc := 19) 1 dX1_readWon_19 (by decide) ?_
    exact aw_zret (pc := 20) rfl rfl dX1_readWon_20 ⟨_, rfl, h⟩
def wp_X1_readDeed (x1 : Int32) (σ : Sg) (K : Int32 → Sg → Prop) : Prop :=
  wp_X4_takeWord 9 σ <| fun r6_ τ6 => (br (r6_ = 0) (wp_X4_takeWord 10 τ6 <| fun r34_ τ34 => (br (r34_ = 0) (wp_X4_takeWord 13 τ34 <| fun r80_ τ80 => (br (r80_ = 0) (wp_X4_refuse 1 τ80 <| fun r107_ τ107 => (isZ r107_ ∧ K r107_ τ107)) (vp_in x1 335 ∧ (∀ τ92 : Sg, τ92 = up τ80 54 x1.toNatClampNeg 2 → (wp_X1_readNumbers (x1 + 1) 2 τ92 <| fun r98_ τ98 => (isZ r98_ ∧ K r98_ τ98)))))) (vp_in x1 335 ∧ (∀ τ46 : Sg, τ46 = up τ34 54 x1.toNatClampNeg 1 → (wp_X1_readNumbers (x1 + 1) 2 τ46 <| fun r52_ τ52 => (br (r52_ = 0) (K 0 τ52) (wp_X1_readWon (x1 + 3) τ52 <| fun r62_ τ62 => (br (r62_ = 0) (K 0 τ62) (K 1 τ62))))))))) (vp_in x1 335 ∧ (∀ τ18 : Sg, τ18 = up τ6 54 x1.toNatClampNeg 0 → (wp_X1_readNumbers (x1 + 1) 4 τ18 <| fun r24_ τ24 => (isZ r24_ ∧ K r24_ τ24)))))
set_option maxRecDepth 20000 in
set_option maxHeartbeats 2000000 in
theorem ev_X1_readDeed (l : Launch) (x1 : Int32) {σ : Sg} {K : Int32 → Sg → Prop} (h : wp_X1_readDeed x1 σ K) : Ev l yX1_readDeed cX1_readDeed 2 (some .boolean) 8 [.ref 53, .int x1] σ (qI K) := by
  refine ev_ov (by decide) (Nat.le_of_ble_eq_true rfl) ?_
  show AV l RX1 cX1_readDeed 2 (some .boolean) 8 (qI K) 0 [(0, .ref 53), (1, .int x1)] [] σ
  refine aw_aload_n (pc := 0) 0 dX1_readDeed_0 rfl ?_
  refine aw_getR (pc := 1) 0 kcX1 dX1_readDeed_1 lfX1_15 nn_53 ki_53 (by decide) rfl rf_53_0 ?_
  refine aw_ldcS (pc := 4) 9 (by decide) dX1_readDeed_4 lsX1_42 ?_
  refine aw_callVN (pc := 6) (As := [.retAddr 9]) (rest := []) kcX4 nn_1 ki_1 rfl (ev_X4_takeWord l 9 (by decide) (by decide) h) mfX4_takeWord dX1_readDeed_6 lmnX1_44 ⟨Nat.le_refl _, Nat.le_refl _⟩ (by decide) rfl rfl (Nat.le_of_ble_eq_true rfl) (nxI (fun r6_ τ6 h => ?_))
  refine aw_if_eq (pc := 9) 28 dX1_readDeed_9 (by decide) (fun q => ?_) (fun q => ?_)
  · have h := h.1 q
    refine aw_aload_n (pc := 28) 0 dX1_readDeed_28 rfl ?_
    refine aw_getR (pc := 29) 0 kcX1 dX1_readDeed_29 lfX1_15 nn_53 ki_53 (by decide) rfl rf_53_0 ?_
    refine aw_ldcS (pc := 32) 10 (by decide) dX1_readDeed_32 lsX1_52 ?_
    refine aw_callVN (pc := 34) (As := [.retAddr 10]) (rest := []) kcX4 nn_1 ki_1 rfl (ev_X4_takeWord l 10 (by decide) (by decide) h) mfX4_takeWord dX1_readDeed_34 lmnX1_44 ⟨Nat.le_refl _, Nat.le_refl _⟩ (by decide) rfl rfl (Nat.le_of_ble_eq_true rfl) (nxI (fun r34_ τ34 h => ?_))
    refine aw_if_eq (pc := 37) 74 dX1_readDeed_37 (by decide) (fun q => ?_) (fun q => ?_)
    · have h := h.1 q
      refine aw_aload_n (pc := 74) 0 dX1_readDeed_74 rfl ?_
      refine aw_getR (pc := 75) 0 kcX1 dX1_readDeed_75 lfX1_15 nn_53 ki_53 (by decide) rfl rf_53_0 ?_
      refine aw_ldcS (pc := 78) 13 (by decide) dX1_readDeed_78 lsX1_57 ?_
      refine aw_callVN (pc := 80) (As := [.retAddr 13]) (rest := []) kcX4 nn_1 ki_1 rfl (ev_X4_takeWord l 13 (by decide) (by decide) h) mfX4_takeWord dX1_readDeed_80 lmnX1_44 ⟨Nat.le_refl _, Nat.le_refl _⟩ (by decide) rfl rfl (Nat.le_of_ble_eq_true rfl) (nxI (fun r80_ τ80 h => ?_))
      refine aw_if_eq (pc := 83) 102 dX1_readDeed_83 (by decide) (fun q => ?_) (fun q => ?_)
      · have h := h.1 q
        refine aw_aload_n (pc := 102) 0 dX1_readDeed_102 rfl ?_
        refine aw_getR (pc := 103) 0 kcX1 dX1_readDeed_103 lfX1_15 nn_53 ki_53 (by decide) rfl rf_53_0 ?_
        refine aw_iconst (pc := 106) 1 dX1_readDeed_106 (by decide) ?_
        refine aw_callVN (pc := 107) (As := [.int 1]) (rest := []) kcX4 nn_1 ki_1 rfl (ev_X4_refuse l 1 h) mfX4_refuse dX1_readDeed_107 lmnX1_39 ⟨Nat.le_refl _, Nat.le_refl _⟩ (by decide) rfl rfl (Nat.le_of_ble_eq_true rfl) (nxI (fun r107_ τ107 h => ?_))
        exact aw_zret (pc := 110) rfl (isZ_n h.1) dX1_readDeed_110 ⟨_, rfl, h.2⟩
      · have h := h.2 q
        refine aw_aload_n (pc := 86) 0 dX1_readDeed_86 rfl ?_
        refine aw_getR (pc := 87) 1 kcX1 dX1_readDeed_87 lfX1_9 nn_53 ki_53 (by decide) rfl rf_53_1 ?_
        refine aw_iload_n (pc := 90) 1 dX1_readDeed_90 rfl ?_
        refine aw_iconst (pc := 91) 2 dX1_readDeed_91 (by decide) ?_
        refine aw_iast (pc := 92) (j := x1.toNatClampNeg) (v := 2) dX1_readDeed_92 nn_54 ki_54 ln_54 h.1 rfl rfl ?_
        have h := h.2
        refine aw_tops (fun τ92 eτ92 => ?_)
        have h := h τ92 eτ92
        refine aw_aload_n (pc := 93) 0 dX1_readDeed_93 rfl ?_
        refine aw_iload_n (pc := 94) 1 dX1_readDeed_94 rfl ?_
        refine aw_iconst (pc := 95) 1 dX1_readDeed_95 (by decide) ?_
        refine aw_iadd (pc := 96) dX1_readDeed_96 ?_
        refine aw_iconst (pc := 97) 2 dX1_readDeed_97 (by decide) ?_
        refine aw_callV (pc := 98) (As := [.int (x1 + 1), .int 2]) (rest := []) kcX1 nn_53 ki_53 rfl (ev_X1_readNumbers l (x1 + 1) 2 h) mfX1_readNumbers dX1_readDeed_98 lmX1_48 ⟨Nat.le_refl _, Nat.le_refl _⟩ (by decide) rfl rfl (Nat.le_of_ble_eq_true rfl) (nxI (fun r98_ τ98 h => ?_))
        exact aw_zret (pc := 101) rfl (isZ_n h.1) dX1_readDeed_101 ⟨_, rfl, h.2⟩
    · have h := h.2 q
      refine aw_aload_n (pc := 40) 0 dX1_readDeed_40 rfl ?_
      refine aw_getR (pc := 41) 1 kcX1 dX1_readDeed_41 lfX1_9 nn_53 ki_53 (by decide) rfl rf_53_1 ?_
      refine aw_iload_n (pc := 44) 1 dX1_readDeed_44 rfl ?_
      refine aw_iconst (pc := 45) 1 dX1_readDeed_45 (by decide) ?_
      refine aw_iast (pc := 46) (j := x1.toNatClampNeg) (v := 1) dX1_readDeed_46 nn_54 ki_54 ln_54 h.1 rfl rfl ?_
      have h := h.2
      refine aw_tops (fun τ46 eτ46 => ?_)
      have h := h τ46 eτ46
      refine aw_aload_n (pc := 47) 0 dX1_readDeed_47 rfl ?_
      refine aw_iload_n (pc := 48) 1 dX1_readDeed_48 rfl ?_
      refine aw_iconst (pc := 49) 1 dX1_readDeed_49 (by decide) ?_
      refine aw_iadd (pc := 50) dX1_readDeed_50 ?_
      refine aw_iconst (pc := 51) 2 dX1_readDeed_51 (by decide) ?_
      refine aw_callV (pc := 52) (As := [.int (x1 + 1), .int 2]) (rest := []) kcX1 nn_53 ki_53 rfl (ev_X1_readNumbers l (x1 + 1) 2 h) mfX1_readNumbers dX1_readDeed_52 lmX1_48 ⟨Nat.le_refl _, Nat.le_refl _⟩ (by decide) rfl rfl (Nat.le_of_ble_eq_true rfl) (nxI (fun r52_ τ52 h => ?_))
      refine aw_if_eq (pc := 55) 72 dX1_readDeed_55 (by decide) (fun q => ?_) (fun q => ?_)
      · have h := h.1 q
        refine aw_iconst (pc := 72) 0 dX1_readDeed_72 (by decide) ?_
        exact aw_zret (pc := 73) rfl rfl dX1_readDeed_73 ⟨_, rfl, h⟩
      · have h := h.2 q
        refine aw_aload_n (pc := 58) 0 dX1_readDeed_58 rfl ?_
        refine aw_iload_n (pc := 59) 1 dX1_readDeed_59 rfl ?_
        refine aw_iconst (pc := 60) 3 dX1_readDeed_60 (by decide) ?_
        refine aw_iadd (pc := 61) dX1_readDeed_61 ?_
        refine aw_callV (pc := 62) (As := [.int (x1 + 3)]) (rest := []) kcX1 nn_53 ki_53 rfl (ev_X1_readWon l (x1 + 3) h) mfX1_readWon dX1_readDeed_62 lmX1_54 ⟨Nat.le_refl _, Nat.le_refl _⟩ (by decide) rfl rfl (Nat.le_of_ble_eq_true rfl) (nxI (fun r62_ τ62 h => ?_))
        refine aw_if_eq (pc := 65) 72 dX1_readDeed_65 (by decide) (fun q => ?_) (fun q => ?_)
        · have h := h.1 q
          refine aw_iconst (pc := 72) 0 dX1_readDeed_72 (by decide) ?_
          exact aw_zret (pc := 73) rfl rfl dX1_readDeed_73 ⟨_, rfl, h⟩
        · have h := h.2 q
          refine aw_iconst (pc := 68) 1 dX1_readDeed_68 (by decide) ?_
          refine aw_goto (pc := 69) 73 dX1_readDeed_69 (by decide) ?_
          exact aw_zret (pc := 73) rfl rfl dX1_readDeed_73 ⟨_, rfl, h⟩
  · have h := h.2 q
    refine aw_aload_n (pc := 12) 0 dX1_readDeed_12 rfl ?_
    refine aw_getR (pc := 13) 1 kcX1 dX1_readDeed_13 lfX1_9 nn_53 ki_53 (by decide) rfl rf_53_1 ?_
    refine aw_iload_n (pc := 16) 1 dX1_readDeed_16 rfl ?_
    refine aw_iconst (pc := 17) 0 dX1_readDeed_17 (by decide) ?_
    refine aw_iast (pc := 18) (j := x1.toNatClampNeg) (v := 0) dX1_readDeed_18 nn_54 ki_54 ln_54 h.1 rfl rfl ?_
    have h := h.2
    refine aw_tops (fun τ18 eτ18 => ?_)
    have h := h τ18 eτ18
    refine aw_aload_n (pc := 19) 0 dX1_readDeed_19 rfl ?_
    refine aw_iload_n (pc := 20) 1 dX1_readDeed_20 rfl ?_
    refine aw_iconst (pc := 21) 1 dX1_readDeed_21 (by decide) ?_
    refine aw_iadd (pc := 22) dX1_readDeed_22 ?_
    refine aw_iconst (pc := 23) 4 dX1_readDeed_23 (by decide) ?_
    refine aw_callV (pc := 24) (As := [.int (x1 + 1), .int 4]) (rest := []) kcX1 nn_53 ki_53 rfl (ev_X1_readNumbers l (x1 + 1) 4 h) mfX1_readNumbers dX1_readDeed_24 lmX1_48 ⟨Nat.le_refl _, Nat.le_refl _⟩ (by decide) rfl rfl (Nat.le_of_ble_eq_true rfl) (nxI (fun r24_ τ24 h => ?_))
    exact aw_zret (pc := 27) rfl (isZ_n h.1) dX1_readDeed_27 ⟨_, rfl, h.2⟩
def b_X1_readDeeds_77   (K : Int32 → Sg → Prop)  (σ : Sg) : Prop :=
  wp_X4_refuse 1 σ <| fun r82_ τ82 => (br (r82_ = 0) (K 0 τ82) (K 1 τ82))
set_option maxRecDepth 20000 in
set_option maxHeartbeats 2000000 in
theorem bt_X1_readDeeds_77 (l : Launch)  {K : Int32 → Sg → Prop}     (σ : Sg) (h : b_X1_readDeeds_77   K  σ) : AV l RX1 cX1_readDeeds 2 (some .boolean) 9 (qI K) 77 [(0, .ref 53)] [] σ := by
  refine aw_aload_n (pc := 77) 0 dX1_readDeeds_77 rfl ?_
  refine aw_getR (pc := 78) 0 kcX1 dX1_readDeeds_78 lfX1_15 nn_53 ki_53 (by decide) rfl rf_53_0 ?_
  refine aw_iconst (pc := 81) 1 dX1_readDeeds_81 (by decide) ?_
  refine aw_callVN (pc := 82) (As := [.int 1]) (rest := []) kcX4 nn_1 ki_1 rfl (ev_X4_refuse l 1 h) mfX4_refuse dX1_readDeeds_82 lmnX1_39 ⟨Nat.le_refl _, Nat.le_refl _⟩ (by decide) rfl rfl (Nat.le_of_ble_eq_true rfl) (nxI (fun r82_ τ82 h => ?_))
  refine aw_if_eq (pc := 85) 92 dX1_readDeeds_85 (by decide) (fun q => ?_) (fun q => ?_)
  · have h := h.1 q
    refine aw_iconst (pc := 92) 0 dX1_readDeeds_92 (by decide) ?_
    exact aw_zret (pc := 93) rfl rfl dX1_readDeeds_93 ⟨_, rfl, h⟩
  · have h := h.2 q
    refine aw_iconst (pc := 88) 1 dX1_readDeeds_88 (by decide) ?_
    refine aw_goto (pc := 89) 93 dX1_readDeeds_89 (by decide) ?_
    exact aw_zret (pc := 93) rfl rfl dX1_readDeeds_93 ⟨_, rfl, h⟩
def b_X1_readDeeds_63   (K : Int32 → Sg → Prop) (y1 : Int32) (σ : Sg) : Prop :=
  br ((σ 1 2) = 0) (br (y1 = 0) (K 1 σ) (b_X1_readDeeds_77   K  σ)) (b_X1_readDeeds_77   K  σ)
set_option maxRecDepth 20000 in
set_option maxHeartbeats 2000000 in
theorem bt_X1_readDeeds_63 (l : Launch)  {K : Int32 → Sg → Prop}   (y1 : Int32)  (σ : Sg) (h : b_X1_readDeeds_63   K y1 σ) : AV l RX1 cX1_readDeeds 2 (some .boolean) 9 (qI K) 63 [(0, .ref 53), (1, .int y1)] [] σ := by
  refine aw_aload_n (pc := 63) 0 dX1_readDeeds_63 rfl ?_
  refine aw_getR (pc := 64) 0 kcX1 dX1_readDeeds_64 lfX1_15 nn_53 ki_53 (by decide) rfl rf_53_0 ?_
  refine aw_getIN (pc := 67) 2 kcX4 dX1_readDeeds_67 lfnX1_36 nn_1 ki_1 (by decide) rfl ?_
  refine aw_if_ne (pc := 70) 77 dX1_readDeeds_70 (by decide) (fun q => ?_) (fun q => ?_)
  · have h := h.2 q
    refine aw_sub (L' := [(0, .ref 53)]) [0] rfl ?_
    exact bt_X1_readDeeds_77 l      _ h
  · have h := h.1 q
    refine aw_iload_n (pc := 73) 1 dX1_readDeeds_73 rfl ?_
    refine aw_if_eq (pc := 74) 88 dX1_readDeeds_74 (by decide) (fun q => ?_) (fun q => ?_)
    · have h := h.1 q
      refine aw_iconst (pc := 88) 1 dX1_readDeeds_88 (by decide) ?_
      refine aw_goto (pc := 89) 93 dX1_readDeeds_89 (by decide) ?_
      exact aw_zret (pc := 93) rfl rfl dX1_readDeeds_93 ⟨_, rfl, h⟩
    · have h := h.2 q
      refine aw_sub (L' := [(0, .ref 53)]) [0] rfl ?_
      exact bt_X1_readDeeds_77 l      _ h
def b_X1_readDeeds_14   (K : Int32 → Sg → Prop) : Nat → Int32 → Sg → Prop
  | 0, _, _ => False
  | n + 1, y1, σ =>
  br (67 ≤ (σ 53 2)) (b_X1_readDeeds_63   K y1 σ) (br (y1 = 0) (b_X1_readDeeds_63   K y1 σ) (wp_X1_readDeed ((σ 53 2) * 5) σ <| fun r34_ τ34 => (br (r34_ = 0) (K 0 τ34) (wp_X4_takeSeparator  τ34 <| fun r46_ τ46 => (∀ τ57 : Sg, τ57 = up τ46 53 2 ((τ46 53 2) + 1) → (b_X1_readDeeds_14   K n r46_ τ57))))))
set_option maxRecDepth 20000 in
set_option maxHeartbeats 2000000 in
theorem bt_X1_readDeeds_14 (l : Launch)  {K : Int32 → Sg → Prop}   : ∀ (n : Nat) (y1 : Int32)  (σ : Sg), b_X1_readDeeds_14   K n y1 σ → AV l RX1 cX1_readDeeds 2 (some .boolean) 9 (qI K) 14 [(0, .ref 53), (1, .int y1)] [] σ := by
  intro n
  induction n with
  | zero => intro y1 σ h; exact h.elim
  | succ n ih =>
    intro y1 σ h
    refine aw_aload_n (pc := 14) 0 dX1_readDeeds_14 rfl ?_
    refine aw_getI (pc := 15) 2 kcX1 dX1_readDeeds_15 lfX1_24 nn_53 ki_53 (by decide) rfl ?_
    refine aw_bipush (pc := 18) 67 dX1_readDeeds_18 (by decide) ?_
    refine aw_icmp_ge (pc := 20) 63 dX1_readDeeds_20 (by decide) (fun q => ?_) (fun q => ?_)
    · have h := h.1 q
      exact bt_X1_readDeeds_63 l    y1  _ h
    · have h := h.2 q
      refine aw_iload_n (pc := 23) 1 dX1_readDeeds_23 rfl ?_
      refine aw_if_eq (pc := 24) 63 dX1_readDeeds_24 (by decide) (fun q => ?_) (fun q => ?_)
      · have h := h.1 q
        exact bt_X1_readDeeds_63 l    y1  _ h
      · have h := h.2 q
        refine aw_aload_n (pc := 27) 0 dX1_readDeeds_27 rfl ?_
        refine aw_aload_n (pc := 28) 0 dX1_readDeeds_28 rfl ?_
        refine aw_getI (pc := 29) 2 kcX1 dX1_readDeeds_29 lfX1_24 nn_53 ki_53 (by decide) rfl ?_
        refine aw_iconst (pc := 32) 5 dX1_readDeeds_32 (by decide) ?_
        refine aw_imul (pc := 33) dX1_readDeeds_33 ?_
        refine aw_callV (pc := 34) (As := [.int ((σ 53 2) * 5)]) (rest := []) kcX1 nn_53 ki_53 rfl (ev_X1_readDeed l ((σ 53 2) * 5) h) mfX1_readDeed dX1_readDeeds_34 lmX1_28 ⟨Nat.le_refl _, Nat.le_refl _⟩ (by decide) rfl rfl (Nat.le_of_ble_eq_true rfl) (nxI (fun r34_ τ34 h => ?_))
        refine aw_if_ne (pc := 37) 42 dX1_readDeeds_37 (by decide) (fun q => ?_) (fun q => ?_)
        · have h := h.2 q
          refine aw_aload_n (pc := 42) 0 dX1_readDeeds_42 rfl ?_
          refine aw_getR (pc := 43) 0 kcX1 dX1_readDeeds_43 lfX1_15 nn_53 ki_53 (by decide) rfl rf_53_0 ?_
          refine aw_callVN (pc := 46) (As := []) (rest := []) kcX4 nn_1 ki_1 rfl (ev_X4_takeSeparator l  h) mfX4_takeSeparator dX1_readDeeds_46 lmnX1_32 ⟨Nat.le_refl _, Nat.le_refl _⟩ (by decide) rfl rfl (Nat.le_of_ble_eq_true rfl) (nxI (fun r46_ τ46 h => ?_))
          refine aw_istore_n (pc := 49) (i := 1) [(1, .int r46_), (0, .ref 53)] dX1_readDeeds_49 rfl (by decide) rfl ?_
          refine aw_aload_n (pc := 50) 1 dX1_readDeeds_50 rfl ?_
          refine aw_dup (pc := 51) dX1_readDeeds_51 rfl ?_
          refine aw_getI (pc := 52) 2 kcX1 dX1_readDeeds_52 lfX1_24 nn_53 ki_53 (by decide) rfl ?_
          refine aw_iconst (pc := 55) 1 dX1_readDeeds_55 (by decide) ?_
          refine aw_iadd (pc := 56) dX1_readDeeds_56 ?_
          refine aw_put (pc := 57) 2 kcX1 dX1_readDeeds_57 lfX1_24 nn_53 ki_53 (by decide) rfl rfl rfl rfl ?_
          refine aw_tops (fun τ57 eτ57 => ?_)
          have h := h τ57 eτ57
          refine aw_goto (pc := 60) 14 dX1_readDeeds_60 (by decide) ?_
          refine aw_sub (L' := [(0, .ref 53), (1, .int r46_)]) [1, 0] rfl ?_
          exact ih r46_  _ h
        · have h := h.1 q
          refine aw_iconst (pc := 40) 0 dX1_readDeeds_40 (by decide) ?_
          exact aw_zret (pc := 41) rfl rfl dX1_readDeeds_41 ⟨_, rfl, h⟩
def wp_X1_readDeeds  (σ : Sg) (K : Int32 → Sg → Prop) : Prop :=
  wp_X4_rewind  σ <| fun τ4 => (∀ τ11 : Sg, τ11 = up τ4 53 2 0 → (∃ nf, b_X1_readDeeds_14   K nf 1 τ11))
set_option maxRecDepth 20000 in
set_option maxHeartbeats 2000000 in
theorem ev_X1_readDeeds (l : Launch)  {σ : Sg} {K : Int32 → Sg → Prop} (h : wp_X1_readDeeds  σ K) : Ev l yX1_readDeeds cX1_readDeeds 2 (some .boolean) 9 [.ref 53] σ (qI K) := by
  refine ev_ov (by decide) (Nat.le_of_ble_eq_true rfl) ?_
  show AV l RX1 cX1_readDeeds 2 (some .boolean) 9 (qI K) 0 [(0, .ref 53)] [] σ
  refine aw_aload_n (pc := 0) 0 dX1_readDeeds_0 rfl ?_
  refine aw_getR (pc := 1) 0 kcX1 dX1_readDeeds_1 lfX1_15 nn_53 ki_53 (by decide) rfl rf_53_0 ?_
  refine aw_callVN (pc := 4) (As := []) (rest := []) kcX4 nn_1 ki_1 rfl (ev_X4_rewind l  h) mfX4_rewind dX1_readDeeds_4 lmnX1_19 ⟨Nat.le_refl _, Nat.le_refl _⟩ (by decide) rfl rfl (Nat.le_of_ble_eq_true rfl) (nxV (fun τ4 h => ?_))
  refine aw_iconst (pc := 7) 1 dX1_readDeeds_7 (by decide) ?_
  refine aw_istore_n (pc := 8) (i := 1) [(1, .int 1), (0, .ref 53)] dX1_readDeeds_8 rfl (by decide) rfl ?_
  refine aw_aload_n (pc := 9) 1 dX1_readDeeds_9 rfl ?_
  refine aw_iconst (pc := 10) 0 dX1_readDeeds_10 (by decide) ?_
  refine aw_put (pc := 11) 2 kcX1 dX1_readDeeds_11 lfX1_24 nn_53 ki_53 (by decide) rfl rfl rfl rfl ?_
  refine aw_tops (fun τ11 eτ11 => ?_)
  have h := h τ11 eτ11
  refine aw_sub (L' := [(0, .ref 53), (1, .int 1)]) [1, 0] rfl ?_
  obtain ⟨nf, h⟩ := h
  exact bt_X1_readDeeds_14 l    nf 1  _ h
