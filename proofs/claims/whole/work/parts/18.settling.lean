def b_X7_gather_7 (k1 n1 : Nat) (x2 : Int32)  (K : Sg → Prop) : Nat → Int32 → Sg → Prop
  | 0, _, _ => False
  | n + 1, y3, σ =>
  br (x2 ≤ y3) (K σ) (vp_in y3 n1 ∧ (br ((σ k1 y3.toNatClampNeg) = 0) (∀ v40 : Int32, v40 = y3 + 1 → (b_X7_gather_7 k1 n1 x2  K n v40 σ)) (vp_in y3 n1 ∧ (vp_in (σ 227 0) 13 ∧ (∀ τ29 : Sg, τ29 = up σ 228 (σ 227 0).toNatClampNeg (σ k1 y3.toNatClampNeg) → (∀ τ37 : Sg, τ37 = up τ29 227 0 ((τ29 227 0) + 1) → (∀ v40 : Int32, v40 = y3 + 1 → (b_X7_gather_7 k1 n1 x2  K n v40 τ37))))))))
set_option maxRecDepth 20000 in
set_option maxHeartbeats 2000000 in
theorem bt_X7_gather_7 (l : Launch) (k1 n1 : Nat) (hk1 : aOk k1 n1) (x2 : Int32) {K : Sg → Prop}   : ∀ (n : Nat) (y3 : Int32)  (σ : Sg), b_X7_gather_7 k1 n1 x2  K n y3 σ → AV l RX7 cX7_gather 4 none 0 (qV K) 7 [(0, .ref 227), (1, .ref k1), (2, .int x2), (3, .int y3)] [] σ := by
  intro n
  induction n with
  | zero => intro y3 σ h; exact h.elim
  | succ n ih =>
    intro y3 σ h
    refine aw_iload_n (pc := 7) 3 dX7_gather_7 rfl ?_
    refine aw_iload_n (pc := 8) 2 dX7_gather_8 rfl ?_
    refine aw_icmp_ge (pc := 9) 46 dX7_gather_9 (by decide) (fun q => ?_) (fun q => ?_)
    · have h := h.1 q
      exact aw_vret (pc := 46) rfl dX7_gather_46 ⟨rfl, h⟩
    · have h := h.2 q
      refine aw_aload_n (pc := 12) 1 dX7_gather_12 rfl ?_
      refine aw_iload_n (pc := 13) 3 dX7_gather_13 rfl ?_
      refine aw_iald (pc := 14) (j := y3.toNatClampNeg) dX7_gather_14 hk1.1 hk1.2.1 hk1.2.2 h.1 rfl ?_
      have h := h.2
      refine aw_if_eq (pc := 15) 40 dX7_gather_15 (by decide) (fun q => ?_) (fun q => ?_)
      · have h := h.1 q
        obtain ⟨v40, ev40⟩ : ∃ v : Int32, v = y3 + 1 := ⟨_, rfl⟩
        have h := h v40 ev40
        refine aw_iinc (pc := 40) 3 v40 [(3, .int v40), (0, .ref 227), (1, .ref k1), (2, .int x2)] dX7_gather_40 rfl (by rw [ev40]; rfl) (by decide) rfl ?_
        refine aw_goto (pc := 43) 7 dX7_gather_43 (by decide) ?_
        refine aw_sub (L' := [(0, .ref 227), (1, .ref k1), (2, .int x2), (3, .int v40)]) [1, 2, 3, 0] rfl ?_
        exact ih v40  _ h
      · have h := h.2 q
        refine aw_aload_n (pc := 18) 0 dX7_gather_18 rfl ?_
        refine aw_getR (pc := 19) 1 kcX7 dX7_gather_19 lfX7_11 nn_227 ki_227 (by decide) rfl rf_227_1 ?_
        refine aw_aload_n (pc := 22) 0 dX7_gather_22 rfl ?_
        refine aw_getI (pc := 23) 0 kcX7 dX7_gather_23 lfX7_27 nn_227 ki_227 (by decide) rfl ?_
        refine aw_aload_n (pc := 26) 1 dX7_gather_26 rfl ?_
        refine aw_iload_n (pc := 27) 3 dX7_gather_27 rfl ?_
        refine aw_iald (pc := 28) (j := y3.toNatClampNeg) dX7_gather_28 hk1.1 hk1.2.1 hk1.2.2 h.1 rfl ?_
        have h := h.2
        refine aw_iast (pc := 29) (j := (σ 227 0).toNatClampNeg) (v := (σ k1 y3.toNatClampNeg)) dX7_gather_29 nn_228 ki_228 ln_228 h.1 rfl rfl ?_
        have h := h.2
        refine aw_tops (fun τ29 eτ29 => ?_)
        have h := h τ29 eτ29
        refine aw_aload_n (pc := 30) 0 dX7_gather_30 rfl ?_
        refine aw_dup (pc := 31) dX7_gather_31 rfl ?_
        refine aw_getI (pc := 32) 0 kcX7 dX7_gather_32 lfX7_27 nn_227 ki_227 (by decide) rfl ?_
        refine aw_iconst (pc := 35) 1 dX7_gather_35 (by decide) ?_
        refine aw_iadd (pc := 36) dX7_gather_36 ?_
        refine aw_put (pc := 37) 0 kcX7 dX7_gather_37 lfX7_27 nn_227 ki_227 (by decide) rfl rfl rfl rfl ?_
        refine aw_tops (fun τ37 eτ37 => ?_)
        have h := h τ37 eτ37
        obtain ⟨v40, ev40⟩ : ∃ v : Int32, v = y3 + 1 := ⟨_, rfl⟩
        have h := h v40 ev40
        refine aw_iinc (pc := 40) 3 v40 [(3, .int v40), (0, .ref 227), (1, .ref k1), (2, .int x2)] dX7_gather_40 rfl (by rw [ev40]; rfl) (by decide) rfl ?_
        refine aw_goto (pc := 43) 7 dX7_gather_43 (by decide) ?_
        refine aw_sub (L' := [(0, .ref 227), (1, .ref k1), (2, .int x2), (3, .int v40)]) [1, 2, 3, 0] rfl ?_
        exact ih v40  _ h
def wp_X7_gather (k1 n1 : Nat) (x2 : Int32) (σ : Sg) (K : Sg → Prop) : Prop :=
  ∀ τ2 : Sg, τ2 = up σ 227 0 0 → (∃ nf, b_X7_gather_7 k1 n1 x2  K nf 0 τ2)
set_option maxRecDepth 20000 in
set_option maxHeartbeats 2000000 in
theorem ev_X7_gather (l : Launch) (k1 n1 : Nat) (hk1 : aOk k1 n1) (x2 : Int32) {σ : Sg} {K : Sg → Prop} (h : wp_X7_gather k1 n1 x2 σ K) : Ev l yX7_gather cX7_gather 4 none 0 [.ref 227, .ref k1, .int x2] σ (qV K) := by
  refine ev_ov (by decide) (Nat.le_of_ble_eq_true rfl) ?_
  show AV l RX7 cX7_gather 4 none 0 (qV K) 0 [(0, .ref 227), (1, .ref k1), (2, .int x2)] [] σ
  refine aw_aload_n (pc := 0) 0 dX7_gather_0 rfl ?_
  refine aw_iconst (pc := 1) 0 dX7_gather_1 (by decide) ?_
  refine aw_put (pc := 2) 0 kcX7 dX7_gather_2 lfX7_27 nn_227 ki_227 (by decide) rfl rfl rfl rfl ?_
  refine aw_tops (fun τ2 eτ2 => ?_)
  have h := h τ2 eτ2
  refine aw_iconst (pc := 5) 0 dX7_gather_5 (by decide) ?_
  refine aw_istore_n (pc := 6) (i := 3) [(3, .int 0), (0, .ref 227), (1, .ref k1), (2, .int x2)] dX7_gather_6 rfl (by decide) rfl ?_
  refine aw_sub (L' := [(0, .ref 227), (1, .ref k1), (2, .int x2), (3, .int 0)]) [1, 2, 3, 0] rfl ?_
  obtain ⟨nf, h⟩ := h
  exact bt_X7_gather_7 l k1 n1 hk1 x2   nf 0  _ h
def b_X7_mostGroups_106  (B20 : Int32 → Int32 → Sg → Prop) (K : Int32 → Sg → Prop) (y1 : Int32) (y2 : Int32) (z0 : Int32) (z1 : Int32) (σ : Sg) : Prop :=
  vp_in z1 4096 ∧ (∀ τ106 : Sg, τ106 = up σ 229 z1.toNatClampNeg z0 → (∀ v107 : Int32, v107 = y2 + 1 → (B20 y1 v107 τ106)))
set_option maxRecDepth 20000 in
set_option maxHeartbeats 2000000 in
theorem bt_X7_mostGroups_106 (l : Launch)  {K : Int32 → Sg → Prop} (B20 : Int32 → Int32 → Sg → Prop) (hB20 : ∀ (y1 : Int32) (y2 : Int32)  (τ : Sg), B20 y1 y2 τ → AV l RX7 cX7_mostGroups 6 (some .int) 1 (qI K) 20 [(0, .ref 227), (1, .int y1), (2, .int y2)] [] τ) (y1 : Int32) (y2 : Int32) (z0 : Int32) (z1 : Int32)  (σ : Sg) (h : b_X7_mostGroups_106  B20 K y1 y2 z0 z1 σ) : AV l RX7 cX7_mostGroups 6 (some .int) 1 (qI K) 106 [(0, .ref 227), (1, .int y1), (2, .int y2)] [.int z0, .int z1, .ref 229] σ := by
  refine aw_iast (pc := 106) (j := z1.toNatClampNeg) (v := z0) dX7_mostGroups_106 nn_229 ki_229 ln_229 h.1 rfl rfl ?_
  have h := h.2
  refine aw_tops (fun τ106 eτ106 => ?_)
  have h := h τ106 eτ106
  obtain ⟨v107, ev107⟩ : ∃ v : Int32, v = y2 + 1 := ⟨_, rfl⟩
  have h := h v107 ev107
  refine aw_iinc (pc := 107) 2 v107 [(2, .int v107), (0, .ref 227), (1, .int y1)] dX7_mostGroups_107 rfl (by rw [ev107]; rfl) (by decide) rfl ?_
  refine aw_goto (pc := 110) 20 dX7_mostGroups_110 (by decide) ?_
  refine aw_sub (L' := [(0, .ref 227), (1, .int y1), (2, .int v107)]) [1, 2, 0] rfl ?_
  exact hB20 y1 v107  _ h
def b_X7_mostGroups_33  (B20 : Int32 → Int32 → Sg → Prop) (K : Int32 → Sg → Prop) : Nat → Int32 → Int32 → Int32 → Int32 → Int32 → Sg → Prop
  | 0, _, _, _, _, _, _ => False
  | n + 1, y1, y2, y3, y4, y5, σ =>
  br (((σ 227 0) - 1) ≤ y5) (br (y3 = 0) (b_X7_mostGroups_106  B20 K y1 y2 (y4 + 1) y2 σ) (b_X7_mostGroups_106  B20 K y1 y2 y4 y2 σ)) (br (((y2 >>> (y5 &&& 31)) &&& 1) = 1) (vp_in y5 13 ∧ (∀ v63 : Int32, v63 = y3 + (σ 228 y5.toNatClampNeg) → (vp_in (y2 ^^^ (1 <<< (y5 &&& 31))) 4096 ∧ (∀ v80 : Int32, v80 = (if y4 < (σ 229 (y2 ^^^ (1 <<< (y5 &&& 31))).toNatClampNeg) then (σ 229 (y2 ^^^ (1 <<< (y5 &&& 31))).toNatClampNeg) else y4) → (∀ v82 : Int32, v82 = y5 + 1 → (b_X7_mostGroups_33  B20 K n y1 y2 v63 v80 v82 σ)))))) (∀ v82 : Int32, v82 = y5 + 1 → (b_X7_mostGroups_33  B20 K n y1 y2 y3 y4 v82 σ)))
set_option maxRecDepth 20000 in
set_option maxHeartbeats 2000000 in
theorem bt_X7_mostGroups_33 (l : Launch)  {K : Int32 → Sg → Prop} (B20 : Int32 → Int32 → Sg → Prop) (hB20 : ∀ (y1 : Int32) (y2 : Int32)  (τ : Sg), B20 y1 y2 τ → AV l RX7 cX7_mostGroups 6 (some .int) 1 (qI K) 20 [(0, .ref 227), (1, .int y1), (2, .int y2)] [] τ) : ∀ (n : Nat) (y1 : Int32) (y2 : Int32) (y3 : Int32) (y4 : Int32) (y5 : Int32)  (σ : Sg), b_X7_mostGroups_33  B20 K n y1 y2 y3 y4 y5 σ → AV l RX7 cX7_mostGroups 6 (some .int) 1 (qI K) 33 [(0, .ref 227), (1, .int y1), (2, .int y2), (3, .int y3), (4, .int y4), (5, .int y5)] [] σ := by
  intro n
  induction n with
  | zero => intro y1 y2 y3 y4 y5 σ h; exact h.elim
  | succ n ih =>
    intro y1 y2 y3 y4 y5 σ h
    refine aw_iload (pc := 33) 5 dX7_mostGroups_33 rfl ?_
    refine aw_aload_n (pc := 35) 0 dX7_mostGroups_35 rfl ?_
    refine aw_getI (pc := 36) 0 kcX7 dX7_mostGroups_36 lfX7_27 nn_227 ki_227 (by decide) rfl ?_
    refine aw_iconst (pc := 39) 1 dX7_mostGroups_39 (by decide) ?_
    refine aw_isub (pc := 40) dX7_mostGroups_40 ?_
    refine aw_icmp_ge (pc := 41) 88 dX7_mostGroups_41 (by decide) (fun q => ?_) (fun q => ?_)
    · have h := h.1 q
      refine aw_aload_n (pc := 88) 0 dX7_mostGroups_88 rfl ?_
      refine aw_getR (pc := 89) 2 kcX7 dX7_mostGroups_89 lfX7_15 nn_227 ki_227 (by decide) rfl rf_227_2 ?_
      refine aw_iload_n (pc := 92) 2 dX7_mostGroups_92 rfl ?_
      refine aw_iload_n (pc := 93) 3 dX7_mostGroups_93 rfl ?_
      refine aw_if_ne (pc := 94) 104 dX7_mostGroups_94 (by decide) (fun q => ?_) (fun q => ?_)
      · have h := h.2 q
        refine aw_iload (pc := 104) 4 dX7_mostGroups_104 rfl ?_
        refine aw_sub (L' := [(0, .ref 227), (1, .int y1), (2, .int y2)]) [0, 1, 2] rfl ?_
        exact bt_X7_mostGroups_106 l  B20 hB20 y1 y2 y4 y2  _ h
      · have h := h.1 q
        refine aw_iload (pc := 97) 4 dX7_mostGroups_97 rfl ?_
        refine aw_iconst (pc := 99) 1 dX7_mostGroups_99 (by decide) ?_
        refine aw_iadd (pc := 100) dX7_mostGroups_100 ?_
        refine aw_goto (pc := 101) 106 dX7_mostGroups_101 (by decide) ?_
        refine aw_sub (L' := [(0, .ref 227), (1, .int y1), (2, .int y2)]) [0, 1, 2] rfl ?_
        exact bt_X7_mostGroups_106 l  B20 hB20 y1 y2 (y4 + 1) y2  _ h
    · have h := h.2 q
      refine aw_iload_n (pc := 44) 2 dX7_mostGroups_44 rfl ?_
      refine aw_iload (pc := 45) 5 dX7_mostGroups_45 rfl ?_
      refine aw_ishr (pc := 47) dX7_mostGroups_47 ?_
      refine aw_iconst (pc := 48) 1 dX7_mostGroups_48 (by decide) ?_
      refine aw_iand (pc := 49) dX7_mostGroups_49 ?_
      refine aw_iconst (pc := 50) 1 dX7_mostGroups_50 (by decide) ?_
      refine aw_icmp_ne (pc := 51) 82 dX7_mostGroups_51 (by decide) (fun q => ?_) (fun q => ?_)
      · have h := h.2 q
        obtain ⟨v82, ev82⟩ : ∃ v : Int32, v = y5 + 1 := ⟨_, rfl⟩
        have h := h v82 ev82
        refine aw_iinc (pc := 82) 5 v82 [(5, .int v82), (0, .ref 227), (1, .int y1), (2, .int y2), (3, .int y3), (4, .int y4)] dX7_mostGroups_82 rfl (by rw [ev82]; rfl) (by decide) rfl ?_
        refine aw_goto (pc := 85) 33 dX7_mostGroups_85 (by decide) ?_
        refine aw_sub (L' := [(0, .ref 227), (1, .int y1), (2, .int y2), (3, .int y3), (4, .int y4), (5, .int v82)]) [1, 2, 3, 4, 5, 0] rfl ?_
        exact ih y1 y2 y3 y4 v82  _ h
      · have h := h.1 q
        refine aw_iload_n (pc := 54) 3 dX7_mostGroups_54 rfl ?_
        refine aw_aload_n (pc := 55) 0 dX7_mostGroups_55 rfl ?_
        refine aw_getR (pc := 56) 1 kcX7 dX7_mostGroups_56 lfX7_11 nn_227 ki_227 (by decide) rfl rf_227_1 ?_
        refine aw_iload (pc := 59) 5 dX7_mostGroups_59 rfl ?_
        refine aw_iald (pc := 61) (j := y5.toNatClampNeg) dX7_mostGroups_61 nn_228 ki_228 ln_228 h.1 rfl ?_
        have h := h.2
        refine aw_iadd (pc := 62) dX7_mostGroups_62 ?_
        refine aw_topi (fun v63 ev63 => ?_)
        have h := h v63 ev63
        refine aw_istore_n (pc := 63) (i := 3) [(3, .int v63), (0, .ref 227), (1, .int y1), (2, .int y2), (4, .int y4), (5, .int y5)] dX7_mostGroups_63 rfl (by decide) rfl ?_
        refine aw_iload (pc := 64) 4 dX7_mostGroups_64 rfl ?_
        refine aw_aload_n (pc := 66) 1 dX7_mostGroups_66 rfl ?_
        refine aw_getR (pc := 67) 2 kcX7 dX7_mostGroups_67 lfX7_15 nn_227 ki_227 (by decide) rfl rf_227_2 ?_
        refine aw_iload_n (pc := 70) 3 dX7_mostGroups_70 rfl ?_
        refine aw_iconst (pc := 71) 1 dX7_mostGroups_71 (by decide) ?_
        refine aw_iload (pc := 72) 5 dX7_mostGroups_72 rfl ?_
        refine aw_ishl (pc := 74) dX7_mostGroups_74 ?_
        refine aw_ixor (pc := 75) dX7_mostGroups_75 ?_
        refine aw_iald (pc := 76) (j := (y2 ^^^ (1 <<< (y5 &&& 31))).toNatClampNeg) dX7_mostGroups_76 nn_229 ki_229 ln_229 h.1 rfl ?_
        have h := h.2
        refine aw_mmax (pc := 77) dX7_mostGroups_77 lmX7_31 lib_max.1 lib_max.2.1 lib_max.2.2 ⟨Nat.le_refl _, Nat.le_refl _⟩ (by decide) (Nat.le_of_ble_eq_true rfl) ?_
        refine aw_topi (fun v80 ev80 => ?_)
        have h := h v80 ev80
        refine aw_istore (pc := 80) [(4, .int v80), (3, .int v63), (0, .ref 227), (1, .int y1), (2, .int y2), (5, .int y5)] dX7_mostGroups_80 (by decide) rfl ?_
        obtain ⟨v82, ev82⟩ : ∃ v : Int32, v = y5 + 1 := ⟨_, rfl⟩
        have h := h v82 ev82
        refine aw_iinc (pc := 82) 5 v82 [(5, .int v82), (4, .int v80), (3, .int v63), (0, .ref 227), (1, .int y1), (2, .int y2)] dX7_mostGroups_82 rfl (by rw [ev82]; rfl) (by decide) rfl ?_
        refine aw_goto (pc := 85) 33 dX7_mostGroups_85 (by decide) ?_
        refine aw_sub (L' := [(0, .ref 227), (1, .int y1), (2, .int y2), (3, .int v63), (4, .int v80), (5, .int v82)]) [3, 4, 5, 2, 1, 0] rfl ?_
        exact ih y1 y2 v63 v80 v82  _ h
def b_X7_mostGroups_20   (K : Int32 → Sg → Prop) : Nat → Int32 → Int32 → Sg → Prop
  | 0, _, _, _ => False
  | n + 1, y1, y2, σ =>
  br (y1 ≤ y2) (vp_in (y1 - 1) 4096 ∧ (K ((σ 229 (y1 - 1).toNatClampNeg) + 1) σ)) (∃ nf, b_X7_mostGroups_33  (fun y1' y2' τ => b_X7_mostGroups_20   K n y1' y2' τ) K nf y1 y2 0 0 0 σ)
set_option maxRecDepth 20000 in
set_option maxHeartbeats 2000000 in
theorem bt_X7_mostGroups_20 (l : Launch)  {K : Int32 → Sg → Prop}   : ∀ (n : Nat) (y1 : Int32) (y2 : Int32)  (σ : Sg), b_X7_mostGroups_20   K n y1 y2 σ → AV l RX7 cX7_mostGroups 6 (some .int) 1 (qI K) 20 [(0, .ref 227), (1, .int y1), (2, .int y2)] [] σ := by
  intro n
  induction n with
  | zero => intro y1 y2 σ h; exact h.elim
  | succ n ih =>
    intro y1 y2 σ h
    refine aw_iload_n (pc := 20) 2 dX7_mostGroups_20 rfl ?_
    refine aw_iload_n (pc := 21) 1 dX7_mostGroups_21 rfl ?_
    refine aw_icmp_ge (pc := 22) 113 dX7_mostGroups_22 (by decide) (fun q => ?_) (fun q => ?_)
    · have h := h.1 q
      refine aw_aload_n (pc := 113) 0 dX7_mostGroups_113 rfl ?_
      refine aw_getR (pc := 114) 2 kcX7 dX7_mostGroups_114 lfX7_15 nn_227 ki_227 (by decide) rfl rf_227_2 ?_
      refine aw_iload_n (pc := 117) 1 dX7_mostGroups_117 rfl ?_
      refine aw_iconst (pc := 118) 1 dX7_mostGroups_118 (by decide) ?_
      refine aw_isub (pc := 119) dX7_mostGroups_119 ?_
      refine aw_iald (pc := 120) (j := (y1 - 1).toNatClampNeg) dX7_mostGroups_120 nn_229 ki_229 ln_229 h.1 rfl ?_
      have h := h.2
      refine aw_iconst (pc := 121) 1 dX7_mostGroups_121 (by decide) ?_
      refine aw_iadd (pc := 122) dX7_mostGroups_122 ?_
      exact aw_iret (pc := 123) rfl dX7_mostGroups_123 ⟨_, rfl, h⟩
    · have h := h.2 q
      refine aw_iconst (pc := 25) 0 dX7_mostGroups_25 (by decide) ?_
      refine aw_istore_n (pc := 26) (i := 3) [(3, .int 0), (0, .ref 227), (1, .int y1), (2, .int y2)] dX7_mostGroups_26 rfl (by decide) rfl ?_
      refine aw_iconst (pc := 27) 0 dX7_mostGroups_27 (by decide) ?_
      refine aw_istore (pc := 28) [(4, .int 0), (3, .int 0), (0, .ref 227), (1, .int y1), (2, .int y2)] dX7_mostGroups_28 (by decide) rfl ?_
      refine aw_iconst (pc := 30) 0 dX7_mostGroups_30 (by decide) ?_
      refine aw_istore (pc := 31) [(5, .int 0), (4, .int 0), (3, .int 0), (0, .ref 227), (1, .int y1), (2, .int y2)] dX7_mostGroups_31 (by decide) rfl ?_
      refine aw_sub (L' := [(0, .ref 227), (1, .int y1), (2, .int y2), (3, .int 0), (4, .int 0), (5, .int 0)]) [3, 4, 5, 2, 1, 0] rfl ?_
      obtain ⟨nf, h⟩ := h
      exact bt_X7_mostGroups_33 l  (fun y1' y2' τ => b_X7_mostGroups_20   K n y1' y2' τ) (fun y1' y2' τ h => ih y1' y2' τ h) nf y1 y2 0 0 0  _ h
def wp_X7_mostGroups  (σ : Sg) (K : Int32 → Sg → Prop) : Prop :=
  br ((σ 227 0) = 0) (K 0 σ) (∀ v17 : Int32, v17 = 1 <<< (((σ 227 0) - 1) &&& 31) → (∃ nf, b_X7_mostGroups_20   K nf v17 1 σ))
set_option maxRecDepth 20000 in
set_option maxHeartbeats 2000000 in
theorem ev_X7_mostGroups (l : Launch)  {σ : Sg} {K : Int32 → Sg → Prop} (h : wp_X7_mostGroups  σ K) : Ev l yX7_mostGroups cX7_mostGroups 6 (some .int) 1 [.ref 227] σ (qI K) := by
  refine ev_ov (by decide) (Nat.le_of_ble_eq_true rfl) ?_
  show AV l RX7 cX7_mostGroups 6 (some .int) 1 (qI K) 0 [(0, .ref 227)] [] σ
  refine aw_aload_n (pc := 0) 0 dX7_mostGroups_0 rfl ?_
  refine aw_getI (pc := 1) 0 kcX7 dX7_mostGroups_1 lfX7_27 nn_227 ki_227 (by decide) rfl ?_
  refine aw_if_ne (pc := 4) 9 dX7_mostGroups_4 (by decide) (fun q => ?_) (fun q => ?_)
  · have h := h.2 q
    refine aw_iconst (pc := 9) 1 dX7_mostGroups_9 (by decide) ?_
    refine aw_aload_n (pc := 10) 0 dX7_mostGroups_10 rfl ?_
    refine aw_getI (pc := 11) 0 kcX7 dX7_mostGroups_11 lfX7_27 nn_227 ki_227 (by decide) rfl ?_
    refine aw_iconst (pc := 14) 1 dX7_mostGroups_14 (by decide) ?_
    refine aw_isub (pc := 15) dX7_mostGroups_15 ?_
    refine aw_ishl (pc := 16) dX7_mostGroups_16 ?_
    refine aw_topi (fun v17 ev17 => ?_)
    have h := h v17 ev17
    refine aw_istore_n (pc := 17) (i := 1) [(1, .int v17), (0, .ref 227)] dX7_mostGroups_17 rfl (by decide) rfl ?_
    refine aw_iconst (pc := 18) 1 dX7_mostGroups_18 (by decide) ?_
    refine aw_istore_n (pc := 19) (i := 2) [(2, .int 1), (1, .int v17), (0, .ref 227)] dX7_mostGroups_19 rfl (by decide) rfl ?_
    refine aw_sub (L' := [(0, .ref 227), (1, .int v17), (2, .int 1)]) [2, 1, 0] rfl ?_
    obtain ⟨nf, h⟩ := h
    exact bt_X7_mostGroups_20 l    nf v17 1  _ h
  · have h := h.1 q
    refine aw_iconst (pc := 7) 0 dX7_mostGroups_7 (by decide) ?_
    exact aw_iret (pc := 8) rfl dX7_mostGroups_8 ⟨_, rfl, h⟩
def wp_X7_pay (x1 : Int32) (x2 : Int32) (σ : Sg) (K : Sg → Prop) : Prop :=
  vp_in x1 13 ∧ (vp_in x2 13 ∧ (∀ v16 : Int32, v16 = (if (σ 228 x2.toNatClampNeg) < (0 - (σ 228 x1.toNatClampNeg)) then (σ 228 x2.toNatClampNeg) else (0 - (σ 228 x1.toNatClampNeg))) → (vp_in x1 13 ∧ (vp_in x1 13 ∧ (∀ τ26 : Sg, τ26 = up σ 228 x1.toNatClampNeg ((σ 228 x1.toNatClampNeg) + v16) → (vp_in x2 13 ∧ (vp_in x2 13 ∧ (∀ τ36 : Sg, τ36 = up τ26 228 x2.toNatClampNeg ((τ26 228 x2.toNatClampNeg) - v16) → (vp_in (τ36 227 3) 13 ∧ (∀ τ46 : Sg, τ46 = up τ36 230 (τ36 227 3).toNatClampNeg x1 → (vp_in (τ46 227 3) 13 ∧ (∀ τ56 : Sg, τ56 = up τ46 231 (τ46 227 3).toNatClampNeg x2 → (vp_in (τ56 227 3) 13 ∧ (∀ τ66 : Sg, τ66 = up τ56 232 (τ56 227 3).toNatClampNeg v16 → (∀ τ74 : Sg, τ74 = up τ66 227 3 ((τ66 227 3) + 1) → (K τ74))))))))))))))))
set_option maxRecDepth 20000 in
set_option maxHeartbeats 2000000 in
theorem ev_X7_pay (l : Launch) (x1 : Int32) (x2 : Int32) {σ : Sg} {K : Sg → Prop} (h : wp_X7_pay x1 x2 σ K) : Ev l yX7_pay cX7_pay 4 none 1 [.ref 227, .int x1, .int x2] σ (qV K) := by
  refine ev_ov (by decide) (Nat.le_of_ble_eq_true rfl) ?_
  show AV l RX7 cX7_pay 4 none 1 (qV K) 0 [(0, .ref 227), (1, .int x1), (2, .int x2)] [] σ
  refine aw_aload_n (pc := 0) 0 dX7_pay_0 rfl ?_
  refine aw_getR (pc := 1) 1 kcX7 dX7_pay_1 lfX7_11 nn_227 ki_227 (by decide) rfl rf_227_1 ?_
  refine aw_iload_n (pc := 4) 1 dX7_pay_4 rfl ?_
  refine aw_iald (pc := 5) (j := x1.toNatClampNeg) dX7_pay_5 nn_228 ki_228 ln_228 h.1 rfl ?_
  have h := h.2
  refine aw_ineg (pc := 6) dX7_pay_6 ?_
  refine aw_aload_n (pc := 7) 0 dX7_pay_7 rfl ?_
  refine aw_getR (pc := 8) 1 kcX7 dX7_pay_8 lfX7_11 nn_227 ki_227 (by decide) rfl rf_227_1 ?_
  refine aw_iload_n (pc := 11) 2 dX7_pay_11 rfl ?_
  refine aw_iald (pc := 12) (j := x2.toNatClampNeg) dX7_pay_12 nn_228 ki_228 ln_228 h.1 rfl ?_
  have h := h.2
  refine aw_mmin (pc := 13) dX7_pay_13 lmX7_50 lib_min.1 lib_min.2.1 lib_min.2.2 ⟨Nat.le_refl _, Nat.le_refl _⟩ (by decide) (Nat.le_of_ble_eq_true rfl) ?_
  refine aw_topi (fun v16 ev16 => ?_)
  have h := h v16 ev16
  refine aw_istore_n (pc := 16) (i := 3) [(3, .int v16), (0, .ref 227), (1, .int x1), (2, .int x2)] dX7_pay_16 rfl (by decide) rfl ?_
  refine aw_aload_n (pc := 17) 1 dX7_pay_17 rfl ?_
  refine aw_getR (pc := 18) 1 kcX7 dX7_pay_18 lfX7_11 nn_227 ki_227 (by decide) rfl rf_227_1 ?_
  refine aw_iload_n (pc := 21) 2 dX7_pay_21 rfl ?_
  refine aw_dup2 (pc := 22) dX7_pay_22 rfl rfl ?_
  refine aw_iald (pc := 23) (j := x1.toNatClampNeg) dX7_pay_23 nn_228 ki_228 ln_228 h.1 rfl ?_
  have h := h.2
  refine aw_iload_n (pc := 24) 0 dX7_pay_24 rfl ?_
  refine aw_iadd (pc := 25) dX7_pay_25 ?_
  refine aw_iast (pc := 26) (j := x1.toNatClampNeg) (v := ((σ 228 x1.toNatClampNeg) + v16)) dX7_pay_26 nn_228 ki_228 ln_228 h.1 rfl rfl ?_
  have h := h.2
  refine aw_tops (fun τ26 eτ26 => ?_)
  have h := h τ26 eτ26
  refine aw_aload_n (pc := 27) 1 dX7_pay_27 rfl ?_
  refine aw_getR (pc := 28) 1 kcX7 dX7_pay_28 lfX7_11 nn_227 ki_227 (by decide) rfl rf_227_1 ?_
  refine aw_iload_n (pc := 31) 3 dX7_pay_31 rfl ?_
  refine aw_dup2 (pc := 32) dX7_pay_32 rfl rfl ?_
  refine aw_iald (pc := 33) (j := x2.toNatClampNeg) dX7_pay_33 nn_228 ki_228 ln_228 h.1 rfl ?_
  have h := h.2
  refine aw_iload_n (pc := 34) 0 dX7_pay_34 rfl ?_
  refine aw_isub (pc := 35) dX7_pay_35 ?_
  refine aw_iast (pc := 36) (j := x2.toNatClampNeg) (v := ((τ26 228 x2.toNatClampNeg) - v16)) dX7_pay_36 nn_228 ki_228 ln_228 h.1 rfl rfl ?_
  have h := h.2
  refine aw_tops (fun τ36 eτ36 => ?_)
  have h := h τ36 eτ36
  refine aw_aload_n (pc := 37) 1 dX7_pay_37 rfl ?_
  refine aw_getR (pc := 38) 4 kcX7 dX7_pay_38 lfX7_18 nn_227 ki_227 (by decide) rfl rf_227_4 ?_
  refine aw_aload_n (pc := 41) 1 dX7_pay_41 rfl ?_
  refine aw_getI (pc := 42) 3 kcX7 dX7_pay_42 lfX7_43 nn_227 ki_227 (by decide) rfl ?_
  refine aw_iload_n (pc := 45) 2 dX7_pay_45 rfl ?_
  refine aw_iast (pc := 46) (j := (τ36 227 3).toNatClampNeg) (v := x1) dX7_pay_46 nn_230 ki_230 ln_230 h.1 rfl rfl ?_
  have h := h.2
  refine aw_tops (fun τ46 eτ46 => ?_)
  have h := h τ46 eτ46
  refine aw_aload_n (pc := 47) 1 dX7_pay_47 rfl ?_
  refine aw_getR (pc := 48) 5 kcX7 dX7_pay_48 lfX7_21 nn_227 ki_227 (by decide) rfl rf_227_5 ?_
  refine aw_aload_n (pc := 51) 1 dX7_pay_51 rfl ?_
  refine aw_getI (pc := 52) 3 kcX7 dX7_pay_52 lfX7_43 nn_227 ki_227 (by decide) rfl ?_
  refine aw_iload_n (pc := 55) 3 dX7_pay_55 rfl ?_
  refine aw_iast (pc := 56) (j := (τ46 227 3).toNatClampNeg) (v := x2) dX7_pay_56 nn_231 ki_231 ln_231 h.1 rfl rfl ?_
  have h := h.2
  refine aw_tops (fun τ56 eτ56 => ?_)
  have h := h τ56 eτ56
  refine aw_aload_n (pc := 57) 1 dX7_pay_57 rfl ?_
  refine aw_getR (pc := 58) 6 kcX7 dX7_pay_58 lfX7_24 nn_227 ki_227 (by decide) rfl rf_227_6 ?_
  refine aw_aload_n (pc := 61) 1 dX7_pay_61 rfl ?_
  refine aw_getI (pc := 62) 3 kcX7 dX7_pay_62 lfX7_43 nn_227 ki_227 (by decide) rfl ?_
  refine aw_iload_n (pc := 65) 0 dX7_pay_65 rfl ?_
  refine aw_iast (pc := 66) (j := (τ56 227 3).toNatClampNeg) (v := v16) dX7_pay_66 nn_232 ki_232 ln_232 h.1 rfl rfl ?_
  have h := h.2
  refine aw_tops (fun τ66 eτ66 => ?_)
  have h := h τ66 eτ66
  refine aw_aload_n (pc := 67) 1 dX7_pay_67 rfl ?_
  refine aw_dup (pc := 68) dX7_pay_68 rfl ?_
  refine aw_getI (pc := 69) 3 kcX7 dX7_pay_69 lfX7_43 nn_227 ki_227 (by decide) rfl ?_
  refine aw_iconst (pc := 72) 1 dX7_pay_72 (by decide) ?_
  refine aw_iadd (pc := 73) dX7_pay_73 ?_
  refine aw_put (pc := 74) 3 kcX7 dX7_pay_74 lfX7_43 nn_227 ki_227 (by decide) rfl rfl rfl rfl ?_
  refine aw_tops (fun τ74 eτ74 => ?_)
  have h := h τ74 eτ74
  exact aw_vret (pc := 77) rfl dX7_pay_77 ⟨rfl, h⟩
def b_X7_listPayments_62 (k1 n1 : Nat) (x2 : Int32) (B18 : Int32 → Sg → Prop) (B32 : Int32 → Int32 → Int32 → Int32 → Sg → Prop) (K : Sg → Prop) (y3 : Int32) (y5 : Int32) (y6 : Int32) (z0 : Int32) (σ : Sg) : Prop :=
  vp_in y6 13 ∧ (vp_in y5 13 ∧ (br ((σ 228 y6.toNatClampNeg) ≤ (σ 228 y5.toNatClampNeg)) (∀ v90 : Int32, v90 = y6 + 1 → (B32 y3 z0 y5 v90 σ)) (∀ v90 : Int32, v90 = y6 + 1 → (B32 y3 z0 y6 v90 σ))))
set_option maxRecDepth 20000 in
set_option maxHeartbeats 2000000 in
theorem bt_X7_listPayments_62 (l : Launch) (k1 n1 : Nat) (hk1 : aOk k1 n1) (x2 : Int32) {K : Sg → Prop} (B18 : Int32 → Sg → Prop) (B32 : Int32 → Int32 → Int32 → Int32 → Sg → Prop) (hB18 : ∀ (y3 : Int32)  (τ : Sg), B18 y3 τ → AV l RX7 cX7_listPayments 7 none 2 (qV K) 18 [(0, .ref 227), (2, .int x2), (3, .int y3)] [] τ) (hB32 : ∀ (y3 : Int32) (y4 : Int32) (y5 : Int32) (y6 : Int32)  (τ : Sg), B32 y3 y4 y5 y6 τ → AV l RX7 cX7_listPayments 7 none 2 (qV K) 32 [(0, .ref 227), (2, .int x2), (3, .int y3), (4, .int y4), (5, .int y5), (6, .int y6)] [] τ) (y3 : Int32) (y5 : Int32) (y6 : Int32) (z0 : Int32)  (σ : Sg) (h : b_X7_listPayments_62 k1 n1 x2 B18 B32 K y3 y5 y6 z0 σ) : AV l RX7 cX7_listPayments 7 none 2 (qV K) 62 [(0, .ref 227), (2, .int x2), (3, .int y3), (5, .int y5), (6, .int y6)] [.int z0] σ := by
  refine aw_istore (pc := 62) [(4, .int z0), (0, .ref 227), (2, .int x2), (3, .int y3), (5, .int y5), (6, .int y6)] dX7_listPayments_62 (by decide) rfl ?_
  refine aw_aload_n (pc := 64) 1 dX7_listPayments_64 rfl ?_
  refine aw_getR (pc := 65) 1 kcX7 dX7_listPayments_65 lfX7_11 nn_227 ki_227 (by decide) rfl rf_227_1 ?_
  refine aw_iload (pc := 68) 5 dX7_listPayments_68 rfl ?_
  refine aw_iald (pc := 70) (j := y6.toNatClampNeg) dX7_listPayments_70 nn_228 ki_228 ln_228 h.1 rfl ?_
  have h := h.2
  refine aw_aload_n (pc := 71) 1 dX7_listPayments_71 rfl ?_
  refine aw_getR (pc := 72) 1 kcX7 dX7_listPayments_72 lfX7_11 nn_227 ki_227 (by decide) rfl rf_227_1 ?_
  refine aw_iload (pc := 75) 4 dX7_listPayments_75 rfl ?_
  refine aw_iald (pc := 77) (j := y5.toNatClampNeg) dX7_listPayments_77 nn_228 ki_228 ln_228 h.1 rfl ?_
  have h := h.2
  refine aw_icmp_le (pc := 78) 86 dX7_listPayments_78 (by decide) (fun q => ?_) (fun q => ?_)
  · have h := h.1 q
    refine aw_iload (pc := 86) 4 dX7_listPayments_86 rfl ?_
    refine aw_istore (pc := 88) [(5, .int y5), (4, .int z0), (0, .ref 227), (2, .int x2), (3, .int y3), (6, .int y6)] dX7_listPayments_88 (by decide) rfl ?_
    obtain ⟨v90, ev90⟩ : ∃ v : Int32, v = y6 + 1 := ⟨_, rfl⟩
    have h := h v90 ev90
    refine aw_iinc (pc := 90) 5 v90 [(6, .int v90), (5, .int y5), (4, .int z0), (0, .ref 227), (2, .int x2), (3, .int y3)] dX7_listPayments_90 rfl (by rw [ev90]; rfl) (by decide) rfl ?_
    refine aw_goto (pc := 93) 32 dX7_listPayments_93 (by decide) ?_
    refine aw_sub (L' := [(0, .ref 227), (2, .int x2), (3, .int y3), (4, .int z0), (5, .int y5), (6, .int v90)]) [3, 4, 5, 2, 1, 0] rfl ?_
    exact hB32 y3 z0 y5 v90  _ h
  · have h := h.2 q
    refine aw_iload (pc := 81) 5 dX7_listPayments_81 rfl ?_
    refine aw_goto (pc := 83) 88 dX7_listPayments_83 (by decide) ?_
    refine aw_istore (pc := 88) [(5, .int y6), (4, .int z0), (0, .ref 227), (2, .int x2), (3, .int y3), (6, .int y6)] dX7_listPayments_88 (by decide) rfl ?_
    obtain ⟨v90, ev90⟩ : ∃ v : Int32, v = y6 + 1 := ⟨_, rfl⟩
    have h := h v90 ev90
    refine aw_iinc (pc := 90) 5 v90 [(6, .int v90), (5, .int y6), (4, .int z0), (0, .ref 227), (2, .int x2), (3, .int y3)] dX7_listPayments_90 rfl (by rw [ev90]; rfl) (by decide) rfl ?_
    refine aw_goto (pc := 93) 32 dX7_listPayments_93 (by decide) ?_
    refine aw_sub (L' := [(0, .ref 227), (2, .int x2), (3, .int y3), (4, .int z0), (5, .int y6), (6, .int v90)]) [3, 4, 5, 2, 1, 0] rfl ?_
    exact hB32 y3 z0 y6 v90  _ h
def b_X7_listPayments_32 (k1 n1 : Nat) (x2 : Int32) (B18 : Int32 → Sg → Prop) (K : Sg → Prop) : Nat → Int32 → Int32 → Int32 → Int32 → Sg → Prop
  | 0, _, _, _, _, _ => False
  | n + 1, y3, y4, y5, y6, σ =>
  br (x2 ≤ y6) (vp_in y4 13 ∧ (br (0 ≤ (σ 228 y4.toNatClampNeg)) (∀ v114 : Int32, v114 = y3 + 1 → (B18 v114 σ)) (wp_X7_pay y4 y5 σ <| fun τ111 => (∀ v114 : Int32, v114 = y3 + 1 → (B18 v114 τ111))))) (vp_in y6 13 ∧ (vp_in y4 13 ∧ (br ((σ 228 y4.toNatClampNeg) ≤ (σ 228 y6.toNatClampNeg)) (b_X7_listPayments_62 k1 n1 x2 B18 (fun y3' y4' y5' y6' τ => b_X7_listPayments_32 k1 n1 x2 B18 K n y3' y4' y5' y6' τ) K y3 y5 y6 y4 σ) (b_X7_listPayments_62 k1 n1 x2 B18 (fun y3' y4' y5' y6' τ => b_X7_listPayments_32 k1 n1 x2 B18 K n y3' y4' y5' y6' τ) K y3 y5 y6 y6 σ))))
set_option maxRecDepth 20000 in
set_option maxHeartbeats 2000000 in
theorem bt_X7_listPayments_32 (l : Launch) (k1 n1 : Nat) (hk1 : aOk k1 n1) (x2 : Int32) {K : Sg → Prop} (B18 : Int32 → Sg → Prop) (hB18 : ∀ (y3 : Int32)  (τ : Sg), B18 y3 τ → AV l RX7 cX7_listPayments 7 none 2 (qV K) 18 [(0, .ref 227), (2, .int x2), (3, .int y3)] [] τ) : ∀ (n : Nat) (y3 : Int32) (y4 : Int32) (y5 : Int32) (y6 : Int32)  (σ : Sg), b_X7_listPayments_32 k1 n1 x2 B18 K n y3 y4 y5 y6 σ → AV l RX7 cX7_listPayments 7 none 2 (qV K) 32 [(0, .ref 227), (2, .int x2), (3, .int y3), (4, .int y4), (5, .int y5), (6, .int y6)] [] σ := by
  intro n
  induction n with
  | zero => intro y3 y4 y5 y6 σ h; exact h.elim
  | succ n ih =>
    intro y3 y4 y5 y6 σ h
    refine aw_iload (pc := 32) 5 dX7_listPayments_32 rfl ?_
    refine aw_iload_n (pc := 34) 1 dX7_listPayments_34 rfl ?_
    refine aw_icmp_ge (pc := 35) 96 dX7_listPayments_35 (by decide) (fun q => ?_) (fun q => ?_)
    · have h := h.1 q
      refine aw_aload_n (pc := 96) 0 dX7_listPayments_96 rfl ?_
      refine aw_getR (pc := 97) 1 kcX7 dX7_listPayments_97 lfX7_11 nn_227 ki_227 (by decide) rfl rf_227_1 ?_
      refine aw_iload (pc := 100) 3 dX7_listPayments_100 rfl ?_
      refine aw_iald (pc := 102) (j := y4.toNatClampNeg) dX7_listPayments_102 nn_228 ki_228 ln_228 h.1 rfl ?_
      have h := h.2
      refine aw_if_ge (pc := 103) 114 dX7_listPayments_103 (by decide) (fun q => ?_) (fun q => ?_)
      · have h := h.1 q
        obtain ⟨v114, ev114⟩ : ∃ v : Int32, v = y3 + 1 := ⟨_, rfl⟩
        have h := h v114 ev114
        refine aw_iinc (pc := 114) 2 v114 [(3, .int v114), (0, .ref 227), (2, .int x2), (4, .int y4), (5, .int y5), (6, .int y6)] dX7_listPayments_114 rfl (by rw [ev114]; rfl) (by decide) rfl ?_
        refine aw_goto (pc := 117) 18 dX7_listPayments_117 (by decide) ?_
        refine aw_sub (L' := [(0, .ref 227), (2, .int x2), (3, .int v114)]) [1, 2, 0] rfl ?_
        exact hB18 v114  _ h
      · have h := h.2 q
        refine aw_aload_n (pc := 106) 0 dX7_listPayments_106 rfl ?_
        refine aw_iload (pc := 107) 3 dX7_listPayments_107 rfl ?_
        refine aw_iload (pc := 109) 4 dX7_listPayments_109 rfl ?_
        refine aw_callV (pc := 111) (As := [.int y4, .int y5]) (rest := []) kcX7 nn_227 ki_227 rfl (ev_X7_pay l y4 y5 h) mfX7_pay dX7_listPayments_111 lmX7_46 ⟨Nat.le_refl _, Nat.le_refl _⟩ (by decide) rfl rfl (Nat.le_of_ble_eq_true rfl) (nxV (fun τ111 h => ?_))
        obtain ⟨v114, ev114⟩ : ∃ v : Int32, v = y3 + 1 := ⟨_, rfl⟩
        have h := h v114 ev114
        refine aw_iinc (pc := 114) 2 v114 [(3, .int v114), (0, .ref 227), (2, .int x2), (4, .int y4), (5, .int y5), (6, .int y6)] dX7_listPayments_114 rfl (by rw [ev114]; rfl) (by decide) rfl ?_
        refine aw_goto (pc := 117) 18 dX7_listPayments_117 (by decide) ?_
        refine aw_sub (L' := [(0, .ref 227), (2, .int x2), (3, .int v114)]) [1, 2, 0] rfl ?_
        exact hB18 v114  _ h
    · have h := h.2 q
      refine aw_aload_n (pc := 38) 0 dX7_listPayments_38 rfl ?_
      refine aw_getR (pc := 39) 1 kcX7 dX7_listPayments_39 lfX7_11 nn_227 ki_227 (by decide) rfl rf_227_1 ?_
      refine aw_iload (pc := 42) 5 dX7_listPayments_42 rfl ?_
      refine aw_iald (pc := 44) (j := y6.toNatClampNeg) dX7_listPayments_44 nn_228 ki_228 ln_228 h.1 rfl ?_
      have h := h.2
      refine aw_aload_n (pc := 45) 0 dX7_listPayments_45 rfl ?_
      refine aw_getR (pc := 46) 1 kcX7 dX7_listPayments_46 lfX7_11 nn_227 ki_227 (by decide) rfl rf_227_1 ?_
      refine aw_iload (pc := 49) 3 dX7_listPayments_49 rfl ?_
      refine aw_iald (pc := 51) (j := y4.toNatClampNeg) dX7_listPayments_51 nn_228 ki_228 ln_228 h.1 rfl ?_
      have h := h.2
      refine aw_icmp_ge (pc := 52) 60 dX7_listPayments_52 (by decide) (fun q => ?_) (fun q => ?_)
      · have h := h.1 q
        refine aw_iload (pc := 60) 3 dX7_listPayments_60 rfl ?_
        refine aw_sub (L' := [(0, .ref 227), (2, .int x2), (3, .int y3), (5, .int y5), (6, .int y6)]) [0, 1, 2, 4, 5] rfl ?_
        exact bt_X7_listPayments_62 l k1 n1 hk1 x2 B18 (fun y3' y4' y5' y6' τ => b_X7_listPayments_32 k1 n1 x2 B18 K n y3' y4' y5' y6' τ) hB18 (fun y3' y4' y5' y6' τ h => ih y3' y4' y5' y6' τ h) y3 y5 y6 y4  _ h
      · have h := h.2 q
        refine aw_iload (pc := 55) 5 dX7_listPayments_55 rfl ?_
        refine aw_goto (pc := 57) 62 dX7_listPayments_57 (by decide) ?_
        refine aw_sub (L' := [(0, .ref 227), (2, .int x2), (3, .int y3), (5, .int y5), (6, .int y6)]) [0, 1, 2, 4, 5] rfl ?_
        exact bt_X7_listPayments_62 l k1 n1 hk1 x2 B18 (fun y3' y4' y5' y6' τ => b_X7_listPayments_32 k1 n1 x2 B18 K n y3' y4' y5' y6' τ) hB18 (fun y3' y4' y5' y6' τ h => ih y3' y4' y5' y6' τ h) y3 y5 y6 y6  _ h
def b_X7_listPayments_18 (k1 n1 : Nat) (x2 : Int32)  (K : Sg → Prop) : Nat → Int32 → Sg → Prop
  | 0, _, _ => False
  | n + 1, y3, σ =>
  br (x2 ≤ y3) (K σ) (∃ nf, b_X7_listPayments_32 k1 n1 x2 (fun y3' τ => b_X7_listPayments_18 k1 n1 x2  K n y3' τ) K nf y3 0 0 1 σ)
set_option maxRecDepth 20000 in
set_option maxHeartbeats 2000000 in
theorem bt_X7_listPayments_18 (l : Launch) (k1 n1 : Nat) (hk1 : aOk k1 n1) (x2 : Int32) {K : Sg → Prop}   : ∀ (n : Nat) (y3 : Int32)  (σ : Sg), b_X7_listPayments_18 k1 n1 x2  K n y3 σ → AV l RX7 cX7_listPayments 7 none 2 (qV K) 18 [(0, .ref 227), (2, .int x2), (3, .int y3)] [] σ := by
  intro n
  induction n with
  | zero => intro y3 σ h; exact h.elim
  | succ n ih =>
    intro y3 σ h
    refine aw_iload_n (pc := 18) 2 dX7_listPayments_18 rfl ?_
    refine aw_iload_n (pc := 19) 1 dX7_listPayments_19 rfl ?_
    refine aw_icmp_ge (pc := 20) 120 dX7_listPayments_20 (by decide) (fun q => ?_) (fun q => ?_)
    · have h := h.1 q
      exact aw_vret (pc := 120) rfl dX7_listPayments_120 ⟨rfl, h⟩
    · have h := h.2 q
      refine aw_iconst (pc := 23) 0 dX7_listPayments_23 (by decide) ?_
      refine aw_istore (pc := 24) [(4, .int 0), (0, .ref 227), (2, .int x2), (3, .int y3)] dX7_listPayments_24 (by decide) rfl ?_
      refine aw_iconst (pc := 26) 0 dX7_listPayments_26 (by decide) ?_
      refine aw_istore (pc := 27) [(5, .int 0), (4, .int 0), (0, .ref 227), (2, .int x2), (3, .int y3)] dX7_listPayments_27 (by decide) rfl ?_
      refine aw_iconst (pc := 29) 1 dX7_listPayments_29 (by decide) ?_
      refine aw_istore (pc := 30) [(6, .int 1), (5, .int 0), (4, .int 0), (0, .ref 227), (2, .int x2), (3, .int y3)] dX7_listPayments_30 (by decide) rfl ?_
      refine aw_sub (L' := [(0, .ref 227), (2, .int x2), (3, .int y3), (4, .int 0), (5, .int 0), (6, .int 1)]) [3, 4, 5, 2, 1, 0] rfl ?_
      obtain ⟨nf, h⟩ := h
      exact bt_X7_listPayments_32 l k1 n1 hk1 x2 (fun y3' τ => b_X7_listPayments_18 k1 n1 x2  K n y3' τ) (fun y3' τ h => ih y3' τ h) nf y3 0 0 1  _ h
def wp_X7_listPayments (k1 n1 : Nat) (x2 : Int32) (σ : Sg) (K : Sg → Prop) : Prop :=
  ¬ x2 < 0 ∧ ((0 : Int32).toNatClampNeg + x2.toNatClampNeg ≤ n1 ∧ ((0 : Int32).toNatClampNeg + x2.toNatClampNeg ≤ 13 ∧ (∀ τ8 : Sg, τ8 = upA σ 228 (va_cpy (σ k1) (σ 228) (0 : Int32).toNatClampNeg (0 : Int32).toNatClampNeg x2.toNatClampNeg) → (∀ τ13 : Sg, τ13 = up τ8 227 3 0 → (∃ nf, b_X7_listPayments_18 k1 n1 x2  K nf 0 τ13)))))
set_option maxRecDepth 20000 in
set_option maxHeartbeats 2000000 in
theorem ev_X7_listPayments (l : Launch) (k1 n1 : Nat) (hk1 : aOk k1 n1) (x2 : Int32) {σ : Sg} {K : Sg → Prop} (h : wp_X7_listPayments k1 n1 x2 σ K) : Ev l yX7_listPayments cX7_listPayments 7 none 2 [.ref 227, .ref k1, .int x2] σ (qV K) := by
  refine ev_ov (by decide) (Nat.le_of_ble_eq_true rfl) ?_
  show AV l RX7 cX7_listPayments 7 none 2 (qV K) 0 [(0, .ref 227), (1, .ref k1), (2, .int x2)] [] σ
  refine aw_aload_n (pc := 0) 1 dX7_listPayments_0 rfl ?_
  refine aw_iconst (pc := 1) 0 dX7_listPayments_1 (by decide) ?_
  refine aw_aload_n (pc := 2) 0 dX7_listPayments_2 rfl ?_
  refine aw_getR (pc := 3) 1 kcX7 dX7_listPayments_3 lfX7_11 nn_227 ki_227 (by decide) rfl rf_227_1 ?_
  refine aw_iconst (pc := 6) 0 dX7_listPayments_6 (by decide) ?_
  refine aw_iload_n (pc := 7) 2 dX7_listPayments_7 rfl ?_
  refine aw_copy (pc := 8) dX7_listPayments_8 lmX7_37 lib_copy.1 lib_copy.2.1 lib_copy.2.2 hk1.1 hk1.2.1 hk1.2.2 nn_228 ki_228 ln_228 (by decide) (by decide) h.1 h.2.1 h.2.2.1 ⟨Nat.le_refl _, Nat.le_refl _⟩ (by decide) (Nat.le_of_ble_eq_true rfl) ?_
  have h := h.2.2.2
  refine aw_tops (fun τ8 eτ8 => ?_)
  have h := h τ8 eτ8
  refine aw_aload_n (pc := 11) 0 dX7_listPayments_11 rfl ?_
  refine aw_iconst (pc := 12) 0 dX7_listPayments_12 (by decide) ?_
  refine aw_put (pc := 13) 3 kcX7 dX7_listPayments_13 lfX7_43 nn_227 ki_227 (by decide) rfl rfl rfl rfl ?_
  refine aw_tops (fun τ13 eτ13 => ?_)
  have h := h τ13 eτ13
  refine aw_iconst (pc := 16) 0 dX7_listPayments_16 (by decide) ?_
  refine aw_istore_n (pc := 17) (i := 3) [(3, .int 0), (0, .ref 227), (1, .ref k1), (2, .int x2)] dX7_listPayments_17 rfl (by decide) rfl ?_
  refine aw_sub (L' := [(0, .ref 227), (2, .int x2), (3, .int 0)]) [1, 3, 0] rfl ?_
  obtain ⟨nf, h⟩ := h
  exact bt_X7_listPayments_18 l k1 n1 hk1 x2   nf 0  _ h
