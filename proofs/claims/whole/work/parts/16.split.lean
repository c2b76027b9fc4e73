def b_X8_payExpenses_19 (x1 : Int32) (x2 : Int32)  (K : Sg → Prop)  (σ : Sg) : Prop :=
  ∀ τ24 : Sg, τ24 = up σ 179 2 (σ 179 0) → (∀ τ32 : Sg, τ32 = up τ24 179 3 (τ24 179 1) → (K τ32))
set_option maxRecDepth 20000 in
set_option maxHeartbeats 2000000 in
theorem bt_X8_payExpenses_19 (l : Launch) (x1 : Int32) (x2 : Int32) {K : Sg → Prop}     (σ : Sg) (h : b_X8_payExpenses_19 x1 x2  K  σ) : AV l RX8 cX8_payExpenses 4 none 1 (qV K) 19 [(0, .ref 179)] [] σ := by
  refine aw_aload_n (pc := 19) 0 dX8_payExpenses_19 rfl ?_
  refine aw_aload_n (pc := 20) 0 dX8_payExpenses_20 rfl ?_
  refine aw_getI (pc := 21) 0 kcX8 dX8_payExpenses_21 lfX8_18 nn_179 ki_179 (by decide) rfl ?_
  refine aw_put (pc := 24) 2 kcX8 dX8_payExpenses_24 lfX8_31 nn_179 ki_179 (by decide) rfl rfl rfl rfl ?_
  refine aw_tops (fun τ24 eτ24 => ?_)
  have h := h τ24 eτ24
  refine aw_aload_n (pc := 27) 0 dX8_payExpenses_27 rfl ?_
  refine aw_aload_n (pc := 28) 0 dX8_payExpenses_28 rfl ?_
  refine aw_getI (pc := 29) 1 kcX8 dX8_payExpenses_29 lfX8_24 nn_179 ki_179 (by decide) rfl ?_
  refine aw_put (pc := 32) 3 kcX8 dX8_payExpenses_32 lfX8_34 nn_179 ki_179 (by decide) rfl rfl rfl rfl ?_
  refine aw_tops (fun τ32 eτ32 => ?_)
  have h := h τ32 eτ32
  refine aw_goto (pc := 35) 119 dX8_payExpenses_35 (by decide) ?_
  exact aw_vret (pc := 119) rfl dX8_payExpenses_119 ⟨rfl, h⟩
def wp_X8_payExpenses (x1 : Int32) (x2 : Int32) (σ : Sg) (K : Sg → Prop) : Prop :=
  ∀ v9 : Int32, v9 = (σ 179 0) + (σ 179 1) → (br (v9 ≤ x2) (b_X8_payExpenses_19 x1 x2  K  σ) (br (0 < v9) (br (x1 = 0) (∀ τ51 : Sg, τ51 = up σ 179 2 (if x2 < (σ 179 0) then x2 else (σ 179 0)) → (∀ τ61 : Sg, τ61 = up τ51 179 3 (x2 - (τ51 179 2)) → (K τ61))) (br (x1 = 1) (∀ τ81 : Sg, τ81 = up σ 179 3 (if x2 < (σ 179 1) then x2 else (σ 179 1)) → (∀ τ91 : Sg, τ91 = up τ81 179 2 (x2 - (τ81 179 3)) → (K τ91))) (¬ v9 = 0 ∧ (∀ τ106 : Sg, τ106 = up σ 179 3 ((x2 * (σ 179 1)) / v9) → (∀ τ116 : Sg, τ116 = up τ106 179 2 (x2 - (τ106 179 3)) → (K τ116)))))) (b_X8_payExpenses_19 x1 x2  K  σ)))
set_option maxRecDepth 20000 in
set_option maxHeartbeats 2000000 in
theorem ev_X8_payExpenses (l : Launch) (x1 : Int32) (x2 : Int32) {σ : Sg} {K : Sg → Prop} (h : wp_X8_payExpenses x1 x2 σ K) : Ev l yX8_payExpenses cX8_payExpenses 4 none 1 [.ref 179, .int x1, .int x2] σ (qV K) := by
  refine ev_ov (by decide) (Nat.le_of_ble_eq_true rfl) ?_
  show AV l RX8 cX8_payExpenses 4 none 1 (qV K) 0 [(0, .ref 179), (1, .int x1), (2, .int x2)] [] σ
  refine aw_aload_n (pc := 0) 0 dX8_payExpenses_0 rfl ?_
  refine aw_getI (pc := 1) 0 kcX8 dX8_payExpenses_1 lfX8_18 nn_179 ki_179 (by decide) rfl ?_
  refine aw_aload_n (pc := 4) 0 dX8_payExpenses_4 rfl ?_
  refine aw_getI (pc := 5) 1 kcX8 dX8_payExpenses_5 lfX8_24 nn_179 ki_179 (by decide) rfl ?_
  refine aw_iadd (pc := 8) dX8_payExpenses_8 ?_
  refine aw_topi (fun v9 ev9 => ?_)
  have h := h v9 ev9
  refine aw_istore_n (pc := 9) (i := 3) [(3, .int v9), (0, .ref 179), (1, .int x1), (2, .int x2)] dX8_payExpenses_9 rfl (by decide) rfl ?_
  refine aw_iload_n (pc := 10) 0 dX8_payExpenses_10 rfl ?_
  refine aw_iload_n (pc := 11) 3 dX8_payExpenses_11 rfl ?_
  refine aw_icmp_le (pc := 12) 19 dX8_payExpenses_12 (by decide) (fun q => ?_) (fun q => ?_)
  · have h := h.1 q
    refine aw_sub (L' := [(0, .ref 179)]) [1] rfl ?_
    exact bt_X8_payExpenses_19 l x1 x2     _ h
  · have h := h.2 q
    refine aw_iload_n (pc := 15) 0 dX8_payExpenses_15 rfl ?_
    refine aw_if_gt (pc := 16) 38 dX8_payExpenses_16 (by decide) (fun q => ?_) (fun q => ?_)
    · have h := h.1 q
      refine aw_iload_n (pc := 38) 2 dX8_payExpenses_38 rfl ?_
      refine aw_if_ne (pc := 39) 67 dX8_payExpenses_39 (by decide) (fun q => ?_) (fun q => ?_)
      · have h := h.2 q
        refine aw_iload_n (pc := 67) 2 dX8_payExpenses_67 rfl ?_
        refine aw_iconst (pc := 68) 1 dX8_payExpenses_68 (by decide) ?_
        refine aw_icmp_ne (pc := 69) 97 dX8_payExpenses_69 (by decide) (fun q => ?_) (fun q => ?_)
        · have h := h.2 q
          refine aw_aload_n (pc := 97) 1 dX8_payExpenses_97 rfl ?_
          refine aw_iload_n (pc := 98) 3 dX8_payExpenses_98 rfl ?_
          refine aw_aload_n (pc := 99) 1 dX8_payExpenses_99 rfl ?_
          refine aw_getI (pc := 100) 1 kcX8 dX8_payExpenses_100 lfX8_24 nn_179 ki_179 (by decide) rfl ?_
          refine aw_imul (pc := 103) dX8_payExpenses_103 ?_
          refine aw_iload_n (pc := 104) 0 dX8_payExpenses_104 rfl ?_
          refine aw_idiv (pc := 105) dX8_payExpenses_105 h.1 ?_
          have h := h.2
          refine aw_put (pc := 106) 3 kcX8 dX8_payExpenses_106 lfX8_34 nn_179 ki_179 (by decide) rfl rfl rfl rfl ?_
          refine aw_tops (fun τ106 eτ106 => ?_)
          have h := h τ106 eτ106
          refine aw_aload_n (pc := 109) 1 dX8_payExpenses_109 rfl ?_
          refine aw_iload_n (pc := 110) 3 dX8_payExpenses_110 rfl ?_
          refine aw_aload_n (pc := 111) 1 dX8_payExpenses_111 rfl ?_
          refine aw_getI (pc := 112) 3 kcX8 dX8_payExpenses_112 lfX8_34 nn_179 ki_179 (by decide) rfl ?_
          refine aw_isub (pc := 115) dX8_payExpenses_115 ?_
          refine aw_put (pc := 116) 2 kcX8 dX8_payExpenses_116 lfX8_31 nn_179 ki_179 (by decide) rfl rfl rfl rfl ?_
          refine aw_tops (fun τ116 eτ116 => ?_)
          have h := h τ116 eτ116
          exact aw_vret (pc := 119) rfl dX8_payExpenses_119 ⟨rfl, h⟩
        · have h := h.1 q
          refine aw_aload_n (pc := 72) 1 dX8_payExpenses_72 rfl ?_
          refine aw_aload_n (pc := 73) 1 dX8_payExpenses_73 rfl ?_
          refine aw_getI (pc := 74) 1 kcX8 dX8_payExpenses_74 lfX8_24 nn_179 ki_179 (by decide) rfl ?_
          refine aw_iload_n (pc := 77) 3 dX8_payExpenses_77 rfl ?_
          refine aw_mmin (pc := 78) dX8_payExpenses_78 lmX8_47 lib_min.1 lib_min.2.1 lib_min.2.2 ⟨Nat.le_refl _, Nat.le_refl _⟩ (by decide) (Nat.le_of_ble_eq_true rfl) ?_
          refine aw_put (pc := 81) 3 kcX8 dX8_payExpenses_81 lfX8_34 nn_179 ki_179 (by decide) rfl rfl rfl rfl ?_
          refine aw_tops (fun τ81 eτ81 => ?_)
          have h := h τ81 eτ81
          refine aw_aload_n (pc := 84) 1 dX8_payExpenses_84 rfl ?_
          refine aw_iload_n (pc := 85) 3 dX8_payExpenses_85 rfl ?_
          refine aw_aload_n (pc := 86) 1 dX8_payExpenses_86 rfl ?_
          refine aw_getI (pc := 87) 3 kcX8 dX8_payExpenses_87 lfX8_34 nn_179 ki_179 (by decide) rfl ?_
          refine aw_isub (pc := 90) dX8_payExpenses_90 ?_
          refine aw_put (pc := 91) 2 kcX8 dX8_payExpenses_91 lfX8_31 nn_179 ki_179 (by decide) rfl rfl rfl rfl ?_
          refine aw_tops (fun τ91 eτ91 => ?_)
          have h := h τ91 eτ91
          refine aw_goto (pc := 94) 119 dX8_payExpenses_94 (by decide) ?_
          exact aw_vret (pc := 119) rfl dX8_payExpenses_119 ⟨rfl, h⟩
      · have h := h.1 q
        refine aw_aload_n (pc := 42) 1 dX8_payExpenses_42 rfl ?_
        refine aw_aload_n (pc := 43) 1 dX8_payExpenses_43 rfl ?_
        refine aw_getI (pc := 44) 0 kcX8 dX8_payExpenses_44 lfX8_18 nn_179 ki_179 (by decide) rfl ?_
        refine aw_iload_n (pc := 47) 3 dX8_payExpenses_47 rfl ?_
        refine aw_mmin (pc := 48) dX8_payExpenses_48 lmX8_47 lib_min.1 lib_min.2.1 lib_min.2.2 ⟨Nat.le_refl _, Nat.le_refl _⟩ (by decide) (Nat.le_of_ble_eq_true rfl) ?_
        refine aw_put (pc := 51) 2 kcX8 dX8_payExpenses_51 lfX8_31 nn_179 ki_179 (by decide) rfl rfl rfl rfl ?_
        refine aw_tops (fun τ51 eτ51 => ?_)
        have h := h τ51 eτ51
        refine aw_aload_n (pc := 54) 1 dX8_payExpenses_54 rfl ?_
        refine aw_iload_n (pc := 55) 3 dX8_payExpenses_55 rfl ?_
        refine aw_aload_n (pc := 56) 1 dX8_payExpenses_56 rfl ?_
        refine aw_getI (pc := 57) 2 kcX8 dX8_payExpenses_57 lfX8_31 nn_179 ki_179 (by decide) rfl ?_
        refine aw_isub (pc := 60) dX8_payExpenses_60 ?_
        refine aw_put (pc := 61) 3 kcX8 dX8_payExpenses_61 lfX8_34 nn_179 ki_179 (by decide) rfl rfl rfl rfl ?_
        refine aw_tops (fun τ61 eτ61 => ?_)
        have h := h τ61 eτ61
        refine aw_goto (pc := 64) 119 dX8_payExpenses_64 (by decide) ?_
        exact aw_vret (pc := 119) rfl dX8_payExpenses_119 ⟨rfl, h⟩
    · have h := h.2 q
      refine aw_sub (L' := [(0, .ref 179)]) [1] rfl ?_
      exact bt_X8_payExpenses_19 l x1 x2     _ h
def b_X8_shareRest_51 (k1 n1 : Nat) (x2 : Int32) (x3 : Int32)  (K : Sg → Prop) (y4 : Int32) (y5 : Int32) (y6 : Int32) (σ : Sg) : Prop :=
  ∀ τ62 : Sg, τ62 = up σ 179 5 (((σ 179 4) * y4) / 100) → (∀ τ76 : Sg, τ76 = up τ62 179 6 (((τ62 179 4) * y5) / 100) → (∀ τ90 : Sg, τ90 = up τ76 179 7 (((τ76 179 4) * y6) / 100) → (∀ v112 : Int32, v112 = (((τ90 179 4) - (τ90 179 5)) - (τ90 179 6)) - (τ90 179 7) → (vp_in (10 : Int32) n1 ∧ (br ((τ90 k1 10) = 0) (∀ τ129 : Sg, τ129 = up τ90 179 5 ((τ90 179 5) + v112) → (K τ129)) (vp_in (10 : Int32) n1 ∧ (br ((τ90 k1 10) = 1) (∀ τ151 : Sg, τ151 = up τ90 179 6 ((τ90 179 6) + v112) → (K τ151)) (∀ τ165 : Sg, τ165 = up τ90 179 7 ((τ90 179 7) + v112) → (K τ165)))))))))
set_option maxRecDepth 20000 in
set_option maxHeartbeats 2000000 in
theorem bt_X8_shareRest_51 (l : Launch) (k1 n1 : Nat) (hk1 : aOk k1 n1) (x2 : Int32) (x3 : Int32) {K : Sg → Prop}   (y4 : Int32) (y5 : Int32) (y6 : Int32)  (σ : Sg) (h : b_X8_shareRest_51 k1 n1 x2 x3  K y4 y5 y6 σ) : AV l RX8 cX8_shareRest 8 none 0 (qV K) 51 [(0, .ref 179), (1, .ref k1), (4, .int y4), (5, .int y5), (6, .int y6)] [] σ := by
  refine aw_aload_n (pc := 51) 0 dX8_shareRest_51 rfl ?_
  refine aw_aload_n (pc := 52) 0 dX8_shareRest_52 rfl ?_
  refine aw_getI (pc := 53) 4 kcX8 dX8_shareRest_53 lfX8_37 nn_179 ki_179 (by decide) rfl ?_
  refine aw_iload (pc := 56) 2 dX8_shareRest_56 rfl ?_
  refine aw_imul (pc := 58) dX8_shareRest_58 ?_
  refine aw_bipush (pc := 59) 100 dX8_shareRest_59 (by decide) ?_
  refine aw_idiv (pc := 61) dX8_shareRest_61 (by decide) ?_
  refine aw_put (pc := 62) 5 kcX8 dX8_shareRest_62 lfX8_57 nn_179 ki_179 (by decide) rfl rfl rfl rfl ?_
  refine aw_tops (fun τ62 eτ62 => ?_)
  have h := h τ62 eτ62
  refine aw_aload_n (pc := 65) 0 dX8_shareRest_65 rfl ?_
  refine aw_aload_n (pc := 66) 0 dX8_shareRest_66 rfl ?_
  refine aw_getI (pc := 67) 4 kcX8 dX8_shareRest_67 lfX8_37 nn_179 ki_179 (by decide) rfl ?_
  refine aw_iload (pc := 70) 3 dX8_shareRest_70 rfl ?_
  refine aw_imul (pc := 72) dX8_shareRest_72 ?_
  refine aw_bipush (pc := 73) 100 dX8_shareRest_73 (by decide) ?_
  refine aw_idiv (pc := 75) dX8_shareRest_75 (by decide) ?_
  refine aw_put (pc := 76) 6 kcX8 dX8_shareRest_76 lfX8_60 nn_179 ki_179 (by decide) rfl rfl rfl rfl ?_
  refine aw_tops (fun τ76 eτ76 => ?_)
  have h := h τ76 eτ76
  refine aw_aload_n (pc := 79) 0 dX8_shareRest_79 rfl ?_
  refine aw_aload_n (pc := 80) 0 dX8_shareRest_80 rfl ?_
  refine aw_getI (pc := 81) 4 kcX8 dX8_shareRest_81 lfX8_37 nn_179 ki_179 (by decide) rfl ?_
  refine aw_iload (pc := 84) 4 dX8_shareRest_84 rfl ?_
  refine aw_imul (pc := 86) dX8_shareRest_86 ?_
  refine aw_bipush (pc := 87) 100 dX8_shareRest_87 (by decide) ?_
  refine aw_idiv (pc := 89) dX8_shareRest_89 (by decide) ?_
  refine aw_put (pc := 90) 7 kcX8 dX8_shareRest_90 lfX8_63 nn_179 ki_179 (by decide) rfl rfl rfl rfl ?_
  refine aw_tops (fun τ90 eτ90 => ?_)
  have h := h τ90 eτ90
  refine aw_aload_n (pc := 93) 0 dX8_shareRest_93 rfl ?_
  refine aw_getI (pc := 94) 4 kcX8 dX8_shareRest_94 lfX8_37 nn_179 ki_179 (by decide) rfl ?_
  refine aw_aload_n (pc := 97) 0 dX8_shareRest_97 rfl ?_
  refine aw_getI (pc := 98) 5 kcX8 dX8_shareRest_98 lfX8_57 nn_179 ki_179 (by decide) rfl ?_
  refine aw_isub (pc := 101) dX8_shareRest_101 ?_
  refine aw_aload_n (pc := 102) 0 dX8_shareRest_102 rfl ?_
  refine aw_getI (pc := 103) 6 kcX8 dX8_shareRest_103 lfX8_60 nn_179 ki_179 (by decide) rfl ?_
  refine aw_isub (pc := 106) dX8_shareRest_106 ?_
  refine aw_aload_n (pc := 107) 0 dX8_shareRest_107 rfl ?_
  refine aw_getI (pc := 108) 7 kcX8 dX8_shareRest_108 lfX8_63 nn_179 ki_179 (by decide) rfl ?_
  refine aw_isub (pc := 111) dX8_shareRest_111 ?_
  refine aw_topi (fun v112 ev112 => ?_)
  have h := h v112 ev112
  refine aw_istore (pc := 112) [(7, .int v112), (0, .ref 179), (1, .ref k1), (4, .int y4), (5, .int y5), (6, .int y6)] dX8_shareRest_112 (by decide) rfl ?_
  refine aw_aload_n (pc := 114) 2 dX8_shareRest_114 rfl ?_
  refine aw_bipush (pc := 115) 10 dX8_shareRest_115 (by decide) ?_
  refine aw_iald (pc := 117) (j := 10) dX8_shareRest_117 hk1.1 hk1.2.1 hk1.2.2 h.1 (by decide) ?_
  have h := h.2
  refine aw_if_ne (pc := 118) 135 dX8_shareRest_118 (by decide) (fun q => ?_) (fun q => ?_)
  · have h := h.2 q
    refine aw_aload_n (pc := 135) 2 dX8_shareRest_135 rfl ?_
    refine aw_bipush (pc := 136) 10 dX8_shareRest_136 (by decide) ?_
    refine aw_iald (pc := 138) (j := 10) dX8_shareRest_138 hk1.1 hk1.2.1 hk1.2.2 h.1 (by decide) ?_
    have h := h.2
    refine aw_iconst (pc := 139) 1 dX8_shareRest_139 (by decide) ?_
    refine aw_icmp_ne (pc := 140) 157 dX8_shareRest_140 (by decide) (fun q => ?_) (fun q => ?_)
    · have h := h.2 q
      refine aw_aload_n (pc := 157) 1 dX8_shareRest_157 rfl ?_
      refine aw_dup (pc := 158) dX8_shareRest_158 rfl ?_
      refine aw_getI (pc := 159) 7 kcX8 dX8_shareRest_159 lfX8_63 nn_179 ki_179 (by decide) rfl ?_
      refine aw_iload (pc := 162) 0 dX8_shareRest_162 rfl ?_
      refine aw_iadd (pc := 164) dX8_shareRest_164 ?_
      refine aw_put (pc := 165) 7 kcX8 dX8_shareRest_165 lfX8_63 nn_179 ki_179 (by decide) rfl rfl rfl rfl ?_
      refine aw_tops (fun τ165 eτ165 => ?_)
      have h := h τ165 eτ165
      exact aw_vret (pc := 168) rfl dX8_shareRest_168 ⟨rfl, h⟩
    · have h := h.1 q
      refine aw_aload_n (pc := 143) 1 dX8_shareRest_143 rfl ?_
      refine aw_dup (pc := 144) dX8_shareRest_144 rfl ?_
      refine aw_getI (pc := 145) 6 kcX8 dX8_shareRest_145 lfX8_60 nn_179 ki_179 (by decide) rfl ?_
      refine aw_iload (pc := 148) 0 dX8_shareRest_148 rfl ?_
      refine aw_iadd (pc := 150) dX8_shareRest_150 ?_
      refine aw_put (pc := 151) 6 kcX8 dX8_shareRest_151 lfX8_60 nn_179 ki_179 (by decide) rfl rfl rfl rfl ?_
      refine aw_tops (fun τ151 eτ151 => ?_)
      have h := h τ151 eτ151
      refine aw_goto (pc := 154) 168 dX8_shareRest_154 (by decide) ?_
      exact aw_vret (pc := 168) rfl dX8_shareRest_168 ⟨rfl, h⟩
  · have h := h.1 q
    refine aw_aload_n (pc := 121) 1 dX8_shareRest_121 rfl ?_
    refine aw_dup (pc := 122) dX8_shareRest_122 rfl ?_
    refine aw_getI (pc := 123) 5 kcX8 dX8_shareRest_123 lfX8_57 nn_179 ki_179 (by decide) rfl ?_
    refine aw_iload (pc := 126) 0 dX8_shareRest_126 rfl ?_
    refine aw_iadd (pc := 128) dX8_shareRest_128 ?_
    refine aw_put (pc := 129) 5 kcX8 dX8_shareRest_129 lfX8_57 nn_179 ki_179 (by decide) rfl rfl rfl rfl ?_
    refine aw_tops (fun τ129 eτ129 => ?_)
    have h := h τ129 eτ129
    refine aw_goto (pc := 132) 168 dX8_shareRest_132 (by decide) ?_
    exact aw_vret (pc := 168) rfl dX8_shareRest_168 ⟨rfl, h⟩
def wp_X8_shareRest (k1 n1 : Nat) (x2 : Int32) (x3 : Int32) (σ : Sg) (K : Sg → Prop) : Prop :=
  vp_in x2 n1 ∧ (∀ v3 : Int32, v3 = σ k1 x2.toNatClampNeg → (vp_in (x2 + 1) n1 ∧ (∀ v10 : Int32, v10 = σ k1 (x2 + 1).toNatClampNeg → (vp_in (x2 + 2) n1 ∧ (∀ v17 : Int32, v17 = σ k1 (x2 + 2).toNatClampNeg → (br (x3 = 0) (b_X8_shareRest_51 k1 n1 x2 x3  K v3 v10 v17 σ) (∀ v28 : Int32, v28 = v3 + v10 → (∀ v34 : Int32, v34 = v28 / 2 → (∀ v40 : Int32, v40 = v28 / 2 → (∀ v49 : Int32, v49 = v17 + (v28 - v28 / 2 * 2) → (b_X8_shareRest_51 k1 n1 x2 x3  K v34 v40 v49 σ)))))))))))
set_option maxRecDepth 20000 in
set_option maxHeartbeats 2000000 in
theorem ev_X8_shareRest (l : Launch) (k1 n1 : Nat) (hk1 : aOk k1 n1) (x2 : Int32) (x3 : Int32) {σ : Sg} {K : Sg → Prop} (h : wp_X8_shareRest k1 n1 x2 x3 σ K) : Ev l yX8_shareRest cX8_shareRest 8 none 0 [.ref 179, .ref k1, .int x2, .int x3] σ (qV K) := by
  refine ev_ov (by decide) (Nat.le_of_ble_eq_true rfl) ?_
  show AV l RX8 cX8_shareRest 8 none 0 (qV K) 0 [(0, .ref 179), (1, .ref k1), (2, .int x2), (3, .int x3)] [] σ
  refine aw_aload_n (pc := 0) 1 dX8_shareRest_0 rfl ?_
  refine aw_iload_n (pc := 1) 2 dX8_shareRest_1 rfl ?_
  refine aw_iald (pc := 2) (j := x2.toNatClampNeg) dX8_shareRest_2 hk1.1 hk1.2.1 hk1.2.2 h.1 rfl ?_
  have h := h.2
  refine aw_topi (fun v3 ev3 => ?_)
  have h := h v3 ev3
  refine aw_istore (pc := 3) [(4, .int v3), (0, .ref 179), (1, .ref k1), (2, .int x2), (3, .int x3)] dX8_shareRest_3 (by decide) rfl ?_
  refine aw_aload_n (pc := 5) 2 dX8_shareRest_5 rfl ?_
  refine aw_iload_n (pc := 6) 3 dX8_shareRest_6 rfl ?_
  refine aw_iconst (pc := 7) 1 dX8_shareRest_7 (by decide) ?_
  refine aw_iadd (pc := 8) dX8_shareRest_8 ?_
  refine aw_iald (pc := 9) (j := (x2 + 1).toNatClampNeg) dX8_shareRest_9 hk1.1 hk1.2.1 hk1.2.2 h.1 rfl ?_
  have h := h.2
  refine aw_topi (fun v10 ev10 => ?_)
  have h := h v10 ev10
  refine aw_istore (pc := 10) [(5, .int v10), (4, .int v3), (0, .ref 179), (1, .ref k1), (2, .int x2), (3, .int x3)] dX8_shareRest_10 (by decide) rfl ?_
  refine aw_aload_n (pc := 12) 3 dX8_shareRest_12 rfl ?_
  refine aw_iload_n (pc := 13) 4 dX8_shareRest_13 rfl ?_
  refine aw_iconst (pc := 14) 2 dX8_shareRest_14 (by decide) ?_
  refine aw_iadd (pc := 15) dX8_shareRest_15 ?_
  refine aw_iald (pc := 16) (j := (x2 + 2).toNatClampNeg) dX8_shareRest_16 hk1.1 hk1.2.1 hk1.2.2 h.1 rfl ?_
  have h := h.2
  refine aw_topi (fun v17 ev17 => ?_)
  have h := h v17 ev17
  refine aw_istore (pc := 17) [(6, .int v17), (5, .int v10), (4, .int v3), (0, .ref 179), (1, .ref k1), (2, .int x2), (3, .int x3)] dX8_shareRest_17 (by decide) rfl ?_
  refine aw_iload_n (pc := 19) 6 dX8_shareRest_19 rfl ?_
  refine aw_if_eq (pc := 20) 51 dX8_shareRest_20 (by decide) (fun q => ?_) (fun q => ?_)
  · have h := h.1 q
    refine aw_sub (L' := [(0, .ref 179), (1, .ref k1), (4, .int v3), (5, .int v10), (6, .int v17)]) [3, 4, 2, 1, 0] rfl ?_
    exact bt_X8_shareRest_51 l k1 n1 hk1 x2 x3   v3 v10 v17  _ h
  · have h := h.2 q
    refine aw_iload (pc := 23) 2 dX8_shareRest_23 rfl ?_
    refine aw_iload (pc := 25) 1 dX8_shareRest_25 rfl ?_
    refine aw_iadd (pc := 27) dX8_shareRest_27 ?_
    refine aw_topi (fun v28 ev28 => ?_)
    have h := h v28 ev28
    refine aw_istore (pc := 28) [(7, .int v28), (6, .int v17), (5, .int v10), (4, .int v3), (0, .ref 179), (1, .ref k1), (2, .int x2), (3, .int x3)] dX8_shareRest_28 (by decide) rfl ?_
    refine aw_iload (pc := 30) 0 dX8_shareRest_30 rfl ?_
    refine aw_iconst (pc := 32) 2 dX8_shareRest_32 (by decide) ?_
    refine aw_idiv (pc := 33) dX8_shareRest_33 (by decide) ?_
    refine aw_topi (fun v34 ev34 => ?_)
    have h := h v34 ev34
    refine aw_istore (pc := 34) [(4, .int v34), (7, .int v28), (6, .int v17), (5, .int v10), (0, .ref 179), (1, .ref k1), (2, .int x2), (3, .int x3)] dX8_shareRest_34 (by decide) rfl ?_
    refine aw_iload (pc := 36) 1 dX8_shareRest_36 rfl ?_
    refine aw_iconst (pc := 38) 2 dX8_shareRest_38 (by decide) ?_
    refine aw_idiv (pc := 39) dX8_shareRest_39 (by decide) ?_
    refine aw_topi (fun v40 ev40 => ?_)
    have h := h v40 ev40
    refine aw_istore (pc := 40) [(5, .int v40), (4, .int v34), (7, .int v28), (6, .int v17), (0, .ref 179), (1, .ref k1), (2, .int x2), (3, .int x3)] dX8_shareRest_40 (by decide) rfl ?_
    refine aw_iload (pc := 42) 3 dX8_shareRest_42 rfl ?_
    refine aw_iload (pc := 44) 2 dX8_shareRest_44 rfl ?_
    refine aw_iconst (pc := 46) 2 dX8_shareRest_46 (by decide) ?_
    refine aw_irem (pc := 47) dX8_shareRest_47 (by decide) ?_
    refine aw_iadd (pc := 48) dX8_shareRest_48 ?_
    refine aw_topi (fun v49 ev49 => ?_)
    have h := h v49 ev49
    refine aw_istore (pc := 49) [(6, .int v49), (5, .int v40), (4, .int v34), (7, .int v28), (0, .ref 179), (1, .ref k1), (2, .int x2), (3, .int x3)] dX8_shareRest_49 (by decide) rfl ?_
    refine aw_sub (L' := [(0, .ref 179), (1, .ref k1), (4, .int v34), (5, .int v40), (6, .int v49)]) [4, 5, 2, 1, 0] rfl ?_
    exact bt_X8_shareRest_51 l k1 n1 hk1 x2 x3   v34 v40 v49  _ h
def wp_X8_guarantee (x1 : Int32) (σ : Sg) (K : Sg → Prop) : Prop :=
  ∀ τ11 : Sg, τ11 = up σ 179 8 (if (0 : Int32) < (x1 - (σ 179 6)) then (x1 - (σ 179 6)) else (0 : Int32)) → (∀ v25 : Int32, v25 = (if (τ11 179 5) < (τ11 179 8) then (τ11 179 5) else (τ11 179 8)) → (∀ τ36 : Sg, τ36 = up τ11 179 6 ((τ11 179 6) + (τ11 179 8)) → (∀ τ46 : Sg, τ46 = up τ36 179 5 ((τ36 179 5) - v25) → (∀ τ61 : Sg, τ61 = up τ46 179 7 ((τ46 179 7) - ((τ46 179 8) - v25)) → (K τ61)))))
set_option maxRecDepth 20000 in
set_option maxHeartbeats 2000000 in
theorem ev_X8_guarantee (l : Launch) (x1 : Int32) {σ : Sg} {K : Sg → Prop} (h : wp_X8_guarantee x1 σ K) : Ev l yX8_guarantee cX8_guarantee 3 none 1 [.ref 179, .int x1] σ (qV K) := by
  refine ev_ov (by decide) (Nat.le_of_ble_eq_true rfl) ?_
  show AV l RX8 cX8_guarantee 3 none 1 (qV K) 0 [(0, .ref 179), (1, .int x1)] [] σ
  refine aw_aload_n (pc := 0) 0 dX8_guarantee_0 rfl ?_
  refine aw_iconst (pc := 1) 0 dX8_guarantee_1 (by decide) ?_
  refine aw_iload_n (pc := 2) 1 dX8_guarantee_2 rfl ?_
  refine aw_aload_n (pc := 3) 0 dX8_guarantee_3 rfl ?_
  refine aw_getI (pc := 4) 6 kcX8 dX8_guarantee_4 lfX8_60 nn_179 ki_179 (by decide) rfl ?_
  refine aw_isub (pc := 7) dX8_guarantee_7 ?_
  refine aw_mmax (pc := 8) dX8_guarantee_8 lmX8_66 lib_max.1 lib_max.2.1 lib_max.2.2 ⟨Nat.le_refl _, Nat.le_refl _⟩ (by decide) (Nat.le_of_ble_eq_true rfl) ?_
  refine aw_put (pc := 11) 8 kcX8 dX8_guarantee_11 lfX8_44 nn_179 ki_179 (by decide) rfl rfl rfl rfl ?_
  refine aw_tops (fun τ11 eτ11 => ?_)
  have h := h τ11 eτ11
  refine aw_aload_n (pc := 14) 0 dX8_guarantee_14 rfl ?_
  refine aw_getI (pc := 15) 8 kcX8 dX8_guarantee_15 lfX8_44 nn_179 ki_179 (by decide) rfl ?_
  refine aw_aload_n (pc := 18) 0 dX8_guarantee_18 rfl ?_
  refine aw_getI (pc := 19) 5 kcX8 dX8_guarantee_19 lfX8_57 nn_179 ki_179 (by decide) rfl ?_
  refine aw_mmin (pc := 22) dX8_guarantee_22 lmX8_47 lib_min.1 lib_min.2.1 lib_min.2.2 ⟨Nat.le_refl _, Nat.le_refl _⟩ (by decide) (Nat.le_of_ble_eq_true rfl) ?_
  refine aw_topi (fun v25 ev25 => ?_)
  have h := h v25 ev25
  refine aw_istore_n (pc := 25) (i := 2) [(2, .int v25), (0, .ref 179), (1, .int x1)] dX8_guarantee_25 rfl (by decide) rfl ?_
  refine aw_aload_n (pc := 26) 1 dX8_guarantee_26 rfl ?_
  refine aw_dup (pc := 27) dX8_guarantee_27 rfl ?_
  refine aw_getI (pc := 28) 6 kcX8 dX8_guarantee_28 lfX8_60 nn_179 ki_179 (by decide) rfl ?_
  refine aw_aload_n (pc := 31) 1 dX8_guarantee_31 rfl ?_
  refine aw_getI (pc := 32) 8 kcX8 dX8_guarantee_32 lfX8_44 nn_179 ki_179 (by decide) rfl ?_
  refine aw_iadd (pc := 35) dX8_guarantee_35 ?_
  refine aw_put (pc := 36) 6 kcX8 dX8_guarantee_36 lfX8_60 nn_179 ki_179 (by decide) rfl rfl rfl rfl ?_
  refine aw_tops (fun τ36 eτ36 => ?_)
  have h := h τ36 eτ36
  refine aw_aload_n (pc := 39) 1 dX8_guarantee_39 rfl ?_
  refine aw_dup (pc := 40) dX8_guarantee_40 rfl ?_
  refine aw_getI (pc := 41) 5 kcX8 dX8_guarantee_41 lfX8_57 nn_179 ki_179 (by decide) rfl ?_
  refine aw_iload_n (pc := 44) 0 dX8_guarantee_44 rfl ?_
  refine aw_isub (pc := 45) dX8_guarantee_45 ?_
  refine aw_put (pc := 46) 5 kcX8 dX8_guarantee_46 lfX8_57 nn_179 ki_179 (by decide) rfl rfl rfl rfl ?_
  refine aw_tops (fun τ46 eτ46 => ?_)
  have h := h τ46 eτ46
  refine aw_aload_n (pc := 49) 1 dX8_guarantee_49 rfl ?_
  refine aw_dup (pc := 50) dX8_guarantee_50 rfl ?_
  refine aw_getI (pc := 51) 7 kcX8 dX8_guarantee_51 lfX8_63 nn_179 ki_179 (by decide) rfl ?_
  refine aw_aload_n (pc := 54) 1 dX8_guarantee_54 rfl ?_
  refine aw_getI (pc := 55) 8 kcX8 dX8_guarantee_55 lfX8_44 nn_179 ki_179 (by decide) rfl ?_
  refine aw_iload_n (pc := 58) 0 dX8_guarantee_58 rfl ?_
  refine aw_isub (pc := 59) dX8_guarantee_59 ?_
  refine aw_isub (pc := 60) dX8_guarantee_60 ?_
  refine aw_put (pc := 61) 7 kcX8 dX8_guarantee_61 lfX8_63 nn_179 ki_179 (by decide) rfl rfl rfl rfl ?_
  refine aw_tops (fun τ61 eτ61 => ?_)
  have h := h τ61 eτ61
  exact aw_vret (pc := 64) rfl dX8_guarantee_64 ⟨rfl, h⟩
def b_X8_reckonGame_99 (x2 : Int32) (x3 : Int32) (x4 : Int32) (x5 : Int32) (x6 : Int32) (x7 : Int32)  (K : Sg → Prop) (r8 : Nat) (y9 : Int32) (z0 : Int32) (σ : Sg) : Prop :=
  wp_X8_shareRest r8 11 z0 y9 σ <| fun τ101 => (∀ τ106 : Sg, τ106 = up τ101 179 8 0 → (br (x4 = 0) (br (y9 = 0) (wp_X8_guarantee (if (τ106 179 4) < (τ106 r8 4) then (τ106 179 4) else (τ106 r8 4)) τ106 <| fun τ131 => (K τ131)) (K τ106)) (K τ106)))
set_option maxRecDepth 20000 in
set_option maxHeartbeats 2000000 in
theorem bt_X8_reckonGame_99 (l : Launch) (x2 : Int32) (x3 : Int32) (x4 : Int32) (x5 : Int32) (x6 : Int32) (x7 : Int32) {K : Sg → Prop}   (r8 : Nat) (y9 : Int32) (z0 : Int32) (hr8 : aOk r8 11) (σ : Sg) (h : b_X8_reckonGame_99 x2 x3 x4 x5 x6 x7  K r8 y9 z0 σ) : AV l RX8 cX8_reckonGame 10 none 2 (qV K) 99 [(0, .ref 179), (4, .int x4), (8, .ref r8), (9, .int y9)] [.int z0, .ref r8, .ref 179] σ := by
  refine aw_iload (pc := 99) 3 dX8_reckonGame_99 rfl ?_
  refine aw_callV (pc := 101) (As := [.ref r8, .int z0, .int y9]) (rest := []) kcX8 nn_179 ki_179 rfl (ev_X8_shareRest l r8 11 hr8 z0 y9 h) mfX8_shareRest dX8_reckonGame_101 lmX8_40 ⟨Nat.le_refl _, Nat.le_refl _⟩ (by decide) rfl rfl (Nat.le_of_ble_eq_true rfl) (nxV (fun τ101 h => ?_))
  refine aw_aload_n (pc := 104) 0 dX8_reckonGame_104 rfl ?_
  refine aw_iconst (pc := 105) 0 dX8_reckonGame_105 (by decide) ?_
  refine aw_put (pc := 106) 8 kcX8 dX8_reckonGame_106 lfX8_44 nn_179 ki_179 (by decide) rfl rfl rfl rfl ?_
  refine aw_tops (fun τ106 eτ106 => ?_)
  have h := h τ106 eτ106
  refine aw_iload (pc := 109) 1 dX8_reckonGame_109 rfl ?_
  refine aw_if_ne (pc := 111) 134 dX8_reckonGame_111 (by decide) (fun q => ?_) (fun q => ?_)
  · have h := h.2 q
    exact aw_vret (pc := 134) rfl dX8_reckonGame_134 ⟨rfl, h⟩
  · have h := h.1 q
    refine aw_iload (pc := 114) 3 dX8_reckonGame_114 rfl ?_
    refine aw_if_ne (pc := 116) 134 dX8_reckonGame_116 (by decide) (fun q => ?_) (fun q => ?_)
    · have h := h.2 q
      exact aw_vret (pc := 134) rfl dX8_reckonGame_134 ⟨rfl, h⟩
    · have h := h.1 q
      refine aw_aload_n (pc := 119) 0 dX8_reckonGame_119 rfl ?_
      refine aw_aload (pc := 120) 2 dX8_reckonGame_120 rfl ?_
      refine aw_iconst (pc := 122) 4 dX8_reckonGame_122 (by decide) ?_
      refine aw_iald (pc := 123) (j := 4) dX8_reckonGame_123 hr8.1 hr8.2.1 hr8.2.2 (show vp_in _ _ by unfold vp_in; decide) (by decide) ?_
      refine aw_aload_n (pc := 124) 0 dX8_reckonGame_124 rfl ?_
      refine aw_getI (pc := 125) 4 kcX8 dX8_reckonGame_125 lfX8_37 nn_179 ki_179 (by decide) rfl ?_
      refine aw_mmin (pc := 128) dX8_reckonGame_128 lmX8_47 lib_min.1 lib_min.2.1 lib_min.2.2 ⟨Nat.le_refl _, Nat.le_refl _⟩ (by decide) (Nat.le_of_ble_eq_true rfl) ?_
      refine aw_callV (pc := 131) (As := [.int (if (τ106 179 4) < (τ106 r8 4) then (τ106 179 4) else (τ106 r8 4))]) (rest := []) kcX8 nn_179 ki_179 rfl (ev_X8_guarantee l (if (τ106 179 4) < (τ106 r8 4) then (τ106 179 4) else (τ106 r8 4)) h) mfX8_guarantee dX8_reckonGame_131 lmX8_53 ⟨Nat.le_refl _, Nat.le_refl _⟩ (by decide) rfl rfl (Nat.le_of_ble_eq_true rfl) (nxV (fun τ131 h => ?_))
      exact aw_vret (pc := 134) rfl dX8_reckonGame_134 ⟨rfl, h⟩
def b_X8_reckonGame_42 (x2 : Int32) (x3 : Int32) (x4 : Int32) (x5 : Int32) (x6 : Int32) (x7 : Int32)  (K : Sg → Prop) (r8 : Nat) (y9 : Int32) (z0 : Int32) (z1 : Nat) (σ : Sg) : Prop :=
  vp_in z0 3 ∧ (∀ τ43 : Sg, τ43 = up σ 179 0 (σ z1 z0.toNatClampNeg) → (vp_in x6 12 ∧ (∀ τ56 : Sg, τ56 = up τ43 179 1 (τ43 (4 + 1 + x6.toNatClampNeg) 1) → (wp_X8_payExpenses (τ56 r8 3) x7 τ56 <| fun τ66 => (∀ τ82 : Sg, τ82 = up τ66 179 4 ((x7 - (τ66 179 2)) - (τ66 179 3)) → (br (x4 = 0) (b_X8_reckonGame_99 x2 x3 x4 x5 x6 x7  K r8 y9 0 τ82) (b_X8_reckonGame_99 x2 x3 x4 x5 x6 x7  K r8 y9 6 τ82)))))))
set_option maxRecDepth 20000 in
set_option maxHeartbeats 2000000 in
theorem bt_X8_reckonGame_42 (l : Launch) (x2 : Int32) (x3 : Int32) (x4 : Int32) (x5 : Int32) (x6 : Int32) (x7 : Int32) {K : Sg → Prop}   (r8 : Nat) (y9 : Int32) (z0 : Int32) (z1 : Nat) (hr8 : aOk r8 11) (hz1 : aOk z1 3) (σ : Sg) (h : b_X8_reckonGame_42 x2 x3 x4 x5 x6 x7  K r8 y9 z0 z1 σ) : AV l RX8 cX8_reckonGame 10 none 2 (qV K) 42 [(0, .ref 179), (1, .ref 3), (4, .int x4), (6, .int x6), (7, .int x7), (8, .ref r8), (9, .int y9)] [.int z0, .ref z1, .ref 179] σ := by
  refine aw_iald (pc := 42) (j := z0.toNatClampNeg) dX8_reckonGame_42 hz1.1 hz1.2.1 hz1.2.2 h.1 rfl ?_
  have h := h.2
  refine aw_put (pc := 43) 0 kcX8 dX8_reckonGame_43 lfX8_18 nn_179 ki_179 (by decide) rfl rfl rfl rfl ?_
  refine aw_tops (fun τ43 eτ43 => ?_)
  have h := h τ43 eτ43
  refine aw_aload_n (pc := 46) 0 dX8_reckonGame_46 rfl ?_
  refine aw_aload_n (pc := 47) 1 dX8_reckonGame_47 rfl ?_
  refine aw_getRN (pc := 48) 2 kcX5 dX8_reckonGame_48 lfnX8_15 nn_3 ki_3 (by decide) rfl rf_3_2 ?_
  refine aw_iload (pc := 51) 3 dX8_reckonGame_51 rfl ?_
  have hin53 := h.1
  have h := h.2
  refine aw_aldI (pc := 53) dX8_reckonGame_53 nn_4 ki_4 ln_4 hin53 (rf15 ki_4) ?_
  refine aw_iconst (pc := 54) 1 dX8_reckonGame_54 (by decide) ?_
  refine aw_iald (pc := 55) (j := 1) dX8_reckonGame_55 (row_4 _ (vp_lt hin53)).1 (row_4 _ (vp_lt hin53)).2.1 (row_4 _ (vp_lt hin53)).2.2 (show vp_in _ _ by unfold vp_in; decide) (by decide) ?_
  refine aw_put (pc := 56) 1 kcX8 dX8_reckonGame_56 lfX8_24 nn_179 ki_179 (by decide) rfl rfl rfl rfl ?_
  refine aw_tops (fun τ56 eτ56 => ?_)
  have h := h τ56 eτ56
  refine aw_aload_n (pc := 59) 0 dX8_reckonGame_59 rfl ?_
  refine aw_aload (pc := 60) 5 dX8_reckonGame_60 rfl ?_
  refine aw_iconst (pc := 62) 3 dX8_reckonGame_62 (by decide) ?_
  refine aw_iald (pc := 63) (j := 3) dX8_reckonGame_63 hr8.1 hr8.2.1 hr8.2.2 (show vp_in _ _ by unfold vp_in; decide) (by decide) ?_
  refine aw_iload (pc := 64) 4 dX8_reckonGame_64 rfl ?_
  refine aw_callV (pc := 66) (As := [.int (τ56 r8 3), .int x7]) (rest := []) kcX8 nn_179 ki_179 rfl (ev_X8_payExpenses l (τ56 r8 3) x7 h) mfX8_payExpenses dX8_reckonGame_66 lmX8_27 ⟨Nat.le_refl _, Nat.le_refl _⟩ (by decide) rfl rfl (Nat.le_of_ble_eq_true rfl) (nxV (fun τ66 h => ?_))
  refine aw_aload_n (pc := 69) 0 dX8_reckonGame_69 rfl ?_
  refine aw_iload (pc := 70) 4 dX8_reckonGame_70 rfl ?_
  refine aw_aload_n (pc := 72) 0 dX8_reckonGame_72 rfl ?_
  refine aw_getI (pc := 73) 2 kcX8 dX8_reckonGame_73 lfX8_31 nn_179 ki_179 (by decide) rfl ?_
  refine aw_isub (pc := 76) dX8_reckonGame_76 ?_
  refine aw_aload_n (pc := 77) 0 dX8_reckonGame_77 rfl ?_
  refine aw_getI (pc := 78) 3 kcX8 dX8_reckonGame_78 lfX8_34 nn_179 ki_179 (by decide) rfl ?_
  refine aw_isub (pc := 81) dX8_reckonGame_81 ?_
  refine aw_put (pc := 82) 4 kcX8 dX8_reckonGame_82 lfX8_37 nn_179 ki_179 (by decide) rfl rfl rfl rfl ?_
  refine aw_tops (fun τ82 eτ82 => ?_)
  have h := h τ82 eτ82
  refine aw_aload_n (pc := 85) 0 dX8_reckonGame_85 rfl ?_
  refine aw_aload (pc := 86) 5 dX8_reckonGame_86 rfl ?_
  refine aw_iload (pc := 88) 2 dX8_reckonGame_88 rfl ?_
  refine aw_if_ne (pc := 90) 97 dX8_reckonGame_90 (by decide) (fun q => ?_) (fun q => ?_)
  · have h := h.2 q
    refine aw_bipush (pc := 97) 6 dX8_reckonGame_97 (by decide) ?_
    refine aw_sub (L' := [(0, .ref 179), (4, .int x4), (8, .ref r8), (9, .int y9)]) [0, 2, 5, 6] rfl ?_
    exact bt_X8_reckonGame_99 l x2 x3 x4 x5 x6 x7   r8 y9 6 hr8 _ h
  · have h := h.1 q
    refine aw_iconst (pc := 93) 0 dX8_reckonGame_93 (by decide) ?_
    refine aw_goto (pc := 94) 99 dX8_reckonGame_94 (by decide) ?_
    refine aw_sub (L' := [(0, .ref 179), (4, .int x4), (8, .ref r8), (9, .int y9)]) [0, 2, 5, 6] rfl ?_
    exact bt_X8_reckonGame_99 l x2 x3 x4 x5 x6 x7   r8 y9 0 hr8 _ h
def b_X8_reckonGame_22 (x2 : Int32) (x3 : Int32) (x4 : Int32) (x5 : Int32) (x6 : Int32) (x7 : Int32)  (K : Sg → Prop) (r8 : Nat) (z0 : Int32) (σ : Sg) : Prop :=
  vp_in x5 12 ∧ (br (z0 = 0) (b_X8_reckonGame_42 x2 x3 x4 x5 x6 x7  K r8 z0 0 (4 + 1 + x5.toNatClampNeg) σ) (b_X8_reckonGame_42 x2 x3 x4 x5 x6 x7  K r8 z0 1 (4 + 1 + x5.toNatClampNeg) σ))
set_option maxRecDepth 20000 in
set_option maxHeartbeats 2000000 in
theorem bt_X8_reckonGame_22 (l : Launch) (x2 : Int32) (x3 : Int32) (x4 : Int32) (x5 : Int32) (x6 : Int32) (x7 : Int32) {K : Sg → Prop}   (r8 : Nat) (z0 : Int32) (hr8 : aOk r8 11) (σ : Sg) (h : b_X8_reckonGame_22 x2 x3 x4 x5 x6 x7  K r8 z0 σ) : AV l RX8 cX8_reckonGame 10 none 2 (qV K) 22 [(0, .ref 179), (1, .ref 3), (4, .int x4), (5, .int x5), (6, .int x6), (7, .int x7), (8, .ref r8)] [.int z0] σ := by
  refine aw_istore (pc := 22) [(9, .int z0), (0, .ref 179), (1, .ref 3), (4, .int x4), (5, .int x5), (6, .int x6), (7, .int x7), (8, .ref r8)] dX8_reckonGame_22 (by decide) rfl ?_
  refine aw_aload_n (pc := 24) 1 dX8_reckonGame_24 rfl ?_
  refine aw_aload_n (pc := 25) 2 dX8_reckonGame_25 rfl ?_
  refine aw_getRN (pc := 26) 2 kcX5 dX8_reckonGame_26 lfnX8_15 nn_3 ki_3 (by decide) rfl rf_3_2 ?_
  refine aw_iload (pc := 29) 4 dX8_reckonGame_29 rfl ?_
  have hin31 := h.1
  have h := h.2
  refine aw_aldI (pc := 31) dX8_reckonGame_31 nn_4 ki_4 ln_4 hin31 (rf15 ki_4) ?_
  refine aw_iload (pc := 32) 0 dX8_reckonGame_32 rfl ?_
  refine aw_if_eq (pc := 34) 41 dX8_reckonGame_34 (by decide) (fun q => ?_) (fun q => ?_)
  · have h := h.1 q
    refine aw_iconst (pc := 41) 0 dX8_reckonGame_41 (by decide) ?_
    refine aw_sub (L' := [(0, .ref 179), (1, .ref 3), (4, .int x4), (6, .int x6), (7, .int x7), (8, .ref r8), (9, .int z0)]) [1, 2, 3, 5, 6, 7, 0] rfl ?_
    exact bt_X8_reckonGame_42 l x2 x3 x4 x5 x6 x7   r8 z0 0 (4 + 1 + x5.toNatClampNeg) hr8 (row_4 _ (vp_lt hin31)) _ h
  · have h := h.2 q
    refine aw_iconst (pc := 37) 1 dX8_reckonGame_37 (by decide) ?_
    refine aw_goto (pc := 38) 42 dX8_reckonGame_38 (by decide) ?_
    refine aw_sub (L' := [(0, .ref 179), (1, .ref 3), (4, .int x4), (6, .int x6), (7, .int x7), (8, .ref r8), (9, .int z0)]) [1, 2, 3, 5, 6, 7, 0] rfl ?_
    exact bt_X8_reckonGame_42 l x2 x3 x4 x5 x6 x7   r8 z0 1 (4 + 1 + x5.toNatClampNeg) hr8 (row_4 _ (vp_lt hin31)) _ h
def wp_X8_reckonGame (x2 : Int32) (x3 : Int32) (x4 : Int32) (x5 : Int32) (x6 : Int32) (x7 : Int32) (σ : Sg) (K : Sg → Prop) : Prop :=
  vp_in x2 4 ∧ (br (x3 < (σ (17 + 1 + x2.toNatClampNeg) 9)) (b_X8_reckonGame_22 x2 x3 x4 x5 x6 x7  K (17 + 1 + x2.toNatClampNeg) 0 σ) (b_X8_reckonGame_22 x2 x3 x4 x5 x6 x7  K (17 + 1 + x2.toNatClampNeg) 1 σ))
set_option maxRecDepth 20000 in
set_option maxHeartbeats 2000000 in
theorem ev_X8_reckonGame (l : Launch) (x2 : Int32) (x3 : Int32) (x4 : Int32) (x5 : Int32) (x6 : Int32) (x7 : Int32) {σ : Sg} {K : Sg → Prop} (h : wp_X8_reckonGame x2 x3 x4 x5 x6 x7 σ K) : Ev l yX8_reckonGame cX8_reckonGame 10 none 2 [.ref 179, .ref 3, .int x2, .int x3, .int x4, .int x5, .int x6, .int x7] σ (qV K) := by
  refine ev_ov (by decide) (Nat.le_of_ble_eq_true rfl) ?_
  show AV l RX8 cX8_reckonGame 10 none 2 (qV K) 0 [(0, .ref 179), (1, .ref 3), (2, .int x2), (3, .int x3), (4, .int x4), (5, .int x5), (6, .int x6), (7, .int x7)] [] σ
  refine aw_aload_n (pc := 0) 1 dX8_reckonGame_0 rfl ?_
  refine aw_getRN (pc := 1) 3 kcX5 dX8_reckonGame_1 lfnX8_9 nn_3 ki_3 (by decide) rfl rf_3_3 ?_
  refine aw_iload_n (pc := 4) 2 dX8_reckonGame_4 rfl ?_
  have hin5 := h.1
  have h := h.2
  refine aw_aldI (pc := 5) dX8_reckonGame_5 nn_17 ki_17 ln_17 hin5 (rf15 ki_17) ?_
  refine aw_astore (pc := 6) [(8, .ref (17 + 1 + x2.toNatClampNeg)), (0, .ref 179), (1, .ref 3), (2, .int x2), (3, .int x3), (4, .int x4), (5, .int x5), (6, .int x6), (7, .int x7)] dX8_reckonGame_6 (by decide) rfl ?_
  refine aw_iload_n (pc := 8) 4 dX8_reckonGame_8 rfl ?_
  refine aw_aload (pc := 9) 0 dX8_reckonGame_9 rfl ?_
  refine aw_bipush (pc := 11) 9 dX8_reckonGame_11 (by decide) ?_
  refine aw_iald (pc := 13) (j := 9) dX8_reckonGame_13 (row_17 _ (vp_lt hin5)).1 (row_17 _ (vp_lt hin5)).2.1 (row_17 _ (vp_lt hin5)).2.2 (show vp_in _ _ by unfold vp_in; decide) (by decide) ?_
  refine aw_icmp_lt (pc := 14) 21 dX8_reckonGame_14 (by decide) (fun q => ?_) (fun q => ?_)
  · have h := h.1 q
    refine aw_iconst (pc := 21) 0 dX8_reckonGame_21 (by decide) ?_
    refine aw_sub (L' := [(0, .ref 179), (1, .ref 3), (4, .int x4), (5, .int x5), (6, .int x6), (7, .int x7), (8, .ref (17 + 1 + x2.toNatClampNeg))]) [1, 2, 5, 6, 7, 8, 0] rfl ?_
    exact bt_X8_reckonGame_22 l x2 x3 x4 x5 x6 x7   (17 + 1 + x2.toNatClampNeg) 0 (row_17 _ (vp_lt hin5)) _ h
  · have h := h.2 q
    refine aw_iconst (pc := 17) 1 dX8_reckonGame_17 (by decide) ?_
    refine aw_goto (pc := 18) 22 dX8_reckonGame_18 (by decide) ?_
    refine aw_sub (L' := [(0, .ref 179), (1, .ref 3), (4, .int x4), (5, .int x5), (6, .int x6), (7, .int x7), (8, .ref (17 + 1 + x2.toNatClampNeg))]) [1, 2, 5, 6, 7, 8, 0] rfl ?_
    exact bt_X8_reckonGame_22 l x2 x3 x4 x5 x6 x7   (17 + 1 + x2.toNatClampNeg) 1 (row_17 _ (vp_lt hin5)) _ h
def b_X8_partOf_38 (x1 : Int32) (x2 : Int32)  (K : Int32 → Sg → Prop) (z0 : Int32) (σ : Sg) : Prop :=
  br (z0 = 0) (K ((σ 179 3) + (σ 179 6)) σ) (K ((σ 179 2) + (σ 179 5)) σ)
set_option maxRecDepth 20000 in
set_option maxHeartbeats 2000000 in
theorem bt_X8_partOf_38 (l : Launch) (x1 : Int32) (x2 : Int32) {K : Int32 → Sg → Prop}   (z0 : Int32)  (σ : Sg) (h : b_X8_partOf_38 x1 x2  K z0 σ) : AV l RX8 cX8_partOf 4 (some .int) 0 (qI K) 38 [(0, .ref 179)] [.int z0] σ := by
  refine aw_istore_n (pc := 38) (i := 3) [(3, .int z0), (0, .ref 179)] dX8_partOf_38 rfl (by decide) rfl ?_
  refine aw_iload_n (pc := 39) 0 dX8_partOf_39 rfl ?_
  refine aw_if_eq (pc := 40) 55 dX8_partOf_40 (by decide) (fun q => ?_) (fun q => ?_)
  · have h := h.1 q
    refine aw_aload_n (pc := 55) 1 dX8_partOf_55 rfl ?_
    refine aw_getI (pc := 56) 3 kcX8 dX8_partOf_56 lfX8_34 nn_179 ki_179 (by decide) rfl ?_
    refine aw_aload_n (pc := 59) 1 dX8_partOf_59 rfl ?_
    refine aw_getI (pc := 60) 6 kcX8 dX8_partOf_60 lfX8_60 nn_179 ki_179 (by decide) rfl ?_
    refine aw_iadd (pc := 63) dX8_partOf_63 ?_
    exact aw_iret (pc := 64) rfl dX8_partOf_64 ⟨_, rfl, h⟩
  · have h := h.2 q
    refine aw_aload_n (pc := 43) 1 dX8_partOf_43 rfl ?_
    refine aw_getI (pc := 44) 2 kcX8 dX8_partOf_44 lfX8_31 nn_179 ki_179 (by decide) rfl ?_
    refine aw_aload_n (pc := 47) 1 dX8_partOf_47 rfl ?_
    refine aw_getI (pc := 48) 5 kcX8 dX8_partOf_48 lfX8_57 nn_179 ki_179 (by decide) rfl ?_
    refine aw_iadd (pc := 51) dX8_partOf_51 ?_
    refine aw_goto (pc := 52) 64 dX8_partOf_52 (by decide) ?_
    exact aw_iret (pc := 64) rfl dX8_partOf_64 ⟨_, rfl, h⟩
def b_X8_partOf_30 (x1 : Int32) (x2 : Int32)  (K : Int32 → Sg → Prop) (z0 : Int32) (z1 : Int32) (σ : Sg) : Prop :=
  br (z1 = z0) (b_X8_partOf_38 x1 x2  K 1 σ) (b_X8_partOf_38 x1 x2  K 0 σ)
set_option maxRecDepth 20000 in
set_option maxHeartbeats 2000000 in
theorem bt_X8_partOf_30 (l : Launch) (x1 : Int32) (x2 : Int32) {K : Int32 → Sg → Prop}   (z0 : Int32) (z1 : Int32)  (σ : Sg) (h : b_X8_partOf_30 x1 x2  K z0 z1 σ) : AV l RX8 cX8_partOf 4 (some .int) 0 (qI K) 30 [(0, .ref 179)] [.int z0, .int z1] σ := by
  refine aw_icmp_ne (pc := 30) 37 dX8_partOf_30 (by decide) (fun q => ?_) (fun q => ?_)
  · have h := h.2 q
    refine aw_iconst (pc := 37) 0 dX8_partOf_37 (by decide) ?_
    exact bt_X8_partOf_38 l x1 x2   0  _ h
  · have h := h.1 q
    refine aw_iconst (pc := 33) 1 dX8_partOf_33 (by decide) ?_
    refine aw_goto (pc := 34) 38 dX8_partOf_34 (by decide) ?_
    exact bt_X8_partOf_38 l x1 x2   1  _ h
def b_X8_partOf_21 (x1 : Int32) (x2 : Int32)  (K : Int32 → Sg → Prop) (z0 : Int32) (σ : Sg) : Prop :=
  br (x1 = 0) (b_X8_partOf_30 x1 x2  K 1 z0 σ) (b_X8_partOf_30 x1 x2  K 0 z0 σ)
set_option maxRecDepth 20000 in
set_option maxHeartbeats 2000000 in
theorem bt_X8_partOf_21 (l : Launch) (x1 : Int32) (x2 : Int32) {K : Int32 → Sg → Prop}   (z0 : Int32)  (σ : Sg) (h : b_X8_partOf_21 x1 x2  K z0 σ) : AV l RX8 cX8_partOf 4 (some .int) 0 (qI K) 21 [(0, .ref 179), (1, .int x1)] [.int z0] σ := by
  refine aw_iload_n (pc := 21) 1 dX8_partOf_21 rfl ?_
  refine aw_if_ne (pc := 22) 29 dX8_partOf_22 (by decide) (fun q => ?_) (fun q => ?_)
  · have h := h.2 q
    refine aw_iconst (pc := 29) 0 dX8_partOf_29 (by decide) ?_
    refine aw_sub (L' := [(0, .ref 179)]) [0] rfl ?_
    exact bt_X8_partOf_30 l x1 x2   0 z0  _ h
  · have h := h.1 q
    refine aw_iconst (pc := 25) 1 dX8_partOf_25 (by decide) ?_
    refine aw_goto (pc := 26) 30 dX8_partOf_26 (by decide) ?_
    refine aw_sub (L' := [(0, .ref 179)]) [0] rfl ?_
    exact bt_X8_partOf_30 l x1 x2   1 z0  _ h
def wp_X8_partOf (x1 : Int32) (x2 : Int32) (σ : Sg) (K : Int32 → Sg → Prop) : Prop :=
  br (x1 = 2) (K (σ 179 7) σ) (br ((x2 - x2 / 2 * 2) = 0) (b_X8_partOf_21 x1 x2  K 1 σ) (b_X8_partOf_21 x1 x2  K 0 σ))
set_option maxRecDepth 20000 in
set_option maxHeartbeats 2000000 in
theorem ev_X8_partOf (l : Launch) (x1 : Int32) (x2 : Int32) {σ : Sg} {K : Int32 → Sg → Prop} (h : wp_X8_partOf x1 x2 σ K) : Ev l yX8_partOf cX8_partOf 4 (some .int) 0 [.ref 179, .int x1, .int x2] σ (qI K) := by
  refine ev_ov (by decide) (Nat.le_of_ble_eq_true rfl) ?_
  show AV l RX8 cX8_partOf 4 (some .int) 0 (qI K) 0 [(0, .ref 179), (1, .int x1), (2, .int x2)] [] σ
  refine aw_iload_n (pc := 0) 1 dX8_partOf_0 rfl ?_
  refine aw_iconst (pc := 1) 2 dX8_partOf_1 (by decide) ?_
  refine aw_icmp_ne (pc := 2) 10 dX8_partOf_2 (by decide) (fun q => ?_) (fun q => ?_)
  · have h := h.2 q
    refine aw_iload_n (pc := 10) 2 dX8_partOf_10 rfl ?_
    refine aw_iconst (pc := 11) 2 dX8_partOf_11 (by decide) ?_
    refine aw_irem (pc := 12) dX8_partOf_12 (by decide) ?_
    refine aw_if_ne (pc := 13) 20 dX8_partOf_13 (by decide) (fun q => ?_) (fun q => ?_)
    · have h := h.2 q
      refine aw_iconst (pc := 20) 0 dX8_partOf_20 (by decide) ?_
      refine aw_sub (L' := [(0, .ref 179), (1, .int x1)]) [0, 1] rfl ?_
      exact bt_X8_partOf_21 l x1 x2   0  _ h
    · have h := h.1 q
      refine aw_iconst (pc := 16) 1 dX8_partOf_16 (by decide) ?_
      refine aw_goto (pc := 17) 21 dX8_partOf_17 (by decide) ?_
      refine aw_sub (L' := [(0, .ref 179), (1, .int x1)]) [0, 1] rfl ?_
      exact bt_X8_partOf_21 l x1 x2   1  _ h
  · have h := h.1 q
    refine aw_aload_n (pc := 5) 0 dX8_partOf_5 rfl ?_
    refine aw_getI (pc := 6) 7 kcX8 dX8_partOf_6 lfX8_63 nn_179 ki_179 (by decide) rfl ?_
    exact aw_iret (pc := 9) rfl dX8_partOf_9 ⟨_, rfl, h⟩
