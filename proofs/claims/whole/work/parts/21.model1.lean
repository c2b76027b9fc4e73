def wp_X10_readOption (i1 : Nat) (x2 : Int32) (x3 : Int32) (x4 : Int32) (σ : Sg) (K : Sg → Prop) : Prop :=
  wp_X10_takesWord i1 σ <| fun r2_ τ2 => (br (r2_ = 0) (K τ2) (wp_X10_number x3 x4 τ2 <| fun r17_ τ17 => (vp_in x2 106 ∧ (∀ τ20 : Sg, τ20 = up τ17 235 x2.toNatClampNeg r17_ → (K τ20)))))
set_option maxRecDepth 20000 in
set_option maxHeartbeats 2000000 in
theorem ev_X10_readOption (l : Launch) (i1 : Nat) (hi1 : i1 < nSt) (gi1 : i1 ≠ 99) (x2 : Int32) (x3 : Int32) (x4 : Int32) {σ : Sg} {K : Sg → Prop} (h : wp_X10_readOption i1 x2 x3 x4 σ K) : Ev l yX10_readOption cX10_readOption 5 none 7 [.ref 233, .retAddr i1, .int x2, .int x3, .int x4] σ (qV K) := by
  refine ev_ov (by decide) (Nat.le_of_ble_eq_true rfl) ?_
  show AV l RX10 cX10_readOption 5 none 7 (qV K) 0 [(0, .ref 233), (1, .retAddr i1), (2, .int x2), (3, .int x3), (4, .int x4)] [] σ
  refine aw_aload_n (pc := 0) 0 dX10_readOption_0 rfl ?_
  refine aw_aload_nS (pc := 1) 1 gi1 dX10_readOption_1 rfl ?_
  refine aw_callV (pc := 2) (As := [.retAddr i1]) (rest := []) kcX10 nn_233 ki_233 rfl (ev_X10_takesWord l i1 hi1 gi1 h) mfX10_takesWord dX10_readOption_2 lmX10_150 ⟨Nat.le_refl _, Nat.le_refl _⟩ (by decide) rfl rfl (Nat.le_of_ble_eq_true rfl) (nxI (fun r2_ τ2 h => ?_))
  refine aw_if_eq (pc := 5) 21 dX10_readOption_5 (by decide) (fun q => ?_) (fun q => ?_)
  · have h := h.1 q
    exact aw_vret (pc := 21) rfl dX10_readOption_21 ⟨rfl, h⟩
  · have h := h.2 q
    refine aw_aload_n (pc := 8) 0 dX10_readOption_8 rfl ?_
    refine aw_getR (pc := 9) 2 kcX10 dX10_readOption_9 lfX10_13 nn_233 ki_233 (by decide) rfl rf_233_2 ?_
    refine aw_iload_n (pc := 12) 2 dX10_readOption_12 rfl ?_
    refine aw_aload_n (pc := 13) 0 dX10_readOption_13 rfl ?_
    refine aw_iload_n (pc := 14) 3 dX10_readOption_14 rfl ?_
    refine aw_iload (pc := 15) 4 dX10_readOption_15 rfl ?_
    refine aw_callV (pc := 17) (As := [.int x3, .int x4]) (rest := [.int x2, .ref 235]) kcX10 nn_233 ki_233 rfl (ev_X10_number l x3 x4 h) mfX10_number dX10_readOption_17 lmX10_145 ⟨Nat.le_refl _, Nat.le_refl _⟩ (by decide) rfl rfl (Nat.le_of_ble_eq_true rfl) (nxI (fun r17_ τ17 h => ?_))
    refine aw_iast (pc := 20) (j := x2.toNatClampNeg) (v := r17_) dX10_readOption_20 nn_235 ki_235 ln_235 h.1 rfl rfl ?_
    have h := h.2
    refine aw_tops (fun τ20 eτ20 => ?_)
    have h := h τ20 eτ20
    exact aw_vret (pc := 21) rfl dX10_readOption_21 ⟨rfl, h⟩
def b_X10_readCup_147   (K : Sg → Prop) (y2 : Int32) (σ : Sg) : Prop :=
  wp_X10_readOption 6 (y2 + 9) 1 6 σ <| fun τ157 => (wp_X10_readOption 7 (y2 + 10) 0 2 τ157 <| fun τ169 => (∀ τ181 : Sg, τ181 = up τ169 235 1 ((τ169 235 1) + 1) → (K τ181)))
set_option maxRecDepth 20000 in
set_option maxHeartbeats 2000000 in
theorem bt_X10_readCup_147 (l : Launch)  {K : Sg → Prop}   (y2 : Int32)  (σ : Sg) (h : b_X10_readCup_147   K y2 σ) : AV l RX10 cX10_readCup 4 none 8 (qV K) 147 [(0, .ref 233), (2, .int y2)] [] σ := by
  refine aw_aload_n (pc := 147) 0 dX10_readCup_147 rfl ?_
  refine aw_ldcS (pc := 148) 6 (by decide) dX10_readCup_148 lsX10_169 ?_
  refine aw_iload_n (pc := 150) 1 dX10_readCup_150 rfl ?_
  refine aw_bipush (pc := 151) 9 dX10_readCup_151 (by decide) ?_
  refine aw_iadd (pc := 153) dX10_readCup_153 ?_
  refine aw_iconst (pc := 154) 1 dX10_readCup_154 (by decide) ?_
  refine aw_bipush (pc := 155) 6 dX10_readCup_155 (by decide) ?_
  refine aw_callV (pc := 157) (As := [.retAddr 6, .int (y2 + 9), .int 1, .int 6]) (rest := []) kcX10 nn_233 ki_233 rfl (ev_X10_readOption l 6 (by decide) (by decide) (y2 + 9) 1 6 h) mfX10_readOption dX10_readCup_157 lmX10_159 ⟨Nat.le_refl _, Nat.le_refl _⟩ (by decide) rfl rfl (Nat.le_of_ble_eq_true rfl) (nxV (fun τ157 h => ?_))
  refine aw_aload_n (pc := 160) 0 dX10_readCup_160 rfl ?_
  refine aw_ldcS (pc := 161) 7 (by decide) dX10_readCup_161 lsX10_171 ?_
  refine aw_iload_n (pc := 163) 1 dX10_readCup_163 rfl ?_
  refine aw_bipush (pc := 164) 10 dX10_readCup_164 (by decide) ?_
  refine aw_iadd (pc := 166) dX10_readCup_166 ?_
  refine aw_iconst (pc := 167) 0 dX10_readCup_167 (by decide) ?_
  refine aw_iconst (pc := 168) 2 dX10_readCup_168 (by decide) ?_
  refine aw_callV (pc := 169) (As := [.retAddr 7, .int (y2 + 10), .int 0, .int 2]) (rest := []) kcX10 nn_233 ki_233 rfl (ev_X10_readOption l 7 (by decide) (by decide) (y2 + 10) 0 2 h) mfX10_readOption dX10_readCup_169 lmX10_159 ⟨Nat.le_refl _, Nat.le_refl _⟩ (by decide) rfl rfl (Nat.le_of_ble_eq_true rfl) (nxV (fun τ169 h => ?_))
  refine aw_aload_n (pc := 172) 0 dX10_readCup_172 rfl ?_
  refine aw_getR (pc := 173) 2 kcX10 dX10_readCup_173 lfX10_13 nn_233 ki_233 (by decide) rfl rf_233_2 ?_
  refine aw_iconst (pc := 176) 1 dX10_readCup_176 (by decide) ?_
  refine aw_dup2 (pc := 177) dX10_readCup_177 rfl rfl ?_
  refine aw_iald (pc := 178) (j := 1) dX10_readCup_178 nn_235 ki_235 ln_235 (show vp_in _ _ by unfold vp_in; decide) (by decide) ?_
  refine aw_iconst (pc := 179) 1 dX10_readCup_179 (by decide) ?_
  refine aw_iadd (pc := 180) dX10_readCup_180 ?_
  refine aw_iast (pc := 181) (j := 1) (v := ((τ169 235 1) + 1)) dX10_readCup_181 nn_235 ki_235 ln_235 (show vp_in _ _ by unfold vp_in; decide) (by decide) rfl ?_
  refine aw_tops (fun τ181 eτ181 => ?_)
  have h := h τ181 eτ181
  exact aw_vret (pc := 182) rfl dX10_readCup_182 ⟨rfl, h⟩
def b_X10_readCup_115   (K : Sg → Prop) : Nat → Int32 → Int32 → Sg → Prop
  | 0, _, _, _ => False
  | n + 1, y2, y3, σ =>
  br (3 ≤ y3) (b_X10_readCup_147   K y2 σ) (vp_in ((y2 + 0) + y3) 106 ∧ (vp_in ((y2 + 6) + y3) 106 ∧ (∀ τ140 : Sg, τ140 = up σ 235 ((y2 + 6) + y3).toNatClampNeg (σ 235 ((y2 + 0) + y3).toNatClampNeg) → (∀ v141 : Int32, v141 = y3 + 1 → (b_X10_readCup_115   K n y2 v141 τ140)))))
set_option maxRecDepth 20000 in
set_option maxHeartbeats 2000000 in
theorem bt_X10_readCup_115 (l : Launch)  {K : Sg → Prop}   : ∀ (n : Nat) (y2 : Int32) (y3 : Int32)  (σ : Sg), b_X10_readCup_115   K n y2 y3 σ → AV l RX10 cX10_readCup 4 none 8 (qV K) 115 [(0, .ref 233), (2, .int y2), (3, .int y3)] [] σ := by
  intro n
  induction n with
  | zero => intro y2 y3 σ h; exact h.elim
  | succ n ih =>
    intro y2 y3 σ h
    refine aw_iload_n (pc := 115) 2 dX10_readCup_115 rfl ?_
    refine aw_iconst (pc := 116) 3 dX10_readCup_116 (by decide) ?_
    refine aw_icmp_ge (pc := 117) 147 dX10_readCup_117 (by decide) (fun q => ?_) (fun q => ?_)
    · have h := h.1 q
      refine aw_sub (L' := [(0, .ref 233), (2, .int y2)]) [0, 1] rfl ?_
      exact bt_X10_readCup_147 l    y2  _ h
    · have h := h.2 q
      refine aw_aload_n (pc := 120) 0 dX10_readCup_120 rfl ?_
      refine aw_getR (pc := 121) 2 kcX10 dX10_readCup_121 lfX10_13 nn_233 ki_233 (by decide) rfl rf_233_2 ?_
      refine aw_iload_n (pc := 124) 1 dX10_readCup_124 rfl ?_
      refine aw_bipush (pc := 125) 6 dX10_readCup_125 (by decide) ?_
      refine aw_iadd (pc := 127) dX10_readCup_127 ?_
      refine aw_iload_n (pc := 128) 2 dX10_readCup_128 rfl ?_
      refine aw_iadd (pc := 129) dX10_readCup_129 ?_
      refine aw_aload_n (pc := 130) 0 dX10_readCup_130 rfl ?_
      refine aw_getR (pc := 131) 2 kcX10 dX10_readCup_131 lfX10_13 nn_233 ki_233 (by decide) rfl rf_233_2 ?_
      refine aw_iload_n (pc := 134) 1 dX10_readCup_134 rfl ?_
      refine aw_iconst (pc := 135) 0 dX10_readCup_135 (by decide) ?_
      refine aw_iadd (pc := 136) dX10_readCup_136 ?_
      refine aw_iload_n (pc := 137) 2 dX10_readCup_137 rfl ?_
      refine aw_iadd (pc := 138) dX10_readCup_138 ?_
      refine aw_iald (pc := 139) (j := ((y2 + 0) + y3).toNatClampNeg) dX10_readCup_139 nn_235 ki_235 ln_235 h.1 rfl ?_
      have h := h.2
      refine aw_iast (pc := 140) (j := ((y2 + 6) + y3).toNatClampNeg) (v := (σ 235 ((y2 + 0) + y3).toNatClampNeg)) dX10_readCup_140 nn_235 ki_235 ln_235 h.1 rfl rfl ?_
      have h := h.2
      refine aw_tops (fun τ140 eτ140 => ?_)
      have h := h τ140 eτ140
      obtain ⟨v141, ev141⟩ : ∃ v : Int32, v = y3 + 1 := ⟨_, rfl⟩
      have h := h v141 ev141
      refine aw_iinc (pc := 141) 2 v141 [(3, .int v141), (0, .ref 233), (2, .int y2)] dX10_readCup_141 rfl (by rw [ev141]; rfl) (by decide) rfl ?_
      refine aw_goto (pc := 144) 115 dX10_readCup_144 (by decide) ?_
      refine aw_sub (L' := [(0, .ref 233), (2, .int y2), (3, .int v141)]) [1, 2, 0] rfl ?_
      exact ih y2 v141  _ h
def wp_X10_readCup  (σ : Sg) (K : Sg → Prop) : Prop :=
  ∀ v6 : Int32, v6 = σ 235 1 → (br (v6 = 4) (wp_X10_wrong 3 ((σ 233 10) - 3) σ <| fun τ20 => (K τ20)) (∀ v31 : Int32, v31 = 38 + (17 * v6) → (vp_in (v31 + 5) 106 ∧ (∀ τ40 : Sg, τ40 = up σ 235 (v31 + 5).toNatClampNeg 1 → (vp_in (v31 + 9) 106 ∧ (∀ τ51 : Sg, τ51 = up τ40 235 (v31 + 9).toNatClampNeg 6 → (wp_X10_readParts (v31 + 0) τ51 <| fun τ56 => (wp_X10_readOption 2 (v31 + 3) 0 2 τ56 <| fun τ67 => (wp_X10_readOption 3 (v31 + 4) 0 99999 τ67 <| fun τ79 => (wp_X10_readOption 4 (v31 + 5) 0 3 τ79 <| fun τ90 => (wp_X10_takesWord 5 τ90 <| fun r96_ τ96 => (br (r96_ = 0) (∃ nf, b_X10_readCup_115   K nf v31 0 τ96) (wp_X10_readParts (v31 + 6) τ96 <| fun τ107 => (b_X10_readCup_147   K v31 τ107))))))))))))))
set_option maxRecDepth 20000 in
set_option maxHeartbeats 2000000 in
theorem ev_X10_readCup (l : Launch)  {σ : Sg} {K : Sg → Prop} (h : wp_X10_readCup  σ K) : Ev l yX10_readCup cX10_readCup 4 none 8 [.ref 233] σ (qV K) := by
  refine ev_ov (by decide) (Nat.le_of_ble_eq_true rfl) ?_
  show AV l RX10 cX10_readCup 4 none 8 (qV K) 0 [(0, .ref 233)] [] σ
  refine aw_aload_n (pc := 0) 0 dX10_readCup_0 rfl ?_
  refine aw_getR (pc := 1) 2 kcX10 dX10_readCup_1 lfX10_13 nn_233 ki_233 (by decide) rfl rf_233_2 ?_
  refine aw_iconst (pc := 4) 1 dX10_readCup_4 (by decide) ?_
  refine aw_iald (pc := 5) (j := 1) dX10_readCup_5 nn_235 ki_235 ln_235 (show vp_in _ _ by unfold vp_in; decide) (by decide) ?_
  refine aw_topi (fun v6 ev6 => ?_)
  have h := h v6 ev6
  refine aw_istore_n (pc := 6) (i := 1) [(1, .int v6), (0, .ref 233)] dX10_readCup_6 rfl (by decide) rfl ?_
  refine aw_iload_n (pc := 7) 0 dX10_readCup_7 rfl ?_
  refine aw_iconst (pc := 8) 4 dX10_readCup_8 (by decide) ?_
  refine aw_icmp_ne (pc := 9) 24 dX10_readCup_9 (by decide) (fun q => ?_) (fun q => ?_)
  · have h := h.2 q
    refine aw_bipush (pc := 24) 38 dX10_readCup_24 (by decide) ?_
    refine aw_bipush (pc := 26) 17 dX10_readCup_26 (by decide) ?_
    refine aw_iload_n (pc := 28) 0 dX10_readCup_28 rfl ?_
    refine aw_imul (pc := 29) dX10_readCup_29 ?_
    refine aw_iadd (pc := 30) dX10_readCup_30 ?_
    refine aw_topi (fun v31 ev31 => ?_)
    have h := h v31 ev31
    refine aw_istore_n (pc := 31) (i := 2) [(2, .int v31), (1, .int v6), (0, .ref 233)] dX10_readCup_31 rfl (by decide) rfl ?_
    refine aw_aload_n (pc := 32) 2 dX10_readCup_32 rfl ?_
    refine aw_getR (pc := 33) 2 kcX10 dX10_readCup_33 lfX10_13 nn_233 ki_233 (by decide) rfl rf_233_2 ?_
    refine aw_iload_n (pc := 36) 0 dX10_readCup_36 rfl ?_
    refine aw_iconst (pc := 37) 5 dX10_readCup_37 (by decide) ?_
    refine aw_iadd (pc := 38) dX10_readCup_38 ?_
    refine aw_iconst (pc := 39) 1 dX10_readCup_39 (by decide) ?_
    refine aw_iast (pc := 40) (j := (v31 + 5).toNatClampNeg) (v := 1) dX10_readCup_40 nn_235 ki_235 ln_235 h.1 rfl rfl ?_
    have h := h.2
    refine aw_tops (fun τ40 eτ40 => ?_)
    have h := h τ40 eτ40
    refine aw_aload_n (pc := 41) 2 dX10_readCup_41 rfl ?_
    refine aw_getR (pc := 42) 2 kcX10 dX10_readCup_42 lfX10_13 nn_233 ki_233 (by decide) rfl rf_233_2 ?_
    refine aw_iload_n (pc := 45) 0 dX10_readCup_45 rfl ?_
    refine aw_bipush (pc := 46) 9 dX10_readCup_46 (by decide) ?_
    refine aw_iadd (pc := 48) dX10_readCup_48 ?_
    refine aw_bipush (pc := 49) 6 dX10_readCup_49 (by decide) ?_
    refine aw_iast (pc := 51) (j := (v31 + 9).toNatClampNeg) (v := 6) dX10_readCup_51 nn_235 ki_235 ln_235 h.1 rfl rfl ?_
    have h := h.2
    refine aw_tops (fun τ51 eτ51 => ?_)
    have h := h τ51 eτ51
    refine aw_aload_n (pc := 52) 2 dX10_readCup_52 rfl ?_
    refine aw_iload_n (pc := 53) 0 dX10_readCup_53 rfl ?_
    refine aw_iconst (pc := 54) 0 dX10_readCup_54 (by decide) ?_
    refine aw_iadd (pc := 55) dX10_readCup_55 ?_
    refine aw_callV (pc := 56) (As := [.int (v31 + 0)]) (rest := []) kcX10 nn_233 ki_233 rfl (ev_X10_readParts l (v31 + 0) h) mfX10_readParts dX10_readCup_56 lmX10_153 ⟨Nat.le_refl _, Nat.le_refl _⟩ (by decide) rfl rfl (Nat.le_of_ble_eq_true rfl) (nxV (fun τ56 h => ?_))
    refine aw_aload_n (pc := 59) 2 dX10_readCup_59 rfl ?_
    refine aw_ldcS (pc := 60) 2 (by decide) dX10_readCup_60 lsX10_157 ?_
    refine aw_iload_n (pc := 62) 0 dX10_readCup_62 rfl ?_
    refine aw_iconst (pc := 63) 3 dX10_readCup_63 (by decide) ?_
    refine aw_iadd (pc := 64) dX10_readCup_64 ?_
    refine aw_iconst (pc := 65) 0 dX10_readCup_65 (by decide) ?_
    refine aw_iconst (pc := 66) 2 dX10_readCup_66 (by decide) ?_
    refine aw_callV (pc := 67) (As := [.retAddr 2, .int (v31 + 3), .int 0, .int 2]) (rest := []) kcX10 nn_233 ki_233 rfl (ev_X10_readOption l 2 (by decide) (by decide) (v31 + 3) 0 2 h) mfX10_readOption dX10_readCup_67 lmX10_159 ⟨Nat.le_refl _, Nat.le_refl _⟩ (by decide) rfl rfl (Nat.le_of_ble_eq_true rfl) (nxV (fun τ67 h => ?_))
    refine aw_aload_n (pc := 70) 2 dX10_readCup_70 rfl ?_
    refine aw_ldcS (pc := 71) 3 (by decide) dX10_readCup_71 lsX10_163 ?_
    refine aw_iload_n (pc := 73) 0 dX10_readCup_73 rfl ?_
    refine aw_iconst (pc := 74) 4 dX10_readCup_74 (by decide) ?_
    refine aw_iadd (pc := 75) dX10_readCup_75 ?_
    refine aw_iconst (pc := 76) 0 dX10_readCup_76 (by decide) ?_
    refine aw_ldc (pc := 77) 99999 dX10_readCup_77 lcX10_149 ?_
    refine aw_callV (pc := 79) (As := [.retAddr 3, .int (v31 + 4), .int 0, .int 99999]) (rest := []) kcX10 nn_233 ki_233 rfl (ev_X10_readOption l 3 (by decide) (by decide) (v31 + 4) 0 99999 h) mfX10_readOption dX10_readCup_79 lmX10_159 ⟨Nat.le_refl _, Nat.le_refl _⟩ (by decide) rfl rfl (Nat.le_of_ble_eq_true rfl) (nxV (fun τ79 h => ?_))
    refine aw_aload_n (pc := 82) 2 dX10_readCup_82 rfl ?_
    refine aw_ldcS (pc := 83) 4 (by decide) dX10_readCup_83 lsX10_165 ?_
    refine aw_iload_n (pc := 85) 0 dX10_readCup_85 rfl ?_
    refine aw_iconst (pc := 86) 5 dX10_readCup_86 (by decide) ?_
    refine aw_iadd (pc := 87) dX10_readCup_87 ?_
    refine aw_iconst (pc := 88) 0 dX10_readCup_88 (by decide) ?_
    refine aw_iconst (pc := 89) 3 dX10_readCup_89 (by decide) ?_
    refine aw_callV (pc := 90) (As := [.retAddr 4, .int (v31 + 5), .int 0, .int 3]) (rest := []) kcX10 nn_233 ki_233 rfl (ev_X10_readOption l 4 (by decide) (by decide) (v31 + 5) 0 3 h) mfX10_readOption dX10_readCup_90 lmX10_159 ⟨Nat.le_refl _, Nat.le_refl _⟩ (by decide) rfl rfl (Nat.le_of_ble_eq_true rfl) (nxV (fun τ90 h => ?_))
    refine aw_aload_n (pc := 93) 2 dX10_readCup_93 rfl ?_
    refine aw_ldcS (pc := 94) 5 (by decide) dX10_readCup_94 lsX10_167 ?_
    refine aw_callV (pc := 96) (As := [.retAddr 5]) (rest := []) kcX10 nn_233 ki_233 rfl (ev_X10_takesWord l 5 (by decide) (by decide) h) mfX10_takesWord dX10_readCup_96 lmX10_150 ⟨Nat.le_refl _, Nat.le_refl _⟩ (by decide) rfl rfl (Nat.le_of_ble_eq_true rfl) (nxI (fun r96_ τ96 h => ?_))
    refine aw_if_eq (pc := 99) 113 dX10_readCup_99 (by decide) (fun q => ?_) (fun q => ?_)
    · have h := h.1 q
      refine aw_iconst (pc := 113) 0 dX10_readCup_113 (by decide) ?_
      refine aw_istore_n (pc := 114) (i := 3) [(3, .int 0), (2, .int v31), (1, .int v6), (0, .ref 233)] dX10_readCup_114 rfl (by decide) rfl ?_
      refine aw_sub (L' := [(0, .ref 233), (2, .int v31), (3, .int 0)]) [3, 1, 0] rfl ?_
      obtain ⟨nf, h⟩ := h
      exact bt_X10_readCup_115 l    nf v31 0  _ h
    · have h := h.2 q
      refine aw_aload_n (pc := 102) 2 dX10_readCup_102 rfl ?_
      refine aw_iload_n (pc := 103) 0 dX10_readCup_103 rfl ?_
      refine aw_bipush (pc := 104) 6 dX10_readCup_104 (by decide) ?_
      refine aw_iadd (pc := 106) dX10_readCup_106 ?_
      refine aw_callV (pc := 107) (As := [.int (v31 + 6)]) (rest := []) kcX10 nn_233 ki_233 rfl (ev_X10_readParts l (v31 + 6) h) mfX10_readParts dX10_readCup_107 lmX10_153 ⟨Nat.le_refl _, Nat.le_refl _⟩ (by decide) rfl rfl (Nat.le_of_ble_eq_true rfl) (nxV (fun τ107 h => ?_))
      refine aw_goto (pc := 110) 147 dX10_readCup_110 (by decide) ?_
      refine aw_sub (L' := [(0, .ref 233), (2, .int v31)]) [2, 0] rfl ?_
      exact bt_X10_readCup_147 l    v31  _ h
  · have h := h.1 q
    refine aw_aload_n (pc := 12) 1 dX10_readCup_12 rfl ?_
    refine aw_iconst (pc := 13) 3 dX10_readCup_13 (by decide) ?_
    refine aw_aload_n (pc := 14) 1 dX10_readCup_14 rfl ?_
    refine aw_getI (pc := 15) 10 kcX10 dX10_readCup_15 lfX10_109 nn_233 ki_233 (by decide) rfl ?_
    refine aw_iconst (pc := 18) 3 dX10_readCup_18 (by decide) ?_
    refine aw_isub (pc := 19) dX10_readCup_19 ?_
    refine aw_callV (pc := 20) (As := [.int 3, .int ((σ 233 10) - 3)]) (rest := []) kcX10 nn_233 ki_233 rfl (ev_X10_wrong l 3 ((σ 233 10) - 3) h) mfX10_wrong dX10_readCup_20 lmX10_141 ⟨Nat.le_refl _, Nat.le_refl _⟩ (by decide) rfl rfl (Nat.le_of_ble_eq_true rfl) (nxV (fun τ20 h => ?_))
    exact aw_vret (pc := 23) rfl dX10_readCup_23 ⟨rfl, h⟩
def wp_X10_readWay  (σ : Sg) (K : Sg → Prop) : Prop :=
  wp_X10_number 0 ((σ 235 1) - 1) σ <| fun r10_ τ10 => (wp_X10_number 0 5 τ10 <| fun r17_ τ17 => (wp_X10_number 0 3 τ17 <| fun r24_ τ24 => (br ((τ24 233 13) = 0) (K τ24) (vp_in (((38 + (17 * r10_)) + 11) + r17_) 106 ∧ (∀ τ52 : Sg, τ52 = up τ24 235 (((38 + (17 * r10_)) + 11) + r17_).toNatClampNeg r24_ → (K τ52))))))
set_option maxRecDepth 20000 in
set_option maxHeartbeats 2000000 in
theorem ev_X10_readWay (l : Launch)  {σ : Sg} {K : Sg → Prop} (h : wp_X10_readWay  σ K) : Ev l yX10_readWay cX10_readWay 4 none 2 [.ref 233] σ (qV K) := by
  refine ev_ov (by decide) (Nat.le_of_ble_eq_true rfl) ?_
  show AV l RX10 cX10_readWay 4 none 2 (qV K) 0 [(0, .ref 233)] [] σ
  refine aw_aload_n (pc := 0) 0 dX10_readWay_0 rfl ?_
  refine aw_iconst (pc := 1) 0 dX10_readWay_1 (by decide) ?_
  refine aw_aload_n (pc := 2) 0 dX10_readWay_2 rfl ?_
  refine aw_getR (pc := 3) 2 kcX10 dX10_readWay_3 lfX10_13 nn_233 ki_233 (by decide) rfl rf_233_2 ?_
  refine aw_iconst (pc := 6) 1 dX10_readWay_6 (by decide) ?_
  refine aw_iald (pc := 7) (j := 1) dX10_readWay_7 nn_235 ki_235 ln_235 (show vp_in _ _ by unfold vp_in; decide) (by decide) ?_
  refine aw_iconst (pc := 8) 1 dX10_readWay_8 (by decide) ?_
  refine aw_isub (pc := 9) dX10_readWay_9 ?_
  refine aw_callV (pc := 10) (As := [.int 0, .int ((σ 235 1) - 1)]) (rest := []) kcX10 nn_233 ki_233 rfl (ev_X10_number l 0 ((σ 235 1) - 1) h) mfX10_number dX10_readWay_10 lmX10_145 ⟨Nat.le_refl _, Nat.le_refl _⟩ (by decide) rfl rfl (Nat.le_of_ble_eq_true rfl) (nxI (fun r10_ τ10 h => ?_))
  refine aw_istore_n (pc := 13) (i := 1) [(1, .int r10_), (0, .ref 233)] dX10_readWay_13 rfl (by decide) rfl ?_
  refine aw_aload_n (pc := 14) 1 dX10_readWay_14 rfl ?_
  refine aw_iconst (pc := 15) 0 dX10_readWay_15 (by decide) ?_
  refine aw_iconst (pc := 16) 5 dX10_readWay_16 (by decide) ?_
  refine aw_callV (pc := 17) (As := [.int 0, .int 5]) (rest := []) kcX10 nn_233 ki_233 rfl (ev_X10_number l 0 5 h) mfX10_number dX10_readWay_17 lmX10_145 ⟨Nat.le_refl _, Nat.le_refl _⟩ (by decide) rfl rfl (Nat.le_of_ble_eq_true rfl) (nxI (fun r17_ τ17 h => ?_))
  refine aw_istore_n (pc := 20) (i := 2) [(2, .int r17_), (1, .int r10_), (0, .ref 233)] dX10_readWay_20 rfl (by decide) rfl ?_
  refine aw_aload_n (pc := 21) 2 dX10_readWay_21 rfl ?_
  refine aw_iconst (pc := 22) 0 dX10_readWay_22 (by decide) ?_
  refine aw_iconst (pc := 23) 3 dX10_readWay_23 (by decide) ?_
  refine aw_callV (pc := 24) (As := [.int 0, .int 3]) (rest := []) kcX10 nn_233 ki_233 rfl (ev_X10_number l 0 3 h) mfX10_number dX10_readWay_24 lmX10_145 ⟨Nat.le_refl _, Nat.le_refl _⟩ (by decide) rfl rfl (Nat.le_of_ble_eq_true rfl) (nxI (fun r24_ τ24 h => ?_))
  refine aw_istore_n (pc := 27) (i := 3) [(3, .int r24_), (2, .int r17_), (1, .int r10_), (0, .ref 233)] dX10_readWay_27 rfl (by decide) rfl ?_
  refine aw_aload_n (pc := 28) 3 dX10_readWay_28 rfl ?_
  refine aw_getI (pc := 29) 13 kcX10 dX10_readWay_29 lfX10_112 nn_233 ki_233 (by decide) rfl ?_
  refine aw_if_eq (pc := 32) 53 dX10_readWay_32 (by decide) (fun q => ?_) (fun q => ?_)
  · have h := h.1 q
    exact aw_vret (pc := 53) rfl dX10_readWay_53 ⟨rfl, h⟩
  · have h := h.2 q
    refine aw_aload_n (pc := 35) 3 dX10_readWay_35 rfl ?_
    refine aw_getR (pc := 36) 2 kcX10 dX10_readWay_36 lfX10_13 nn_233 ki_233 (by decide) rfl rf_233_2 ?_
    refine aw_bipush (pc := 39) 38 dX10_readWay_39 (by decide) ?_
    refine aw_bipush (pc := 41) 17 dX10_readWay_41 (by decide) ?_
    refine aw_iload_n (pc := 43) 2 dX10_readWay_43 rfl ?_
    refine aw_imul (pc := 44) dX10_readWay_44 ?_
    refine aw_iadd (pc := 45) dX10_readWay_45 ?_
    refine aw_bipush (pc := 46) 11 dX10_readWay_46 (by decide) ?_
    refine aw_iadd (pc := 48) dX10_readWay_48 ?_
    refine aw_iload_n (pc := 49) 1 dX10_readWay_49 rfl ?_
    refine aw_iadd (pc := 50) dX10_readWay_50 ?_
    refine aw_iload_n (pc := 51) 0 dX10_readWay_51 rfl ?_
    refine aw_iast (pc := 52) (j := (((38 + (17 * r10_)) + 11) + r17_).toNatClampNeg) (v := r24_) dX10_readWay_52 nn_235 ki_235 ln_235 h.1 rfl rfl ?_
    have h := h.2
    refine aw_tops (fun τ52 eτ52 => ?_)
    have h := h τ52 eτ52
    exact aw_vret (pc := 53) rfl dX10_readWay_53 ⟨rfl, h⟩
def wp_X10_readLine  (σ : Sg) (K : Sg → Prop) : Prop :=
  wp_X10_takesWord 0 σ <| fun r3_ τ3 => (br (r3_ = 0) (wp_X10_takesWord 1 τ3 <| fun r19_ τ19 => (br (r19_ = 0) (wp_X10_takesWord 8 τ19 <| fun r35_ τ35 => (br (r35_ = 0) (wp_X10_wrong 1 (τ35 233 10) τ35 <| fun τ54 => (K τ54)) (wp_X10_readWay  τ35 <| fun τ42 => (K τ42)))) (wp_X10_readCup  τ19 <| fun τ26 => (K τ26)))) (wp_X10_readClub  τ3 <| fun τ10 => (K τ10)))
set_option maxRecDepth 20000 in
set_option maxHeartbeats 2000000 in
theorem ev_X10_readLine (l : Launch)  {σ : Sg} {K : Sg → Prop} (h : wp_X10_readLine  σ K) : Ev l yX10_readLine cX10_readLine 1 none 9 [.ref 233] σ (qV K) := by
  refine ev_ov (by decide) (Nat.le_of_ble_eq_true rfl) ?_
  show AV l RX10 cX10_readLine 1 none 9 (qV K) 0 [(0, .ref 233)] [] σ
  refine aw_aload_n (pc := 0) 0 dX10_readLine_0 rfl ?_
  refine aw_ldcS (pc := 1) 0 (by decide) dX10_readLine_1 lsX10_173 ?_
  refine aw_callV (pc := 3) (As := [.retAddr 0]) (rest := []) kcX10 nn_233 ki_233 rfl (ev_X10_takesWord l 0 (by decide) (by decide) h) mfX10_takesWord dX10_readLine_3 lmX10_150 ⟨Nat.le_refl _, Nat.le_refl _⟩ (by decide) rfl rfl (Nat.le_of_ble_eq_true rfl) (nxI (fun r3_ τ3 h => ?_))
  refine aw_if_eq (pc := 6) 16 dX10_readLine_6 (by decide) (fun q => ?_) (fun q => ?_)
  · have h := h.1 q
    refine aw_aload_n (pc := 16) 0 dX10_readLine_16 rfl ?_
    refine aw_ldcS (pc := 17) 1 (by decide) dX10_readLine_17 lsX10_178 ?_
    refine aw_callV (pc := 19) (As := [.retAddr 1]) (rest := []) kcX10 nn_233 ki_233 rfl (ev_X10_takesWord l 1 (by decide) (by decide) h) mfX10_takesWord dX10_readLine_19 lmX10_150 ⟨Nat.le_refl _, Nat.le_refl _⟩ (by decide) rfl rfl (Nat.le_of_ble_eq_true rfl) (nxI (fun r19_ τ19 h => ?_))
    refine aw_if_eq (pc := 22) 32 dX10_readLine_22 (by decide) (fun q => ?_) (fun q => ?_)
    · have h := h.1 q
      refine aw_aload_n (pc := 32) 0 dX10_readLine_32 rfl ?_
      refine aw_ldcS (pc := 33) 8 (by decide) dX10_readLine_33 lsX10_183 ?_
      refine aw_callV (pc := 35) (As := [.retAddr 8]) (rest := []) kcX10 nn_233 ki_233 rfl (ev_X10_takesWord l 8 (by decide) (by decide) h) mfX10_takesWord dX10_readLine_35 lmX10_150 ⟨Nat.le_refl _, Nat.le_refl _⟩ (by decide) rfl rfl (Nat.le_of_ble_eq_true rfl) (nxI (fun r35_ τ35 h => ?_))
      refine aw_if_eq (pc := 38) 48 dX10_readLine_38 (by decide) (fun q => ?_) (fun q => ?_)
      · have h := h.1 q
        refine aw_aload_n (pc := 48) 0 dX10_readLine_48 rfl ?_
        refine aw_iconst (pc := 49) 1 dX10_readLine_49 (by decide) ?_
        refine aw_aload_n (pc := 50) 0 dX10_readLine_50 rfl ?_
        refine aw_getI (pc := 51) 10 kcX10 dX10_readLine_51 lfX10_109 nn_233 ki_233 (by decide) rfl ?_
        refine aw_callV (pc := 54) (As := [.int 1, .int (τ35 233 10)]) (rest := []) kcX10 nn_233 ki_233 rfl (ev_X10_wrong l 1 (τ35 233 10) h) mfX10_wrong dX10_readLine_54 lmX10_141 ⟨Nat.le_refl _, Nat.le_refl _⟩ (by decide) rfl rfl (Nat.le_of_ble_eq_true rfl) (nxV (fun τ54 h => ?_))
        exact aw_vret (pc := 57) rfl dX10_readLine_57 ⟨rfl, h⟩
      · have h := h.2 q
        refine aw_aload_n (pc := 41) 0 dX10_readLine_41 rfl ?_
        refine aw_callV (pc := 42) (As := []) (rest := []) kcX10 nn_233 ki_233 rfl (ev_X10_readWay l  h) mfX10_readWay dX10_readLine_42 lmX10_185 ⟨Nat.le_refl _, Nat.le_refl _⟩ (by decide) rfl rfl (Nat.le_of_ble_eq_true rfl) (nxV (fun τ42 h => ?_))
        refine aw_goto (pc := 45) 57 dX10_readLine_45 (by decide) ?_
        exact aw_vret (pc := 57) rfl dX10_readLine_57 ⟨rfl, h⟩
    · have h := h.2 q
      refine aw_aload_n (pc := 25) 0 dX10_readLine_25 rfl ?_
      refine aw_callV (pc := 26) (As := []) (rest := []) kcX10 nn_233 ki_233 rfl (ev_X10_readCup l  h) mfX10_readCup dX10_readLine_26 lmX10_180 ⟨Nat.le_refl _, Nat.le_refl _⟩ (by decide) rfl rfl (Nat.le_of_ble_eq_true rfl) (nxV (fun τ26 h => ?_))
      refine aw_goto (pc := 29) 57 dX10_readLine_29 (by decide) ?_
      exact aw_vret (pc := 57) rfl dX10_readLine_57 ⟨rfl, h⟩
  · have h := h.2 q
    refine aw_aload_n (pc := 9) 0 dX10_readLine_9 rfl ?_
    refine aw_callV (pc := 10) (As := []) (rest := []) kcX10 nn_233 ki_233 rfl (ev_X10_readClub l  h) mfX10_readClub dX10_readLine_10 lmX10_175 ⟨Nat.le_refl _, Nat.le_refl _⟩ (by decide) rfl rfl (Nat.le_of_ble_eq_true rfl) (nxV (fun τ10 h => ?_))
    refine aw_goto (pc := 13) 57 dX10_readLine_13 (by decide) ?_
    exact aw_vret (pc := 57) rfl dX10_readLine_57 ⟨rfl, h⟩
def b_X10_book_155   (K : Int32 → Sg → Prop) : Nat → Int32 → Int32 → Sg → Prop
  | 0, _, _, _ => False
  | n + 1, y1, y2, σ =>
  br (415 ≤ y2) (∀ τ177 : Sg, τ177 = up σ 233 5 0 → (∀ τ186 : Sg, τ186 = up τ177 239 0 0 → (∀ τ193 : Sg, τ193 = up τ186 239 1 0 → (K y1 τ193)))) (vp_in y2 415 ∧ (∀ τ168 : Sg, τ168 = up σ 236 y2.toNatClampNeg 0 → (∀ v169 : Int32, v169 = y2 + 1 → (b_X10_book_155   K n y1 v169 τ168))))
set_option maxRecDepth 20000 in
set_option maxHeartbeats 2000000 in
theorem bt_X10_book_155 (l : Launch)  {K : Int32 → Sg → Prop}   : ∀ (n : Nat) (y1 : Int32) (y2 : Int32)  (σ : Sg), b_X10_book_155   K n y1 y2 σ → AV l RX10 cX10_book 3 (some .int) 10 (qI K) 155 [(0, .ref 233), (1, .int y1), (2, .int y2)] [] σ := by
  intro n
  induction n with
  | zero => intro y1 y2 σ h; exact h.elim
  | succ n ih =>
    intro y1 y2 σ h
    refine aw_iload_n (pc := 155) 2 dX10_book_155 rfl ?_
    refine aw_sipush (pc := 156) 415 dX10_book_156 (by decide) ?_
    refine aw_icmp_ge (pc := 159) 175 dX10_book_159 (by decide) (fun q => ?_) (fun q => ?_)
    · have h := h.1 q
      refine aw_aload_n (pc := 175) 0 dX10_book_175 rfl ?_
      refine aw_iconst (pc := 176) 0 dX10_book_176 (by decide) ?_
      refine aw_put (pc := 177) 5 kcX10 dX10_book_177 lfX10_100 nn_233 ki_233 (by decide) rfl rfl rfl rfl ?_
      refine aw_tops (fun τ177 eτ177 => ?_)
      have h := h τ177 eτ177
      refine aw_aload_n (pc := 180) 0 dX10_book_180 rfl ?_
      refine aw_getR (pc := 181) 7 kcX10 dX10_book_181 lfX10_25 nn_233 ki_233 (by decide) rfl rf_233_7 ?_
      refine aw_iconst (pc := 184) 0 dX10_book_184 (by decide) ?_
      refine aw_iconst (pc := 185) 0 dX10_book_185 (by decide) ?_
      refine aw_zast (pc := 186) (j := 0) (v := 0) dX10_book_186 nn_239 ki_239 ln_239 (show vp_in _ _ by unfold vp_in; decide) (by decide) rfl ?_
      refine aw_tops (fun τ186 eτ186 => ?_)
      have h := h τ186 eτ186
      refine aw_aload_n (pc := 187) 0 dX10_book_187 rfl ?_
      refine aw_getR (pc := 188) 7 kcX10 dX10_book_188 lfX10_25 nn_233 ki_233 (by decide) rfl rf_233_7 ?_
      refine aw_iconst (pc := 191) 1 dX10_book_191 (by decide) ?_
      refine aw_iconst (pc := 192) 0 dX10_book_192 (by decide) ?_
      refine aw_zast (pc := 193) (j := 1) (v := 0) dX10_book_193 nn_239 ki_239 ln_239 (show vp_in _ _ by unfold vp_in; decide) (by decide) rfl ?_
      refine aw_tops (fun τ193 eτ193 => ?_)
      have h := h τ193 eτ193
      refine aw_iload_n (pc := 194) 1 dX10_book_194 rfl ?_
      exact aw_iret (pc := 195) rfl dX10_book_195 ⟨_, rfl, h⟩
    · have h := h.2 q
      refine aw_aload_n (pc := 162) 0 dX10_book_162 rfl ?_
      refine aw_getR (pc := 163) 3 kcX10 dX10_book_163 lfX10_16 nn_233 ki_233 (by decide) rfl rf_233_3 ?_
      refine aw_iload_n (pc := 166) 2 dX10_book_166 rfl ?_
      refine aw_iconst (pc := 167) 0 dX10_book_167 (by decide) ?_
      refine aw_iast (pc := 168) (j := y2.toNatClampNeg) (v := 0) dX10_book_168 nn_236 ki_236 ln_236 h.1 rfl rfl ?_
      have h := h.2
      refine aw_tops (fun τ168 eτ168 => ?_)
      have h := h τ168 eτ168
      obtain ⟨v169, ev169⟩ : ∃ v : Int32, v = y2 + 1 := ⟨_, rfl⟩
      have h := h v169 ev169
      refine aw_iinc (pc := 169) 2 v169 [(2, .int v169), (0, .ref 233), (1, .int y1)] dX10_book_169 rfl (by rw [ev169]; rfl) (by decide) rfl ?_
      refine aw_goto (pc := 172) 155 dX10_book_172 (by decide) ?_
      refine aw_sub (L' := [(0, .ref 233), (1, .int y1), (2, .int v169)]) [1, 2, 0] rfl ?_
      exact ih y1 v169  _ h
def b_X10_book_129   (K : Int32 → Sg → Prop) : Nat → Int32 → Int32 → Sg → Prop
  | 0, _, _, _ => False
  | n + 1, y1, y2, σ =>
  br (106 ≤ y2) (∃ nf, b_X10_book_155   K nf y1 0 σ) (vp_in y2 106 ∧ (vp_in y2 106 ∧ (∀ τ146 : Sg, τ146 = up σ 234 y2.toNatClampNeg (σ 235 y2.toNatClampNeg) → (∀ v147 : Int32, v147 = y2 + 1 → (b_X10_book_129   K n y1 v147 τ146)))))
set_option maxRecDepth 20000 in
set_option maxHeartbeats 2000000 in
theorem bt_X10_book_129 (l : Launch)  {K : Int32 → Sg → Prop}   : ∀ (n : Nat) (y1 : Int32) (y2 : Int32)  (σ : Sg), b_X10_book_129   K n y1 y2 σ → AV l RX10 cX10_book 3 (some .int) 10 (qI K) 129 [(0, .ref 233), (1, .int y1), (2, .int y2)] [] σ := by
  intro n
  induction n with
  | zero => intro y1 y2 σ h; exact h.elim
  | succ n ih =>
    intro y1 y2 σ h
    refine aw_iload_n (pc := 129) 2 dX10_book_129 rfl ?_
    refine aw_bipush (pc := 130) 106 dX10_book_130 (by decide) ?_
    refine aw_icmp_ge (pc := 132) 153 dX10_book_132 (by decide) (fun q => ?_) (fun q => ?_)
    · have h := h.1 q
      refine aw_iconst (pc := 153) 0 dX10_book_153 (by decide) ?_
      refine aw_istore_n (pc := 154) (i := 2) [(2, .int 0), (0, .ref 233), (1, .int y1)] dX10_book_154 rfl (by decide) rfl ?_
      refine aw_sub (L' := [(0, .ref 233), (1, .int y1), (2, .int 0)]) [1, 2, 0] rfl ?_
      obtain ⟨nf, h⟩ := h
      exact bt_X10_book_155 l    nf y1 0  _ h
    · have h := h.2 q
      refine aw_aload_n (pc := 135) 0 dX10_book_135 rfl ?_
      refine aw_getR (pc := 136) 1 kcX10 dX10_book_136 lfX10_7 nn_233 ki_233 (by decide) rfl rf_233_1 ?_
      refine aw_iload_n (pc := 139) 2 dX10_book_139 rfl ?_
      refine aw_aload_n (pc := 140) 0 dX10_book_140 rfl ?_
      refine aw_getR (pc := 141) 2 kcX10 dX10_book_141 lfX10_13 nn_233 ki_233 (by decide) rfl rf_233_2 ?_
      refine aw_iload_n (pc := 144) 2 dX10_book_144 rfl ?_
      refine aw_iald (pc := 145) (j := y2.toNatClampNeg) dX10_book_145 nn_235 ki_235 ln_235 h.1 rfl ?_
      have h := h.2
      refine aw_iast (pc := 146) (j := y2.toNatClampNeg) (v := (σ 235 y2.toNatClampNeg)) dX10_book_146 nn_234 ki_234 ln_234 h.1 rfl rfl ?_
      have h := h.2
      refine aw_tops (fun τ146 eτ146 => ?_)
      have h := h τ146 eτ146
      obtain ⟨v147, ev147⟩ : ∃ v : Int32, v = y2 + 1 := ⟨_, rfl⟩
      have h := h v147 ev147
      refine aw_iinc (pc := 147) 2 v147 [(2, .int v147), (0, .ref 233), (1, .int y1)] dX10_book_147 rfl (by rw [ev147]; rfl) (by decide) rfl ?_
      refine aw_goto (pc := 150) 129 dX10_book_150 (by decide) ?_
      refine aw_sub (L' := [(0, .ref 233), (1, .int y1), (2, .int v147)]) [1, 2, 0] rfl ?_
      exact ih y1 v147  _ h
def b_X10_book_113   (K : Int32 → Sg → Prop) (y1 : Int32) (σ : Sg) : Prop :=
  ∀ τ115 : Sg, τ115 = up σ 233 9 0 → (br ((τ115 233 13) = 0) (K (-1) τ115) (∃ nf, b_X10_book_129   K nf y1 0 τ115))
set_option maxRecDepth 20000 in
set_option maxHeartbeats 2000000 in
theorem bt_X10_book_113 (l : Launch)  {K : Int32 → Sg → Prop}   (y1 : Int32)  (σ : Sg) (h : b_X10_book_113   K y1 σ) : AV l RX10 cX10_book 3 (some .int) 10 (qI K) 113 [(0, .ref 233), (1, .int y1)] [] σ := by
  refine aw_aload_n (pc := 113) 0 dX10_book_113 rfl ?_
  refine aw_iconst (pc := 114) 0 dX10_book_114 (by decide) ?_
  refine aw_put (pc := 115) 9 kcX10 dX10_book_115 lfX10_103 nn_233 ki_233 (by decide) rfl rfl rfl rfl ?_
  refine aw_tops (fun τ115 eτ115 => ?_)
  have h := h τ115 eτ115
  refine aw_aload_n (pc := 118) 0 dX10_book_118 rfl ?_
  refine aw_getI (pc := 119) 13 kcX10 dX10_book_119 lfX10_112 nn_233 ki_233 (by decide) rfl ?_
  refine aw_if_ne (pc := 122) 127 dX10_book_122 (by decide) (fun q => ?_) (fun q => ?_)
  · have h := h.2 q
    refine aw_iconst (pc := 127) 0 dX10_book_127 (by decide) ?_
    refine aw_istore_n (pc := 128) (i := 2) [(2, .int 0), (0, .ref 233), (1, .int y1)] dX10_book_128 rfl (by decide) rfl ?_
    refine aw_sub (L' := [(0, .ref 233), (1, .int y1), (2, .int 0)]) [1, 2, 0] rfl ?_
    obtain ⟨nf, h⟩ := h
    exact bt_X10_book_129 l    nf y1 0  _ h
  · have h := h.1 q
    refine aw_iconst (pc := 125) (-1) dX10_book_125 (by decide) ?_
    exact aw_iret (pc := 126) rfl dX10_book_126 ⟨_, rfl, h⟩
def b_X10_book_104   (K : Int32 → Sg → Prop) (y1 : Int32) (σ : Sg) : Prop :=
  wp_X10_wrong 4 (σ 233 10) σ <| fun τ110 => (b_X10_book_113   K y1 τ110)
set_option maxRecDepth 20000 in
set_option maxHeartbeats 2000000 in
theorem bt_X10_book_104 (l : Launch)  {K : Int32 → Sg → Prop}   (y1 : Int32)  (σ : Sg) (h : b_X10_book_104   K y1 σ) : AV l RX10 cX10_book 3 (some .int) 10 (qI K) 104 [(0, .ref 233), (1, .int y1)] [] σ := by
  refine aw_aload_n (pc := 104) 0 dX10_book_104 rfl ?_
  refine aw_iconst (pc := 105) 4 dX10_book_105 (by decide) ?_
  refine aw_aload_n (pc := 106) 0 dX10_book_106 rfl ?_
  refine aw_getI (pc := 107) 10 kcX10 dX10_book_107 lfX10_109 nn_233 ki_233 (by decide) rfl ?_
  refine aw_callV (pc := 110) (As := [.int 4, .int (σ 233 10)]) (rest := []) kcX10 nn_233 ki_233 rfl (ev_X10_wrong l 4 (σ 233 10) h) mfX10_wrong dX10_book_110 lmX10_141 ⟨Nat.le_refl _, Nat.le_refl _⟩ (by decide) rfl rfl (Nat.le_of_ble_eq_true rfl) (nxV (fun τ110 h => ?_))
  exact bt_X10_book_113 l    y1  _ h
def b_X10_book_78   (K : Int32 → Sg → Prop) (y1 : Int32) (σ : Sg) : Prop :=
  br ((σ 233 13) = 0) (b_X10_book_113   K y1 σ) (br ((σ 235 0) < 2) (b_X10_book_104   K y1 σ) (br ((σ 235 1) = 0) (b_X10_book_104   K y1 σ) (b_X10_book_113   K y1 σ)))
set_option maxRecDepth 20000 in
set_option maxHeartbeats 2000000 in
theorem bt_X10_book_78 (l : Launch)  {K : Int32 → Sg → Prop}   (y1 : Int32)  (σ : Sg) (h : b_X10_book_78   K y1 σ) : AV l RX10 cX10_book 3 (some .int) 10 (qI K) 78 [(0, .ref 233), (1, .int y1)] [] σ := by
  refine aw_aload_n (pc := 78) 0 dX10_book_78 rfl ?_
  refine aw_getI (pc := 79) 13 kcX10 dX10_book_79 lfX10_112 nn_233 ki_233 (by decide) rfl ?_
  refine aw_if_eq (pc := 82) 113 dX10_book_82 (by decide) (fun q => ?_) (fun q => ?_)
  · have h := h.1 q
    exact bt_X10_book_113 l    y1  _ h
  · have h := h.2 q
    refine aw_aload_n (pc := 85) 0 dX10_book_85 rfl ?_
    refine aw_getR (pc := 86) 2 kcX10 dX10_book_86 lfX10_13 nn_233 ki_233 (by decide) rfl rf_233_2 ?_
    refine aw_iconst (pc := 89) 0 dX10_book_89 (by decide) ?_
    refine aw_iald (pc := 90) (j := 0) dX10_book_90 nn_235 ki_235 ln_235 (show vp_in _ _ by unfold vp_in; decide) (by decide) ?_
    refine aw_iconst (pc := 91) 2 dX10_book_91 (by decide) ?_
    refine aw_icmp_lt (pc := 92) 104 dX10_book_92 (by decide) (fun q => ?_) (fun q => ?_)
    · have h := h.1 q
      exact bt_X10_book_104 l    y1  _ h
    · have h := h.2 q
      refine aw_aload_n (pc := 95) 0 dX10_book_95 rfl ?_
      refine aw_getR (pc := 96) 2 kcX10 dX10_book_96 lfX10_13 nn_233 ki_233 (by decide) rfl rf_233_2 ?_
      refine aw_iconst (pc := 99) 1 dX10_book_99 (by decide) ?_
      refine aw_iald (pc := 100) (j := 1) dX10_book_100 nn_235 ki_235 ln_235 (show vp_in _ _ by unfold vp_in; decide) (by decide) ?_
      refine aw_if_ne (pc := 101) 113 dX10_book_101 (by decide) (fun q => ?_) (fun q => ?_)
      · have h := h.2 q
        exact bt_X10_book_113 l    y1  _ h
      · have h := h.1 q
        exact bt_X10_book_104 l    y1  _ h
def b_X10_book_36   (K : Int32 → Sg → Prop) : Nat → Int32 → Sg → Prop
  | 0, _, _ => False
  | n + 1, y1, σ =>
  wp_X10_takes 59 σ <| fun r39_ τ39 => (br (r39_ = 0) (br ((τ39 233 13) = 0) (b_X10_book_78   K y1 τ39) (wp_X10_isEnd  τ39 <| fun r63_ τ63 => (br (r63_ = 0) (wp_X10_wrong 1 (τ63 233 10) τ63 <| fun τ75 => (b_X10_book_78   K y1 τ75)) (b_X10_book_78   K y1 τ63)))) (wp_X10_readLine  τ39 <| fun τ46 => (∀ v49 : Int32, v49 = y1 + 1 → (b_X10_book_36   K n v49 τ46))))
set_option maxRecDepth 20000 in
set_option maxHeartbeats 2000000 in
theorem bt_X10_book_36 (l : Launch)  {K : Int32 → Sg → Prop}   : ∀ (n : Nat) (y1 : Int32)  (σ : Sg), b_X10_book_36   K n y1 σ → AV l RX10 cX10_book 3 (some .int) 10 (qI K) 36 [(0, .ref 233), (1, .int y1)] [] σ := by
  intro n
  induction n with
  | zero => intro y1 σ h; exact h.elim
  | succ n ih =>
    intro y1 σ h
    refine aw_aload_n (pc := 36) 0 dX10_book_36 rfl ?_
    refine aw_bipush (pc := 37) 59 dX10_book_37 (by decide) ?_
    refine aw_callV (pc := 39) (As := [.int 59]) (rest := []) kcX10 nn_233 ki_233 rfl (ev_X10_takes l 59 h) mfX10_takes dX10_book_39 lmX10_194 ⟨Nat.le_refl _, Nat.le_refl _⟩ (by decide) rfl rfl (Nat.le_of_ble_eq_true rfl) (nxI (fun r39_ τ39 h => ?_))
    refine aw_if_eq (pc := 42) 55 dX10_book_42 (by decide) (fun q => ?_) (fun q => ?_)
    · have h := h.1 q
      refine aw_aload_n (pc := 55) 0 dX10_book_55 rfl ?_
      refine aw_getI (pc := 56) 13 kcX10 dX10_book_56 lfX10_112 nn_233 ki_233 (by decide) rfl ?_
      refine aw_if_eq (pc := 59) 78 dX10_book_59 (by decide) (fun q => ?_) (fun q => ?_)
      · have h := h.1 q
        exact bt_X10_book_78 l    y1  _ h
      · have h := h.2 q
        refine aw_aload_n (pc := 62) 0 dX10_book_62 rfl ?_
        refine aw_callV (pc := 63) (As := []) (rest := []) kcX10 nn_233 ki_233 rfl (ev_X10_isEnd l  h) mfX10_isEnd dX10_book_63 lmX10_198 ⟨Nat.le_refl _, Nat.le_refl _⟩ (by decide) rfl rfl (Nat.le_of_ble_eq_true rfl) (nxI (fun r63_ τ63 h => ?_))
        refine aw_if_ne (pc := 66) 78 dX10_book_66 (by decide) (fun q => ?_) (fun q => ?_)
        · have h := h.2 q
          exact bt_X10_book_78 l    y1  _ h
        · have h := h.1 q
          refine aw_aload_n (pc := 69) 0 dX10_book_69 rfl ?_
          refine aw_iconst (pc := 70) 1 dX10_book_70 (by decide) ?_
          refine aw_aload_n (pc := 71) 0 dX10_book_71 rfl ?_
          refine aw_getI (pc := 72) 10 kcX10 dX10_book_72 lfX10_109 nn_233 ki_233 (by decide) rfl ?_
          refine aw_callV (pc := 75) (As := [.int 1, .int (τ63 233 10)]) (rest := []) kcX10 nn_233 ki_233 rfl (ev_X10_wrong l 1 (τ63 233 10) h) mfX10_wrong dX10_book_75 lmX10_141 ⟨Nat.le_refl _, Nat.le_refl _⟩ (by decide) rfl rfl (Nat.le_of_ble_eq_true rfl) (nxV (fun τ75 h => ?_))
          exact bt_X10_book_78 l    y1  _ h
    · have h := h.2 q
      refine aw_aload_n (pc := 45) 0 dX10_book_45 rfl ?_
      refine aw_callV (pc := 46) (As := []) (rest := []) kcX10 nn_233 ki_233 rfl (ev_X10_readLine l  h) mfX10_readLine dX10_book_46 lmX10_191 ⟨Nat.le_refl _, Nat.le_refl _⟩ (by decide) rfl rfl (Nat.le_of_ble_eq_true rfl) (nxV (fun τ46 h => ?_))
      obtain ⟨v49, ev49⟩ : ∃ v : Int32, v = y1 + 1 := ⟨_, rfl⟩
      have h := h v49 ev49
      refine aw_iinc (pc := 49) 1 v49 [(1, .int v49), (0, .ref 233)] dX10_book_49 rfl (by rw [ev49]; rfl) (by decide) rfl ?_
      refine aw_goto (pc := 52) 36 dX10_book_52 (by decide) ?_
      refine aw_sub (L' := [(0, .ref 233), (1, .int v49)]) [1, 0] rfl ?_
      exact ih v49  _ h
def b_X10_book_11   (K : Int32 → Sg → Prop) : Nat → Int32 → Sg → Prop
  | 0, _, _ => False
  | n + 1, y1, σ =>
  br (106 ≤ y1) (wp_X10_readLine  σ <| fun τ33 => (∃ nf, b_X10_book_36   K nf 1 τ33)) (vp_in y1 106 ∧ (∀ τ23 : Sg, τ23 = up σ 235 y1.toNatClampNeg 0 → (∀ v24 : Int32, v24 = y1 + 1 → (b_X10_book_11   K n v24 τ23))))
set_option maxRecDepth 20000 in
set_option maxHeartbeats 2000000 in
theorem bt_X10_book_11 (l : Launch)  {K : Int32 → Sg → Prop}   : ∀ (n : Nat) (y1 : Int32)  (σ : Sg), b_X10_book_11   K n y1 σ → AV l RX10 cX10_book 3 (some .int) 10 (qI K) 11 [(0, .ref 233), (1, .int y1)] [] σ := by
  intro n
  induction n with
  | zero => intro y1 σ h; exact h.elim
  | succ n ih =>
    intro y1 σ h
    refine aw_iload_n (pc := 11) 1 dX10_book_11 rfl ?_
    refine aw_bipush (pc := 12) 106 dX10_book_12 (by decide) ?_
    refine aw_icmp_ge (pc := 14) 30 dX10_book_14 (by decide) (fun q => ?_) (fun q => ?_)
    · have h := h.1 q
      refine aw_iconst (pc := 30) 1 dX10_book_30 (by decide) ?_
      refine aw_istore_n (pc := 31) (i := 1) [(1, .int 1), (0, .ref 233)] dX10_book_31 rfl (by decide) rfl ?_
      refine aw_aload_n (pc := 32) 1 dX10_book_32 rfl ?_
      refine aw_callV (pc := 33) (As := []) (rest := []) kcX10 nn_233 ki_233 rfl (ev_X10_readLine l  h) mfX10_readLine dX10_book_33 lmX10_191 ⟨Nat.le_refl _, Nat.le_refl _⟩ (by decide) rfl rfl (Nat.le_of_ble_eq_true rfl) (nxV (fun τ33 h => ?_))
      refine aw_sub (L' := [(0, .ref 233), (1, .int 1)]) [1, 0] rfl ?_
      obtain ⟨nf, h⟩ := h
      exact bt_X10_book_36 l    nf 1  _ h
    · have h := h.2 q
      refine aw_aload_n (pc := 17) 0 dX10_book_17 rfl ?_
      refine aw_getR (pc := 18) 2 kcX10 dX10_book_18 lfX10_13 nn_233 ki_233 (by decide) rfl rf_233_2 ?_
      refine aw_iload_n (pc := 21) 1 dX10_book_21 rfl ?_
      refine aw_iconst (pc := 22) 0 dX10_book_22 (by decide) ?_
      refine aw_iast (pc := 23) (j := y1.toNatClampNeg) (v := 0) dX10_book_23 nn_235 ki_235 ln_235 h.1 rfl rfl ?_
      have h := h.2
      refine aw_tops (fun τ23 eτ23 => ?_)
      have h := h τ23 eτ23
      obtain ⟨v24, ev24⟩ : ∃ v : Int32, v = y1 + 1 := ⟨_, rfl⟩
      have h := h v24 ev24
      refine aw_iinc (pc := 24) 1 v24 [(1, .int v24), (0, .ref 233)] dX10_book_24 rfl (by rw [ev24]; rfl) (by decide) rfl ?_
      refine aw_goto (pc := 27) 11 dX10_book_27 (by decide) ?_
      refine aw_sub (L' := [(0, .ref 233), (1, .int v24)]) [1, 0] rfl ?_
      exact ih v24  _ h
def wp_X10_book  (σ : Sg) (K : Int32 → Sg → Prop) : Prop :=
  ∀ τ2 : Sg, τ2 = up σ 233 0 0 → (wp_X10_beginText  τ2 <| fun τ6 => (∃ nf, b_X10_book_11   K nf 0 τ6))
set_option maxRecDepth 20000 in
set_option maxHeartbeats 2000000 in
theorem ev_X10_book (l : Launch)  {σ : Sg} {K : Int32 → Sg → Prop} (h : wp_X10_book  σ K) : Ev l yX10_book cX10_book 3 (some .int) 10 [.ref 233] σ (qI K) := by
  refine ev_ov (by decide) (Nat.le_of_ble_eq_true rfl) ?_
  show AV l RX10 cX10_book 3 (some .int) 10 (qI K) 0 [(0, .ref 233)] [] σ
  refine aw_aload_n (pc := 0) 0 dX10_book_0 rfl ?_
  refine aw_iconst (pc := 1) 0 dX10_book_1 (by decide) ?_
  refine aw_put (pc := 2) 0 kcX10 dX10_book_2 lfX10_91 nn_233 ki_233 (by decide) rfl rfl rfl rfl ?_
  refine aw_tops (fun τ2 eτ2 => ?_)
  have h := h τ2 eτ2
  refine aw_aload_n (pc := 5) 0 dX10_book_5 rfl ?_
  refine aw_callV (pc := 6) (As := []) (rest := []) kcX10 nn_233 ki_233 rfl (ev_X10_beginText l  h) mfX10_beginText dX10_book_6 lmX10_188 ⟨Nat.le_refl _, Nat.le_refl _⟩ (by decide) rfl rfl (Nat.le_of_ble_eq_true rfl) (nxV (fun τ6 h => ?_))
  refine aw_iconst (pc := 9) 0 dX10_book_9 (by decide) ?_
  refine aw_istore_n (pc := 10) (i := 1) [(1, .int 0), (0, .ref 233)] dX10_book_10 rfl (by decide) rfl ?_
  refine aw_sub (L' := [(0, .ref 233), (1, .int 0)]) [1, 0] rfl ?_
  obtain ⟨nf, h⟩ := h
  exact bt_X10_book_11 l    nf 0  _ h
def wp_X10_readWon (x1 : Int32) (σ : Sg) (K : Sg → Prop) : Prop :=
  wp_X10_takesWord 2 σ <| fun r3_ τ3 => (br (r3_ = 0) (wp_X10_takesWord 11 τ3 <| fun r22_ τ22 => (br (r22_ = 0) (wp_X10_takesWord 12 τ22 <| fun r41_ τ41 => (br (r41_ = 0) (wp_X10_wrong 1 (τ41 233 10) τ41 <| fun τ63 => (K τ63)) (vp_in x1 500 ∧ (∀ τ53 : Sg, τ53 = up τ41 241 x1.toNatClampNeg 2 → (K τ53))))) (vp_in x1 500 ∧ (∀ τ34 : Sg, τ34 = up τ22 241 x1.toNatClampNeg 1 → (K τ34))))) (vp_in x1 500 ∧ (∀ τ15 : Sg, τ15 = up τ3 241 x1.toNatClampNeg 0 → (K τ15))))
set_option maxRecDepth 20000 in
set_option maxHeartbeats 2000000 in
theorem ev_X10_readWon (l : Launch) (x1 : Int32) {σ : Sg} {K : Sg → Prop} (h : wp_X10_readWon x1 σ K) : Ev l yX10_readWon cX10_readWon 2 none 7 [.ref 233, .int x1] σ (qV K) := by
  refine ev_ov (by decide) (Nat.le_of_ble_eq_true rfl) ?_
  show AV l RX10 cX10_readWon 2 none 7 (qV K) 0 [(0, .ref 233), (1, .int x1)] [] σ
  refine aw_aload_n (pc := 0) 0 dX10_readWon_0 rfl ?_
  refine aw_ldcS (pc := 1) 2 (by decide) dX10_readWon_1 lsX10_157 ?_
  refine aw_callV (pc := 3) (As := [.retAddr 2]) (rest := []) kcX10 nn_233 ki_233 rfl (ev_X10_takesWord l 2 (by decide) (by decide) h) mfX10_takesWord dX10_readWon_3 lmX10_150 ⟨Nat.le_refl _, Nat.le_refl _⟩ (by decide) rfl rfl (Nat.le_of_ble_eq_true rfl) (nxI (fun r3_ τ3 h => ?_))
  refine aw_if_eq (pc := 6) 19 dX10_readWon_6 (by decide) (fun q => ?_) (fun q => ?_)
  · have h := h.1 q
    refine aw_aload_n (pc := 19) 0 dX10_readWon_19 rfl ?_
    refine aw_ldcS (pc := 20) 11 (by decide) dX10_readWon_20 lsX10_202 ?_
    refine aw_callV (pc := 22) (As := [.retAddr 11]) (rest := []) kcX10 nn_233 ki_233 rfl (ev_X10_takesWord l 11 (by decide) (by decide) h) mfX10_takesWord dX10_readWon_22 lmX10_150 ⟨Nat.le_refl _, Nat.le_refl _⟩ (by decide) rfl rfl (Nat.le_of_ble_eq_true rfl) (nxI (fun r22_ τ22 h => ?_))
    refine aw_if_eq (pc := 25) 38 dX10_readWon_25 (by decide) (fun q => ?_) (fun q => ?_)
    · have h := h.1 q
      refine aw_aload_n (pc := 38) 0 dX10_readWon_38 rfl ?_
      refine aw_ldcS (pc := 39) 12 (by decide) dX10_readWon_39 lsX10_204 ?_
      refine aw_callV (pc := 41) (As := [.retAddr 12]) (rest := []) kcX10 nn_233 ki_233 rfl (ev_X10_takesWord l 12 (by decide) (by decide) h) mfX10_takesWord dX10_readWon_41 lmX10_150 ⟨Nat.le_refl _, Nat.le_refl _⟩ (by decide) rfl rfl (Nat.le_of_ble_eq_true rfl) (nxI (fun r41_ τ41 h => ?_))
      refine aw_if_eq (pc := 44) 57 dX10_readWon_44 (by decide) (fun q => ?_) (fun q => ?_)
      · have h := h.1 q
        refine aw_aload_n (pc := 57) 0 dX10_readWon_57 rfl ?_
        refine aw_iconst (pc := 58) 1 dX10_readWon_58 (by decide) ?_
        refine aw_aload_n (pc := 59) 0 dX10_readWon_59 rfl ?_
        refine aw_getI (pc := 60) 10 kcX10 dX10_readWon_60 lfX10_109 nn_233 ki_233 (by decide) rfl ?_
        refine aw_callV (pc := 63) (As := [.int 1, .int (τ41 233 10)]) (rest := []) kcX10 nn_233 ki_233 rfl (ev_X10_wrong l 1 (τ41 233 10) h) mfX10_wrong dX10_readWon_63 lmX10_141 ⟨Nat.le_refl _, Nat.le_refl _⟩ (by decide) rfl rfl (Nat.le_of_ble_eq_true rfl) (nxV (fun τ63 h => ?_))
        exact aw_vret (pc := 66) rfl dX10_readWon_66 ⟨rfl, h⟩
      · have h := h.2 q
        refine aw_aload_n (pc := 47) 0 dX10_readWon_47 rfl ?_
        refine aw_getR (pc := 48) 14 kcX10 dX10_readWon_48 lfX10_37 nn_233 ki_233 (by decide) rfl rf_233_14 ?_
        refine aw_iload_n (pc := 51) 1 dX10_readWon_51 rfl ?_
        refine aw_iconst (pc := 52) 2 dX10_readWon_52 (by decide) ?_
        refine aw_iast (pc := 53) (j := x1.toNatClampNeg) (v := 2) dX10_readWon_53 nn_241 ki_241 ln_241 h.1 rfl rfl ?_
        have h := h.2
        refine aw_tops (fun τ53 eτ53 => ?_)
        have h := h τ53 eτ53
        refine aw_goto (pc := 54) 66 dX10_readWon_54 (by decide) ?_
        exact aw_vret (pc := 66) rfl dX10_readWon_66 ⟨rfl, h⟩
    · have h := h.2 q
      refine aw_aload_n (pc := 28) 0 dX10_readWon_28 rfl ?_
      refine aw_getR (pc := 29) 14 kcX10 dX10_readWon_29 lfX10_37 nn_233 ki_233 (by decide) rfl rf_233_14 ?_
      refine aw_iload_n (pc := 32) 1 dX10_readWon_32 rfl ?_
      refine aw_iconst (pc := 33) 1 dX10_readWon_33 (by decide) ?_
      refine aw_iast (pc := 34) (j := x1.toNatClampNeg) (v := 1) dX10_readWon_34 nn_241 ki_241 ln_241 h.1 rfl rfl ?_
      have h := h.2
      refine aw_tops (fun τ34 eτ34 => ?_)
      have h := h τ34 eτ34
      refine aw_goto (pc := 35) 66 dX10_readWon_35 (by decide) ?_
      exact aw_vret (pc := 66) rfl dX10_readWon_66 ⟨rfl, h⟩
  · have h := h.2 q
    refine aw_aload_n (pc := 9) 0 dX10_readWon_9 rfl ?_
    refine aw_getR (pc := 10) 14 kcX10 dX10_readWon_10 lfX10_37 nn_233 ki_233 (by decide) rfl rf_233_14 ?_
    refine aw_iload_n (pc := 13) 1 dX10_readWon_13 rfl ?_
    refine aw_iconst (pc := 14) 0 dX10_readWon_14 (by decide) ?_
    refine aw_iast (pc := 15) (j := x1.toNatClampNeg) (v := 0) dX10_readWon_15 nn_241 ki_241 ln_241 h.1 rfl rfl ?_
    have h := h.2
    refine aw_tops (fun τ15 eτ15 => ?_)
    have h := h τ15 eτ15
    refine aw_goto (pc := 16) 66 dX10_readWon_16 (by decide) ?_
    exact aw_vret (pc := 66) rfl dX10_readWon_66 ⟨rfl, h⟩
def b_X10_readDeed_123   (K : Sg → Prop)  (σ : Sg) : Prop :=
  ∀ τ130 : Sg, τ130 = up σ 233 15 ((σ 233 15) + 1) → (K τ130)
set_option maxRecDepth 20000 in
set_option maxHeartbeats 2000000 in
theorem bt_X10_readDeed_123 (l : Launch)  {K : Sg → Prop}     (σ : Sg) (h : b_X10_readDeed_123   K  σ) : AV l RX10 cX10_readDeed 5 none 8 (qV K) 123 [(0, .ref 233)] [] σ := by
  refine aw_aload_n (pc := 123) 0 dX10_readDeed_123 rfl ?_
  refine aw_dup (pc := 124) dX10_readDeed_124 rfl ?_
  refine aw_getI (pc := 125) 15 kcX10 dX10_readDeed_125 lfX10_206 nn_233 ki_233 (by decide) rfl ?_
  refine aw_iconst (pc := 128) 1 dX10_readDeed_128 (by decide) ?_
  refine aw_iadd (pc := 129) dX10_readDeed_129 ?_
  refine aw_put (pc := 130) 15 kcX10 dX10_readDeed_130 lfX10_206 nn_233 ki_233 (by decide) rfl rfl rfl rfl ?_
  refine aw_tops (fun τ130 eτ130 => ?_)
  have h := h τ130 eτ130
  exact aw_vret (pc := 133) rfl dX10_readDeed_133 ⟨rfl, h⟩
def b_X10_readDeed_83   (K : Sg → Prop) : Nat → Int32 → Int32 → Int32 → Int32 → Sg → Prop
  | 0, _, _, _, _, _ => False
  | n + 1, y1, y2, y3, y4, σ =>
  br (y3 < y4) (br (y2 = 1) (wp_X10_readWon (y1 + 3) σ <| fun τ120 => (b_X10_readDeed_123   K  τ120)) (b_X10_readDeed_123   K  σ)) (wp_X10_number 0 99999 σ <| fun r101_ τ101 => (vp_in (y1 + y4) 500 ∧ (∀ τ104 : Sg, τ104 = up τ101 241 (y1 + y4).toNatClampNeg r101_ → (∀ v105 : Int32, v105 = y4 + 1 → (b_X10_readDeed_83   K n y1 y2 y3 v105 τ104)))))
set_option maxRecDepth 20000 in
set_option maxHeartbeats 2000000 in
theorem bt_X10_readDeed_83 (l : Launch)  {K : Sg → Prop}   : ∀ (n : Nat) (y1 : Int32) (y2 : Int32) (y3 : Int32) (y4 : Int32)  (σ : Sg), b_X10_readDeed_83   K n y1 y2 y3 y4 σ → AV l RX10 cX10_readDeed 5 none 8 (qV K) 83 [(0, .ref 233), (1, .int y1), (2, .int y2), (3, .int y3), (4, .int y4)] [] σ := by
  intro n
  induction n with
  | zero => intro y1 y2 y3 y4 σ h; exact h.elim
  | succ n ih =>
    intro y1 y2 y3 y4 σ h
    refine aw_iload (pc := 83) 4 dX10_readDeed_83 rfl ?_
    refine aw_iload_n (pc := 85) 3 dX10_readDeed_85 rfl ?_
    refine aw_icmp_gt (pc := 86) 111 dX10_readDeed_86 (by decide) (fun q => ?_) (fun q => ?_)
    · have h := h.1 q
      refine aw_iload_n (pc := 111) 2 dX10_readDeed_111 rfl ?_
      refine aw_iconst (pc := 112) 1 dX10_readDeed_112 (by decide) ?_
      refine aw_icmp_ne (pc := 113) 123 dX10_readDeed_113 (by decide) (fun q => ?_) (fun q => ?_)
      · have h := h.2 q
        refine aw_sub (L' := [(0, .ref 233)]) [0] rfl ?_
        exact bt_X10_readDeed_123 l      _ h
      · have h := h.1 q
        refine aw_aload_n (pc := 116) 0 dX10_readDeed_116 rfl ?_
        refine aw_iload_n (pc := 117) 1 dX10_readDeed_117 rfl ?_
        refine aw_iconst (pc := 118) 3 dX10_readDeed_118 (by decide) ?_
        refine aw_iadd (pc := 119) dX10_readDeed_119 ?_
        refine aw_callV (pc := 120) (As := [.int (y1 + 3)]) (rest := []) kcX10 nn_233 ki_233 rfl (ev_X10_readWon l (y1 + 3) h) mfX10_readWon dX10_readDeed_120 lmX10_215 ⟨Nat.le_refl _, Nat.le_refl _⟩ (by decide) rfl rfl (Nat.le_of_ble_eq_true rfl) (nxV (fun τ120 h => ?_))
        refine aw_sub (L' := [(0, .ref 233)]) [0] rfl ?_
        exact bt_X10_readDeed_123 l      _ h
    · have h := h.2 q
      refine aw_aload_n (pc := 89) 0 dX10_readDeed_89 rfl ?_
      refine aw_getR (pc := 90) 14 kcX10 dX10_readDeed_90 lfX10_37 nn_233 ki_233 (by decide) rfl rf_233_14 ?_
      refine aw_iload_n (pc := 93) 1 dX10_readDeed_93 rfl ?_
      refine aw_iload (pc := 94) 4 dX10_readDeed_94 rfl ?_
      refine aw_iadd (pc := 96) dX10_readDeed_96 ?_
      refine aw_aload_n (pc := 97) 0 dX10_readDeed_97 rfl ?_
      refine aw_iconst (pc := 98) 0 dX10_readDeed_98 (by decide) ?_
      refine aw_ldc (pc := 99) 99999 dX10_readDeed_99 lcX10_149 ?_
      refine aw_callV (pc := 101) (As := [.int 0, .int 99999]) (rest := [.int (y1 + y4), .ref 241]) kcX10 nn_233 ki_233 rfl (ev_X10_number l 0 99999 h) mfX10_number dX10_readDeed_101 lmX10_145 ⟨Nat.le_refl _, Nat.le_refl _⟩ (by decide) rfl rfl (Nat.le_of_ble_eq_true rfl) (nxI (fun r101_ τ101 h => ?_))
      refine aw_iast (pc := 104) (j := (y1 + y4).toNatClampNeg) (v := r101_) dX10_readDeed_104 nn_241 ki_241 ln_241 h.1 rfl rfl ?_
      have h := h.2
      refine aw_tops (fun τ104 eτ104 => ?_)
      have h := h τ104 eτ104
      obtain ⟨v105, ev105⟩ : ∃ v : Int32, v = y4 + 1 := ⟨_, rfl⟩
      have h := h v105 ev105
      refine aw_iinc (pc := 105) 4 v105 [(4, .int v105), (0, .ref 233), (1, .int y1), (2, .int y2), (3, .int y3)] dX10_readDeed_105 rfl (by rw [ev105]; rfl) (by decide) rfl ?_
      refine aw_goto (pc := 108) 83 dX10_readDeed_108 (by decide) ?_
      refine aw_sub (L' := [(0, .ref 233), (1, .int y1), (2, .int y2), (3, .int y3), (4, .int v105)]) [1, 2, 3, 4, 0] rfl ?_
      exact ih y1 y2 y3 v105  _ h
def b_X10_readDeed_47   (K : Sg → Prop) (y1 : Int32) (z0 : Int32) (σ : Sg) : Prop :=
  br (z0 = (-1)) (wp_X10_wrong 1 (σ 233 10) σ <| fun τ59 => (K τ59)) (vp_in y1 500 ∧ (∀ τ69 : Sg, τ69 = up σ 241 y1.toNatClampNeg z0 → (br (z0 = 0) (∃ nf, b_X10_readDeed_83   K nf y1 z0 4 1 τ69) (∃ nf, b_X10_readDeed_83   K nf y1 z0 2 1 τ69))))
set_option maxRecDepth 20000 in
set_option maxHeartbeats 2000000 in
theorem bt_X10_readDeed_47 (l : Launch)  {K : Sg → Prop}   (y1 : Int32) (z0 : Int32)  (σ : Sg) (h : b_X10_readDeed_47   K y1 z0 σ) : AV l RX10 cX10_readDeed 5 none 8 (qV K) 47 [(0, .ref 233), (1, .int y1)] [.int z0] σ := by
  refine aw_istore_n (pc := 47) (i := 2) [(2, .int z0), (0, .ref 233), (1, .int y1)] dX10_readDeed_47 rfl (by decide) rfl ?_
  refine aw_iload_n (pc := 48) 0 dX10_readDeed_48 rfl ?_
  refine aw_iconst (pc := 49) (-1) dX10_readDeed_49 (by decide) ?_
  refine aw_icmp_ne (pc := 50) 63 dX10_readDeed_50 (by decide) (fun q => ?_) (fun q => ?_)
  · have h := h.2 q
    refine aw_aload_n (pc := 63) 1 dX10_readDeed_63 rfl ?_
    refine aw_getR (pc := 64) 14 kcX10 dX10_readDeed_64 lfX10_37 nn_233 ki_233 (by decide) rfl rf_233_14 ?_
    refine aw_iload_n (pc := 67) 2 dX10_readDeed_67 rfl ?_
    refine aw_iload_n (pc := 68) 0 dX10_readDeed_68 rfl ?_
    refine aw_iast (pc := 69) (j := y1.toNatClampNeg) (v := z0) dX10_readDeed_69 nn_241 ki_241 ln_241 h.1 rfl rfl ?_
    have h := h.2
    refine aw_tops (fun τ69 eτ69 => ?_)
    have h := h τ69 eτ69
    refine aw_iload_n (pc := 70) 0 dX10_readDeed_70 rfl ?_
    refine aw_if_ne (pc := 71) 78 dX10_readDeed_71 (by decide) (fun q => ?_) (fun q => ?_)
    · have h := h.2 q
      refine aw_iconst (pc := 78) 2 dX10_readDeed_78 (by decide) ?_
      refine aw_istore_n (pc := 79) (i := 3) [(3, .int 2), (2, .int z0), (0, .ref 233), (1, .int y1)] dX10_readDeed_79 rfl (by decide) rfl ?_
      refine aw_iconst (pc := 80) 1 dX10_readDeed_80 (by decide) ?_
      refine aw_istore (pc := 81) [(4, .int 1), (3, .int 2), (2, .int z0), (0, .ref 233), (1, .int y1)] dX10_readDeed_81 (by decide) rfl ?_
      refine aw_sub (L' := [(0, .ref 233), (1, .int y1), (2, .int z0), (3, .int 2), (4, .int 1)]) [3, 4, 2, 1, 0] rfl ?_
      obtain ⟨nf, h⟩ := h
      exact bt_X10_readDeed_83 l    nf y1 z0 2 1  _ h
    · have h := h.1 q
      refine aw_iconst (pc := 74) 4 dX10_readDeed_74 (by decide) ?_
      refine aw_goto (pc := 75) 79 dX10_readDeed_75 (by decide) ?_
      refine aw_istore_n (pc := 79) (i := 3) [(3, .int 4), (2, .int z0), (0, .ref 233), (1, .int y1)] dX10_readDeed_79 rfl (by decide) rfl ?_
      refine aw_iconst (pc := 80) 1 dX10_readDeed_80 (by decide) ?_
      refine aw_istore (pc := 81) [(4, .int 1), (3, .int 4), (2, .int z0), (0, .ref 233), (1, .int y1)] dX10_readDeed_81 (by decide) rfl ?_
      refine aw_sub (L' := [(0, .ref 233), (1, .int y1), (2, .int z0), (3, .int 4), (4, .int 1)]) [3, 4, 2, 1, 0] rfl ?_
      obtain ⟨nf, h⟩ := h
      exact bt_X10_readDeed_83 l    nf y1 z0 4 1  _ h
  · have h := h.1 q
    refine aw_aload_n (pc := 53) 1 dX10_readDeed_53 rfl ?_
    refine aw_iconst (pc := 54) 1 dX10_readDeed_54 (by decide) ?_
    refine aw_aload_n (pc := 55) 1 dX10_readDeed_55 rfl ?_
    refine aw_getI (pc := 56) 10 kcX10 dX10_readDeed_56 lfX10_109 nn_233 ki_233 (by decide) rfl ?_
    refine aw_callV (pc := 59) (As := [.int 1, .int (σ 233 10)]) (rest := []) kcX10 nn_233 ki_233 rfl (ev_X10_wrong l 1 (σ 233 10) h) mfX10_wrong dX10_readDeed_59 lmX10_141 ⟨Nat.le_refl _, Nat.le_refl _⟩ (by decide) rfl rfl (Nat.le_of_ble_eq_true rfl) (nxV (fun τ59 h => ?_))
    exact aw_vret (pc := 62) rfl dX10_readDeed_62 ⟨rfl, h⟩
def wp_X10_readDeed  (σ : Sg) (K : Sg → Prop) : Prop :=
  ∀ v6 : Int32, v6 = 5 * (σ 233 15) → (wp_X10_takesWord 9 σ <| fun r10_ τ10 => (br (r10_ = 0) (wp_X10_takesWord 10 τ10 <| fun r23_ τ23 => (br (r23_ = 0) (wp_X10_takesWord 13 τ23 <| fun r36_ τ36 => (br (r36_ = 0) (b_X10_readDeed_47   K v6 (-1) τ36) (b_X10_readDeed_47   K v6 2 τ36))) (b_X10_readDeed_47   K v6 1 τ23))) (b_X10_readDeed_47   K v6 0 τ10)))
set_option maxRecDepth 20000 in
set_option maxHeartbeats 2000000 in
theorem ev_X10_readDeed (l : Launch)  {σ : Sg} {K : Sg → Prop} (h : wp_X10_readDeed  σ K) : Ev l yX10_readDeed cX10_readDeed 5 none 8 [.ref 233] σ (qV K) := by
  refine ev_ov (by decide) (Nat.le_of_ble_eq_true rfl) ?_
  show AV l RX10 cX10_readDeed 5 none 8 (qV K) 0 [(0, .ref 233)] [] σ
  refine aw_iconst (pc := 0) 5 dX10_readDeed_0 (by decide) ?_
  refine aw_aload_n (pc := 1) 0 dX10_readDeed_1 rfl ?_
  refine aw_getI (pc := 2) 15 kcX10 dX10_readDeed_2 lfX10_206 nn_233 ki_233 (by decide) rfl ?_
  refine aw_imul (pc := 5) dX10_readDeed_5 ?_
  refine aw_topi (fun v6 ev6 => ?_)
  have h := h v6 ev6
  refine aw_istore_n (pc := 6) (i := 1) [(1, .int v6), (0, .ref 233)] dX10_readDeed_6 rfl (by decide) rfl ?_
  refine aw_aload_n (pc := 7) 1 dX10_readDeed_7 rfl ?_
  refine aw_ldcS (pc := 8) 9 (by decide) dX10_readDeed_8 lsX10_209 ?_
  refine aw_callV (pc := 10) (As := [.retAddr 9]) (rest := []) kcX10 nn_233 ki_233 rfl (ev_X10_takesWord l 9 (by decide) (by decide) h) mfX10_takesWord dX10_readDeed_10 lmX10_150 ⟨Nat.le_refl _, Nat.le_refl _⟩ (by decide) rfl rfl (Nat.le_of_ble_eq_true rfl) (nxI (fun r10_ τ10 h => ?_))
  refine aw_if_eq (pc := 13) 20 dX10_readDeed_13 (by decide) (fun q => ?_) (fun q => ?_)
  · have h := h.1 q
    refine aw_aload_n (pc := 20) 1 dX10_readDeed_20 rfl ?_
    refine aw_ldcS (pc := 21) 10 (by decide) dX10_readDeed_21 lsX10_211 ?_
    refine aw_callV (pc := 23) (As := [.retAddr 10]) (rest := []) kcX10 nn_233 ki_233 rfl (ev_X10_takesWord l 10 (by decide) (by decide) h) mfX10_takesWord dX10_readDeed_23 lmX10_150 ⟨Nat.le_refl _, Nat.le_refl _⟩ (by decide) rfl rfl (Nat.le_of_ble_eq_true rfl) (nxI (fun r23_ τ23 h => ?_))
    refine aw_if_eq (pc := 26) 33 dX10_readDeed_26 (by decide) (fun q => ?_) (fun q => ?_)
    · have h := h.1 q
      refine aw_aload_n (pc := 33) 1 dX10_readDeed_33 rfl ?_
      refine aw_ldcS (pc := 34) 13 (by decide) dX10_readDeed_34 lsX10_213 ?_
      refine aw_callV (pc := 36) (As := [.retAddr 13]) (rest := []) kcX10 nn_233 ki_233 rfl (ev_X10_takesWord l 13 (by decide) (by decide) h) mfX10_takesWord dX10_readDeed_36 lmX10_150 ⟨Nat.le_refl _, Nat.le_refl _⟩ (by decide) rfl rfl (Nat.le_of_ble_eq_true rfl) (nxI (fun r36_ τ36 h => ?_))
      refine aw_if_eq (pc := 39) 46 dX10_readDeed_39 (by decide) (fun q => ?_) (fun q => ?_)
      · have h := h.1 q
        refine aw_iconst (pc := 46) (-1) dX10_readDeed_46 (by decide) ?_
        refine aw_sub (L' := [(0, .ref 233), (1, .int v6)]) [1, 0] rfl ?_
        exact bt_X10_readDeed_47 l    v6 (-1)  _ h
      · have h := h.2 q
        refine aw_iconst (pc := 42) 2 dX10_readDeed_42 (by decide) ?_
        refine aw_goto (pc := 43) 47 dX10_readDeed_43 (by decide) ?_
        refine aw_sub (L' := [(0, .ref 233), (1, .int v6)]) [1, 0] rfl ?_
        exact bt_X10_readDeed_47 l    v6 2  _ h
    · have h := h.2 q
      refine aw_iconst (pc := 29) 1 dX10_readDeed_29 (by decide) ?_
      refine aw_goto (pc := 30) 47 dX10_readDeed_30 (by decide) ?_
      refine aw_sub (L' := [(0, .ref 233), (1, .int v6)]) [1, 0] rfl ?_
      exact bt_X10_readDeed_47 l    v6 1  _ h
  · have h := h.2 q
    refine aw_iconst (pc := 16) 0 dX10_readDeed_16 (by decide) ?_
    refine aw_goto (pc := 17) 47 dX10_readDeed_17 (by decide) ?_
    refine aw_sub (L' := [(0, .ref 233), (1, .int v6)]) [1, 0] rfl ?_
    exact bt_X10_readDeed_47 l    v6 0  _ h
def wp_X10_isClosed (x1 : Int32) (x2 : Int32) (σ : Sg) (K : Int32 → Sg → Prop) : Prop :=
  vp_in ((391 + (6 * x1)) + x2) 415 ∧ (br ((σ 236 ((391 + (6 * x1)) + x2).toNatClampNeg) = 1) (K 1 σ) (K 0 σ))
set_option maxRecDepth 20000 in
set_option maxHeartbeats 2000000 in
theorem ev_X10_isClosed (l : Launch) (x1 : Int32) (x2 : Int32) {σ : Sg} {K : Int32 → Sg → Prop} (h : wp_X10_isClosed x1 x2 σ K) : Ev l yX10_isClosed cX10_isClosed 3 (some .boolean) 0 [.ref 233, .int x1, .int x2] σ (qI K) := by
  refine ev_ov (by decide) (Nat.le_of_ble_eq_true rfl) ?_
  show AV l RX10 cX10_isClosed 3 (some .boolean) 0 (qI K) 0 [(0, .ref 233), (1, .int x1), (2, .int x2)] [] σ
  refine aw_aload_n (pc := 0) 0 dX10_isClosed_0 rfl ?_
  refine aw_getR (pc := 1) 3 kcX10 dX10_isClosed_1 lfX10_16 nn_233 ki_233 (by decide) rfl rf_233_3 ?_
  refine aw_sipush (pc := 4) 391 dX10_isClosed_4 (by decide) ?_
  refine aw_bipush (pc := 7) 6 dX10_isClosed_7 (by decide) ?_
  refine aw_iload_n (pc := 9) 1 dX10_isClosed_9 rfl ?_
  refine aw_imul (pc := 10) dX10_isClosed_10 ?_
  refine aw_iadd (pc := 11) dX10_isClosed_11 ?_
  refine aw_iload_n (pc := 12) 2 dX10_isClosed_12 rfl ?_
  refine aw_iadd (pc := 13) dX10_isClosed_13 ?_
  refine aw_iald (pc := 14) (j := ((391 + (6 * x1)) + x2).toNatClampNeg) dX10_isClosed_14 nn_236 ki_236 ln_236 h.1 rfl ?_
  have h := h.2
  refine aw_iconst (pc := 15) 1 dX10_isClosed_15 (by decide) ?_
  refine aw_icmp_ne (pc := 16) 23 dX10_isClosed_16 (by decide) (fun q => ?_) (fun q => ?_)
  · have h := h.2 q
    refine aw_iconst (pc := 23) 0 dX10_isClosed_23 (by decide) ?_
    exact aw_zret (pc := 24) rfl rfl dX10_isClosed_24 ⟨_, rfl, h⟩
  · have h := h.1 q
    refine aw_iconst (pc := 19) 1 dX10_isClosed_19 (by decide) ?_
    refine aw_goto (pc := 20) 24 dX10_isClosed_20 (by decide) ?_
    exact aw_zret (pc := 24) rfl rfl dX10_isClosed_24 ⟨_, rfl, h⟩
def wp_X10_isOf (x1 : Int32) (x2 : Int32) (x3 : Int32) (σ : Sg) (K : Int32 → Sg → Prop) : Prop :=
  wp_X10_ofTie x1 0 σ <| fun r3_ τ3 => (br (r3_ = x2) (wp_X10_ofTie x1 1 τ3 <| fun r13_ τ13 => (br (r13_ = x3) (K 1 τ13) (K 0 τ13))) (K 0 τ3))
set_option maxRecDepth 20000 in
set_option maxHeartbeats 2000000 in
theorem ev_X10_isOf (l : Launch) (x1 : Int32) (x2 : Int32) (x3 : Int32) {σ : Sg} {K : Int32 → Sg → Prop} (h : wp_X10_isOf x1 x2 x3 σ K) : Ev l yX10_isOf cX10_isOf 4 (some .boolean) 1 [.ref 233, .int x1, .int x2, .int x3] σ (qI K) := by
  refine ev_ov (by decide) (Nat.le_of_ble_eq_true rfl) ?_
  show AV l RX10 cX10_isOf 4 (some .boolean) 1 (qI K) 0 [(0, .ref 233), (1, .int x1), (2, .int x2), (3, .int x3)] [] σ
  refine aw_aload_n (pc := 0) 0 dX10_isOf_0 rfl ?_
  refine aw_iload_n (pc := 1) 1 dX10_isOf_1 rfl ?_
  refine aw_iconst (pc := 2) 0 dX10_isOf_2 (by decide) ?_
  refine aw_callV (pc := 3) (As := [.int x1, .int 0]) (rest := []) kcX10 nn_233 ki_233 rfl (ev_X10_ofTie l x1 0 h) mfX10_ofTie dX10_isOf_3 lmX10_252 ⟨Nat.le_refl _, Nat.le_refl _⟩ (by decide) rfl rfl (Nat.le_of_ble_eq_true rfl) (nxI (fun r3_ τ3 h => ?_))
  refine aw_iload_n (pc := 6) 2 dX10_isOf_6 rfl ?_
  refine aw_icmp_ne (pc := 7) 24 dX10_isOf_7 (by decide) (fun q => ?_) (fun q => ?_)
  · have h := h.2 q
    refine aw_iconst (pc := 24) 0 dX10_isOf_24 (by decide) ?_
    exact aw_zret (pc := 25) rfl rfl dX10_isOf_25 ⟨_, rfl, h⟩
  · have h := h.1 q
    refine aw_aload_n (pc := 10) 0 dX10_isOf_10 rfl ?_
    refine aw_iload_n (pc := 11) 1 dX10_isOf_11 rfl ?_
    refine aw_iconst (pc := 12) 1 dX10_isOf_12 (by decide) ?_
    refine aw_callV (pc := 13) (As := [.int x1, .int 1]) (rest := []) kcX10 nn_233 ki_233 rfl (ev_X10_ofTie l x1 1 h) mfX10_ofTie dX10_isOf_13 lmX10_252 ⟨Nat.le_refl _, Nat.le_refl _⟩ (by decide) rfl rfl (Nat.le_of_ble_eq_true rfl) (nxI (fun r13_ τ13 h => ?_))
    refine aw_iload_n (pc := 16) 3 dX10_isOf_16 rfl ?_
    refine aw_icmp_ne (pc := 17) 24 dX10_isOf_17 (by decide) (fun q => ?_) (fun q => ?_)
    · have h := h.2 q
      refine aw_iconst (pc := 24) 0 dX10_isOf_24 (by decide) ?_
      exact aw_zret (pc := 25) rfl rfl dX10_isOf_25 ⟨_, rfl, h⟩
    · have h := h.1 q
      refine aw_iconst (pc := 20) 1 dX10_isOf_20 (by decide) ?_
      refine aw_goto (pc := 21) 25 dX10_isOf_21 (by decide) ?_
      exact aw_zret (pc := 25) rfl rfl dX10_isOf_25 ⟨_, rfl, h⟩
def b_X10_plays_6 (x1 : Int32) (x2 : Int32) (x3 : Int32)  (K : Int32 → Sg → Prop) : Nat → Int32 → Int32 → Sg → Prop
  | 0, _, _, _ => False
  | n + 1, y4, y5, σ =>
  br ((σ 236 0) ≤ y5) (isZ y4 ∧ K y4 σ) (br (y4 = 0) (wp_X10_isOf y5 x2 x3 σ <| fun r27_ τ27 => (br (r27_ = 0) (∀ v62 : Int32, v62 = y5 + 1 → (b_X10_plays_6 x1 x2 x3  K n 0 v62 τ27)) (wp_X10_ofTie y5 2 τ27 <| fun r37_ τ37 => (br (r37_ = x1) (∀ v62 : Int32, v62 = y5 + 1 → (b_X10_plays_6 x1 x2 x3  K n 1 v62 τ37)) (wp_X10_ofTie y5 3 τ37 <| fun r48_ τ48 => (br (r48_ = x1) (∀ v62 : Int32, v62 = y5 + 1 → (b_X10_plays_6 x1 x2 x3  K n 1 v62 τ48)) (∀ v62 : Int32, v62 = y5 + 1 → (b_X10_plays_6 x1 x2 x3  K n 0 v62 τ48)))))))) (∀ v62 : Int32, v62 = y5 + 1 → (b_X10_plays_6 x1 x2 x3  K n 1 v62 σ)))
set_option maxRecDepth 20000 in
set_option maxHeartbeats 2000000 in
theorem bt_X10_plays_6 (l : Launch) (x1 : Int32) (x2 : Int32) (x3 : Int32) {K : Int32 → Sg → Prop}   : ∀ (n : Nat) (y4 : Int32) (y5 : Int32)  (σ : Sg), b_X10_plays_6 x1 x2 x3  K n y4 y5 σ → AV l RX10 cX10_plays 6 (some .boolean) 2 (qI K) 6 [(0, .ref 233), (1, .int x1), (2, .int x2), (3, .int x3), (4, .int y4), (5, .int y5)] [] σ := by
  intro n
  induction n with
  | zero => intro y4 y5 σ h; exact h.elim
  | succ n ih =>
    intro y4 y5 σ h
    refine aw_iload (pc := 6) 5 dX10_plays_6 rfl ?_
    refine aw_aload_n (pc := 8) 0 dX10_plays_8 rfl ?_
    refine aw_getR (pc := 9) 3 kcX10 dX10_plays_9 lfX10_16 nn_233 ki_233 (by decide) rfl rf_233_3 ?_
    refine aw_iconst (pc := 12) 0 dX10_plays_12 (by decide) ?_
    refine aw_iald (pc := 13) (j := 0) dX10_plays_13 nn_236 ki_236 ln_236 (show vp_in _ _ by unfold vp_in; decide) (by decide) ?_
    refine aw_icmp_ge (pc := 14) 68 dX10_plays_14 (by decide) (fun q => ?_) (fun q => ?_)
    · have h := h.1 q
      refine aw_iload (pc := 68) 4 dX10_plays_68 rfl ?_
      exact aw_zret (pc := 70) rfl (isZ_n h.1) dX10_plays_70 ⟨_, rfl, h.2⟩
    · have h := h.2 q
      refine aw_iload (pc := 17) 4 dX10_plays_17 rfl ?_
      refine aw_if_ne (pc := 19) 55 dX10_plays_19 (by decide) (fun q => ?_) (fun q => ?_)
      · have h := h.2 q
        refine aw_iconst (pc := 55) 1 dX10_plays_55 (by decide) ?_
        refine aw_goto (pc := 56) 60 dX10_plays_56 (by decide) ?_
        refine aw_istore (pc := 60) [(4, .int 1), (0, .ref 233), (1, .int x1), (2, .int x2), (3, .int x3), (5, .int y5)] dX10_plays_60 (by decide) rfl ?_
        obtain ⟨v62, ev62⟩ : ∃ v : Int32, v = y5 + 1 := ⟨_, rfl⟩
        have h := h v62 ev62
        refine aw_iinc (pc := 62) 5 v62 [(5, .int v62), (4, .int 1), (0, .ref 233), (1, .int x1), (2, .int x2), (3, .int x3)] dX10_plays_62 rfl (by rw [ev62]; rfl) (by decide) rfl ?_
        refine aw_goto (pc := 65) 6 dX10_plays_65 (by decide) ?_
        refine aw_sub (L' := [(0, .ref 233), (1, .int x1), (2, .int x2), (3, .int x3), (4, .int 1), (5, .int v62)]) [2, 3, 4, 5, 1, 0] rfl ?_
        exact ih 1 v62  _ h
      · have h := h.1 q
        refine aw_aload_n (pc := 22) 0 dX10_plays_22 rfl ?_
        refine aw_iload (pc := 23) 5 dX10_plays_23 rfl ?_
        refine aw_iload_n (pc := 25) 2 dX10_plays_25 rfl ?_
        refine aw_iload_n (pc := 26) 3 dX10_plays_26 rfl ?_
        refine aw_callV (pc := 27) (As := [.int y5, .int x2, .int x3]) (rest := []) kcX10 nn_233 ki_233 rfl (ev_X10_isOf l y5 x2 x3 h) mfX10_isOf dX10_plays_27 lmX10_264 ⟨Nat.le_refl _, Nat.le_refl _⟩ (by decide) rfl rfl (Nat.le_of_ble_eq_true rfl) (nxI (fun r27_ τ27 h => ?_))
        refine aw_if_eq (pc := 30) 59 dX10_plays_30 (by decide) (fun q => ?_) (fun q => ?_)
        · have h := h.1 q
          refine aw_iconst (pc := 59) 0 dX10_plays_59 (by decide) ?_
          refine aw_istore (pc := 60) [(4, .int 0), (0, .ref 233), (1, .int x1), (2, .int x2), (3, .int x3), (5, .int y5)] dX10_plays_60 (by decide) rfl ?_
          obtain ⟨v62, ev62⟩ : ∃ v : Int32, v = y5 + 1 := ⟨_, rfl⟩
          have h := h v62 ev62
          refine aw_iinc (pc := 62) 5 v62 [(5, .int v62), (4, .int 0), (0, .ref 233), (1, .int x1), (2, .int x2), (3, .int x3)] dX10_plays_62 rfl (by rw [ev62]; rfl) (by decide) rfl ?_
          refine aw_goto (pc := 65) 6 dX10_plays_65 (by decide) ?_
          refine aw_sub (L' := [(0, .ref 233), (1, .int x1), (2, .int x2), (3, .int x3), (4, .int 0), (5, .int v62)]) [2, 3, 4, 5, 1, 0] rfl ?_
          exact ih 0 v62  _ h
        · have h := h.2 q
          refine aw_aload_n (pc := 33) 0 dX10_plays_33 rfl ?_
          refine aw_iload (pc := 34) 5 dX10_plays_34 rfl ?_
          refine aw_iconst (pc := 36) 2 dX10_plays_36 (by decide) ?_
          refine aw_callV (pc := 37) (As := [.int y5, .int 2]) (rest := []) kcX10 nn_233 ki_233 rfl (ev_X10_ofTie l y5 2 h) mfX10_ofTie dX10_plays_37 lmX10_252 ⟨Nat.le_refl _, Nat.le_refl _⟩ (by decide) rfl rfl (Nat.le_of_ble_eq_true rfl) (nxI (fun r37_ τ37 h => ?_))
          refine aw_iload_n (pc := 40) 1 dX10_plays_40 rfl ?_
          refine aw_icmp_eq (pc := 41) 55 dX10_plays_41 (by decide) (fun q => ?_) (fun q => ?_)
          · have h := h.1 q
            refine aw_iconst (pc := 55) 1 dX10_plays_55 (by decide) ?_
            refine aw_goto (pc := 56) 60 dX10_plays_56 (by decide) ?_
            refine aw_istore (pc := 60) [(4, .int 1), (0, .ref 233), (1, .int x1), (2, .int x2), (3, .int x3), (5, .int y5)] dX10_plays_60 (by decide) rfl ?_
            obtain ⟨v62, ev62⟩ : ∃ v : Int32, v = y5 + 1 := ⟨_, rfl⟩
            have h := h v62 ev62
            refine aw_iinc (pc := 62) 5 v62 [(5, .int v62), (4, .int 1), (0, .ref 233), (1, .int x1), (2, .int x2), (3, .int x3)] dX10_plays_62 rfl (by rw [ev62]; rfl) (by decide) rfl ?_
            refine aw_goto (pc := 65) 6 dX10_plays_65 (by decide) ?_
            refine aw_sub (L' := [(0, .ref 233), (1, .int x1), (2, .int x2), (3, .int x3), (4, .int 1), (5, .int v62)]) [2, 3, 4, 5, 1, 0] rfl ?_
            exact ih 1 v62  _ h
          · have h := h.2 q
            refine aw_aload_n (pc := 44) 0 dX10_plays_44 rfl ?_
            refine aw_iload (pc := 45) 5 dX10_plays_45 rfl ?_
            refine aw_iconst (pc := 47) 3 dX10_plays_47 (by decide) ?_
            refine aw_callV (pc := 48) (As := [.int y5, .int 3]) (rest := []) kcX10 nn_233 ki_233 rfl (ev_X10_ofTie l y5 3 h) mfX10_ofTie dX10_plays_48 lmX10_252 ⟨Nat.le_refl _, Nat.le_refl _⟩ (by decide) rfl rfl (Nat.le_of_ble_eq_true rfl) (nxI (fun r48_ τ48 h => ?_))
            refine aw_iload_n (pc := 51) 1 dX10_plays_51 rfl ?_
            refine aw_icmp_ne (pc := 52) 59 dX10_plays_52 (by decide) (fun q => ?_) (fun q => ?_)
            · have h := h.2 q
              refine aw_iconst (pc := 59) 0 dX10_plays_59 (by decide) ?_
              refine aw_istore (pc := 60) [(4, .int 0), (0, .ref 233), (1, .int x1), (2, .int x2), (3, .int x3), (5, .int y5)] dX10_plays_60 (by decide) rfl ?_
              obtain ⟨v62, ev62⟩ : ∃ v : Int32, v = y5 + 1 := ⟨_, rfl⟩
              have h := h v62 ev62
              refine aw_iinc (pc := 62) 5 v62 [(5, .int v62), (4, .int 0), (0, .ref 233), (1, .int x1), (2, .int x2), (3, .int x3)] dX10_plays_62 rfl (by rw [ev62]; rfl) (by decide) rfl ?_
              refine aw_goto (pc := 65) 6 dX10_plays_65 (by decide) ?_
              refine aw_sub (L' := [(0, .ref 233), (1, .int x1), (2, .int x2), (3, .int x3), (4, .int 0), (5, .int v62)]) [2, 3, 4, 5, 1, 0] rfl ?_
              exact ih 0 v62  _ h
            · have h := h.1 q
              refine aw_iconst (pc := 55) 1 dX10_plays_55 (by decide) ?_
              refine aw_goto (pc := 56) 60 dX10_plays_56 (by decide) ?_
              refine aw_istore (pc := 60) [(4, .int 1), (0, .ref 233), (1, .int x1), (2, .int x2), (3, .int x3), (5, .int y5)] dX10_plays_60 (by decide) rfl ?_
              obtain ⟨v62, ev62⟩ : ∃ v : Int32, v = y5 + 1 := ⟨_, rfl⟩
              have h := h v62 ev62
              refine aw_iinc (pc := 62) 5 v62 [(5, .int v62), (4, .int 1), (0, .ref 233), (1, .int x1), (2, .int x2), (3, .int x3)] dX10_plays_62 rfl (by rw [ev62]; rfl) (by decide) rfl ?_
              refine aw_goto (pc := 65) 6 dX10_plays_65 (by decide) ?_
              refine aw_sub (L' := [(0, .ref 233), (1, .int x1), (2, .int x2), (3, .int x3), (4, .int 1), (5, .int v62)]) [2, 3, 4, 5, 1, 0] rfl ?_
              exact ih 1 v62  _ h
def wp_X10_plays (x1 : Int32) (x2 : Int32) (x3 : Int32) (σ : Sg) (K : Int32 → Sg → Prop) : Prop :=
  ∃ nf, b_X10_plays_6 x1 x2 x3  K nf 0 0 σ
set_option maxRecDepth 20000 in
set_option maxHeartbeats 2000000 in
theorem ev_X10_plays (l : Launch) (x1 : Int32) (x2 : Int32) (x3 : Int32) {σ : Sg} {K : Int32 → Sg → Prop} (h : wp_X10_plays x1 x2 x3 σ K) : Ev l yX10_plays cX10_plays 6 (some .boolean) 2 [.ref 233, .int x1, .int x2, .int x3] σ (qI K) := by
  refine ev_ov (by decide) (Nat.le_of_ble_eq_true rfl) ?_
  show AV l RX10 cX10_plays 6 (some .boolean) 2 (qI K) 0 [(0, .ref 233), (1, .int x1), (2, .int x2), (3, .int x3)] [] σ
  refine aw_iconst (pc := 0) 0 dX10_plays_0 (by decide) ?_
  refine aw_istore (pc := 1) [(4, .int 0), (0, .ref 233), (1, .int x1), (2, .int x2), (3, .int x3)] dX10_plays_1 (by decide) rfl ?_
  refine aw_iconst (pc := 3) 0 dX10_plays_3 (by decide) ?_
  refine aw_istore (pc := 4) [(5, .int 0), (4, .int 0), (0, .ref 233), (1, .int x1), (2, .int x2), (3, .int x3)] dX10_plays_4 (by decide) rfl ?_
  refine aw_sub (L' := [(0, .ref 233), (1, .int x1), (2, .int x2), (3, .int x3), (4, .int 0), (5, .int 0)]) [2, 3, 4, 5, 1, 0] rfl ?_
  obtain ⟨nf, h⟩ := h
  exact bt_X10_plays_6 l x1 x2 x3   nf 0 0  _ h
def wp_X10_games (x1 : Int32) (σ : Sg) (K : Int32 → Sg → Prop) : Prop :=
  wp_X10_ofTie x1 4 σ <| fun r3_ τ3 => (K r3_ τ3)
set_option maxRecDepth 20000 in
set_option maxHeartbeats 2000000 in
theorem ev_X10_games (l : Launch) (x1 : Int32) {σ : Sg} {K : Int32 → Sg → Prop} (h : wp_X10_games x1 σ K) : Ev l yX10_games cX10_games 2 (some .int) 1 [.ref 233, .int x1] σ (qI K) := by
  refine ev_ov (by decide) (Nat.le_of_ble_eq_true rfl) ?_
  show AV l RX10 cX10_games 2 (some .int) 1 (qI K) 0 [(0, .ref 233), (1, .int x1)] [] σ
  refine aw_aload_n (pc := 0) 0 dX10_games_0 rfl ?_
  refine aw_iload_n (pc := 1) 1 dX10_games_1 rfl ?_
  refine aw_iconst (pc := 2) 4 dX10_games_2 (by decide) ?_
  refine aw_callV (pc := 3) (As := [.int x1, .int 4]) (rest := []) kcX10 nn_233 ki_233 rfl (ev_X10_ofTie l x1 4 h) mfX10_ofTie dX10_games_3 lmX10_252 ⟨Nat.le_refl _, Nat.le_refl _⟩ (by decide) rfl rfl (Nat.le_of_ble_eq_true rfl) (nxI (fun r3_ τ3 h => ?_))
  exact aw_iret (pc := 6) rfl dX10_games_6 ⟨_, rfl, h⟩
def wp_X10_wonOf (x1 : Int32) (x2 : Int32) (σ : Sg) (K : Int32 → Sg → Prop) : Prop :=
  wp_X10_ofTie x1 ((5 + (2 * x2)) + 1) σ <| fun r9_ τ9 => (K r9_ τ9)
set_option maxRecDepth 20000 in
set_option maxHeartbeats 2000000 in
theorem ev_X10_wonOf (l : Launch) (x1 : Int32) (x2 : Int32) {σ : Sg} {K : Int32 → Sg → Prop} (h : wp_X10_wonOf x1 x2 σ K) : Ev l yX10_wonOf cX10_wonOf 3 (some .int) 1 [.ref 233, .int x1, .int x2] σ (qI K) := by
  refine ev_ov (by decide) (Nat.le_of_ble_eq_true rfl) ?_
  show AV l RX10 cX10_wonOf 3 (some .int) 1 (qI K) 0 [(0, .ref 233), (1, .int x1), (2, .int x2)] [] σ
  refine aw_aload_n (pc := 0) 0 dX10_wonOf_0 rfl ?_
  refine aw_iload_n (pc := 1) 1 dX10_wonOf_1 rfl ?_
  refine aw_iconst (pc := 2) 5 dX10_wonOf_2 (by decide) ?_
  refine aw_iconst (pc := 3) 2 dX10_wonOf_3 (by decide) ?_
  refine aw_iload_n (pc := 4) 2 dX10_wonOf_4 rfl ?_
  refine aw_imul (pc := 5) dX10_wonOf_5 ?_
  refine aw_iadd (pc := 6) dX10_wonOf_6 ?_
  refine aw_iconst (pc := 7) 1 dX10_wonOf_7 (by decide) ?_
  refine aw_iadd (pc := 8) dX10_wonOf_8 ?_
  refine aw_callV (pc := 9) (As := [.int x1, .int ((5 + (2 * x2)) + 1)]) (rest := []) kcX10 nn_233 ki_233 rfl (ev_X10_ofTie l x1 ((5 + (2 * x2)) + 1) h) mfX10_ofTie dX10_wonOf_9 lmX10_252 ⟨Nat.le_refl _, Nat.le_refl _⟩ (by decide) rfl rfl (Nat.le_of_ble_eq_true rfl) (nxI (fun r9_ τ9 h => ?_))
  exact aw_iret (pc := 12) rfl dX10_wonOf_12 ⟨_, rfl, h⟩
def wp_X10_isDecided (x1 : Int32) (σ : Sg) (K : Int32 → Sg → Prop) : Prop :=
  wp_X10_games x1 σ <| fun r2_ τ2 => (br (r2_ ≤ 0) (K 0 τ2) (wp_X10_games x1 τ2 <| fun r12_ τ12 => (wp_X10_wonOf x1 (r12_ - 1) τ12 <| fun r17_ τ17 => (br (r17_ = 2) (K 0 τ17) (K 1 τ17)))))
set_option maxRecDepth 20000 in
set_option maxHeartbeats 2000000 in
theorem ev_X10_isDecided (l : Launch) (x1 : Int32) {σ : Sg} {K : Int32 → Sg → Prop} (h : wp_X10_isDecided x1 σ K) : Ev l yX10_isDecided cX10_isDecided 2 (some .boolean) 2 [.ref 233, .int x1] σ (qI K) := by
  refine ev_ov (by decide) (Nat.le_of_ble_eq_true rfl) ?_
  show AV l RX10 cX10_isDecided 2 (some .boolean) 2 (qI K) 0 [(0, .ref 233), (1, .int x1)] [] σ
  refine aw_aload_n (pc := 0) 0 dX10_isDecided_0 rfl ?_
  refine aw_iload_n (pc := 1) 1 dX10_isDecided_1 rfl ?_
  refine aw_callV (pc := 2) (As := [.int x1]) (rest := []) kcX10 nn_233 ki_233 rfl (ev_X10_games l x1 h) mfX10_games dX10_isDecided_2 lmX10_255 ⟨Nat.le_refl _, Nat.le_refl _⟩ (by decide) rfl rfl (Nat.le_of_ble_eq_true rfl) (nxI (fun r2_ τ2 h => ?_))
  refine aw_if_le (pc := 5) 28 dX10_isDecided_5 (by decide) (fun q => ?_) (fun q => ?_)
  · have h := h.1 q
    refine aw_iconst (pc := 28) 0 dX10_isDecided_28 (by decide) ?_
    exact aw_zret (pc := 29) rfl rfl dX10_isDecided_29 ⟨_, rfl, h⟩
  · have h := h.2 q
    refine aw_aload_n (pc := 8) 0 dX10_isDecided_8 rfl ?_
    refine aw_iload_n (pc := 9) 1 dX10_isDecided_9 rfl ?_
    refine aw_aload_n (pc := 10) 0 dX10_isDecided_10 rfl ?_
    refine aw_iload_n (pc := 11) 1 dX10_isDecided_11 rfl ?_
    refine aw_callV (pc := 12) (As := [.int x1]) (rest := [.int x1, .ref 233]) kcX10 nn_233 ki_233 rfl (ev_X10_games l x1 h) mfX10_games dX10_isDecided_12 lmX10_255 ⟨Nat.le_refl _, Nat.le_refl _⟩ (by decide) rfl rfl (Nat.le_of_ble_eq_true rfl) (nxI (fun r12_ τ12 h => ?_))
    refine aw_iconst (pc := 15) 1 dX10_isDecided_15 (by decide) ?_
    refine aw_isub (pc := 16) dX10_isDecided_16 ?_
    refine aw_callV (pc := 17) (As := [.int x1, .int (r12_ - 1)]) (rest := []) kcX10 nn_233 ki_233 rfl (ev_X10_wonOf l x1 (r12_ - 1) h) mfX10_wonOf dX10_isDecided_17 lmX10_258 ⟨Nat.le_refl _, Nat.le_refl _⟩ (by decide) rfl rfl (Nat.le_of_ble_eq_true rfl) (nxI (fun r17_ τ17 h => ?_))
    refine aw_iconst (pc := 20) 2 dX10_isDecided_20 (by decide) ?_
    refine aw_icmp_eq (pc := 21) 28 dX10_isDecided_21 (by decide) (fun q => ?_) (fun q => ?_)
    · have h := h.1 q
      refine aw_iconst (pc := 28) 0 dX10_isDecided_28 (by decide) ?_
      exact aw_zret (pc := 29) rfl rfl dX10_isDecided_29 ⟨_, rfl, h⟩
    · have h := h.2 q
      refine aw_iconst (pc := 24) 1 dX10_isDecided_24 (by decide) ?_
      refine aw_goto (pc := 25) 29 dX10_isDecided_25 (by decide) ?_
      exact aw_zret (pc := 29) rfl rfl dX10_isDecided_29 ⟨_, rfl, h⟩
def wp_X10_winner (x1 : Int32) (σ : Sg) (K : Int32 → Sg → Prop) : Prop :=
  wp_X10_isDecided x1 σ <| fun r2_ τ2 => (br (r2_ = 0) (K (-1) τ2) (wp_X10_games x1 τ2 <| fun r15_ τ15 => (wp_X10_wonOf x1 (r15_ - 1) τ15 <| fun r20_ τ20 => (wp_X10_ofTie x1 (2 + r20_) τ20 <| fun r24_ τ24 => (K r24_ τ24)))))
set_option maxRecDepth 20000 in
set_option maxHeartbeats 2000000 in
theorem ev_X10_winner (l : Launch) (x1 : Int32) {σ : Sg} {K : Int32 → Sg → Prop} (h : wp_X10_winner x1 σ K) : Ev l yX10_winner cX10_winner 2 (some .int) 3 [.ref 233, .int x1] σ (qI K) := by
  refine ev_ov (by decide) (Nat.le_of_ble_eq_true rfl) ?_
  show AV l RX10 cX10_winner 2 (some .int) 3 (qI K) 0 [(0, .ref 233), (1, .int x1)] [] σ
  refine aw_aload_n (pc := 0) 0 dX10_winner_0 rfl ?_
  refine aw_iload_n (pc := 1) 1 dX10_winner_1 rfl ?_
  refine aw_callV (pc := 2) (As := [.int x1]) (rest := []) kcX10 nn_233 ki_233 rfl (ev_X10_isDecided l x1 h) mfX10_isDecided dX10_winner_2 lmX10_261 ⟨Nat.le_refl _, Nat.le_refl _⟩ (by decide) rfl rfl (Nat.le_of_ble_eq_true rfl) (nxI (fun r2_ τ2 h => ?_))
  refine aw_if_eq (pc := 5) 30 dX10_winner_5 (by decide) (fun q => ?_) (fun q => ?_)
  · have h := h.1 q
    refine aw_iconst (pc := 30) (-1) dX10_winner_30 (by decide) ?_
    exact aw_iret (pc := 31) rfl dX10_winner_31 ⟨_, rfl, h⟩
  · have h := h.2 q
    refine aw_aload_n (pc := 8) 0 dX10_winner_8 rfl ?_
    refine aw_iload_n (pc := 9) 1 dX10_winner_9 rfl ?_
    refine aw_iconst (pc := 10) 2 dX10_winner_10 (by decide) ?_
    refine aw_aload_n (pc := 11) 0 dX10_winner_11 rfl ?_
    refine aw_iload_n (pc := 12) 1 dX10_winner_12 rfl ?_
    refine aw_aload_n (pc := 13) 0 dX10_winner_13 rfl ?_
    refine aw_iload_n (pc := 14) 1 dX10_winner_14 rfl ?_
    refine aw_callV (pc := 15) (As := [.int x1]) (rest := [.int x1, .ref 233, .int 2, .int x1, .ref 233]) kcX10 nn_233 ki_233 rfl (ev_X10_games l x1 h) mfX10_games dX10_winner_15 lmX10_255 ⟨Nat.le_refl _, Nat.le_refl _⟩ (by decide) rfl rfl (Nat.le_of_ble_eq_true rfl) (nxI (fun r15_ τ15 h => ?_))
    refine aw_iconst (pc := 18) 1 dX10_winner_18 (by decide) ?_
    refine aw_isub (pc := 19) dX10_winner_19 ?_
    refine aw_callV (pc := 20) (As := [.int x1, .int (r15_ - 1)]) (rest := [.int 2, .int x1, .ref 233]) kcX10 nn_233 ki_233 rfl (ev_X10_wonOf l x1 (r15_ - 1) h) mfX10_wonOf dX10_winner_20 lmX10_258 ⟨Nat.le_refl _, Nat.le_refl _⟩ (by decide) rfl rfl (Nat.le_of_ble_eq_true rfl) (nxI (fun r20_ τ20 h => ?_))
    refine aw_iadd (pc := 23) dX10_winner_23 ?_
    refine aw_callV (pc := 24) (As := [.int x1, .int (2 + r20_)]) (rest := []) kcX10 nn_233 ki_233 rfl (ev_X10_ofTie l x1 (2 + r20_) h) mfX10_ofTie dX10_winner_24 lmX10_252 ⟨Nat.le_refl _, Nat.le_refl _⟩ (by decide) rfl rfl (Nat.le_of_ble_eq_true rfl) (nxI (fun r24_ τ24 h => ?_))
    refine aw_goto (pc := 27) 31 dX10_winner_27 (by decide) ?_
    exact aw_iret (pc := 31) rfl dX10_winner_31 ⟨_, rfl, h⟩
def b_X10_hasWon_6 (x1 : Int32) (x2 : Int32) (x3 : Int32)  (K : Int32 → Sg → Prop) : Nat → Int32 → Int32 → Sg → Prop
  | 0, _, _, _ => False
  | n + 1, y4, y5, σ =>
  br ((σ 236 0) ≤ y5) (isZ y4 ∧ K y4 σ) (br (y4 = 0) (wp_X10_isOf y5 x2 x3 σ <| fun r27_ τ27 => (br (r27_ = 0) (∀ v50 : Int32, v50 = y5 + 1 → (b_X10_hasWon_6 x1 x2 x3  K n 0 v50 τ27)) (wp_X10_winner y5 τ27 <| fun r36_ τ36 => (br (r36_ = x1) (∀ v50 : Int32, v50 = y5 + 1 → (b_X10_hasWon_6 x1 x2 x3  K n 1 v50 τ36)) (∀ v50 : Int32, v50 = y5 + 1 → (b_X10_hasWon_6 x1 x2 x3  K n 0 v50 τ36)))))) (∀ v50 : Int32, v50 = y5 + 1 → (b_X10_hasWon_6 x1 x2 x3  K n 1 v50 σ)))
set_option maxRecDepth 20000 in
set_option maxHeartbeats 2000000 in
theorem bt_X10_hasWon_6 (l : Launch) (x1 : Int32) (x2 : Int32) (x3 : Int32) {K : Int32 → Sg → Prop}   : ∀ (n : Nat) (y4 : Int32) (y5 : Int32)  (σ : Sg), b_X10_hasWon_6 x1 x2 x3  K n y4 y5 σ → AV l RX10 cX10_hasWon 6 (some .boolean) 4 (qI K) 6 [(0, .ref 233), (1, .int x1), (2, .int x2), (3, .int x3), (4, .int y4), (5, .int y5)] [] σ := by
  intro n
  induction n with
  | zero => intro y4 y5 σ h; exact h.elim
  | succ n ih =>
    intro y4 y5 σ h
    refine aw_iload (pc := 6) 5 dX10_hasWon_6 rfl ?_
    refine aw_aload_n (pc := 8) 0 dX10_hasWon_8 rfl ?_
    refine aw_getR (pc := 9) 3 kcX10 dX10_hasWon_9 lfX10_16 nn_233 ki_233 (by decide) rfl rf_233_3 ?_
    refine aw_iconst (pc := 12) 0 dX10_hasWon_12 (by decide) ?_
    refine aw_iald (pc := 13) (j := 0) dX10_hasWon_13 nn_236 ki_236 ln_236 (show vp_in _ _ by unfold vp_in; decide) (by decide) ?_
    refine aw_icmp_ge (pc := 14) 56 dX10_hasWon_14 (by decide) (fun q => ?_) (fun q => ?_)
    · have h := h.1 q
      refine aw_iload (pc := 56) 4 dX10_hasWon_56 rfl ?_
      exact aw_zret (pc := 58) rfl (isZ_n h.1) dX10_hasWon_58 ⟨_, rfl, h.2⟩
    · have h := h.2 q
      refine aw_iload (pc := 17) 4 dX10_hasWon_17 rfl ?_
      refine aw_if_ne (pc := 19) 43 dX10_hasWon_19 (by decide) (fun q => ?_) (fun q => ?_)
      · have h := h.2 q
        refine aw_iconst (pc := 43) 1 dX10_hasWon_43 (by decide) ?_
        refine aw_goto (pc := 44) 48 dX10_hasWon_44 (by decide) ?_
        refine aw_istore (pc := 48) [(4, .int 1), (0, .ref 233), (1, .int x1), (2, .int x2), (3, .int x3), (5, .int y5)] dX10_hasWon_48 (by decide) rfl ?_
        obtain ⟨v50, ev50⟩ : ∃ v : Int32, v = y5 + 1 := ⟨_, rfl⟩
        have h := h v50 ev50
        refine aw_iinc (pc := 50) 5 v50 [(5, .int v50), (4, .int 1), (0, .ref 233), (1, .int x1), (2, .int x2), (3, .int x3)] dX10_hasWon_50 rfl (by rw [ev50]; rfl) (by decide) rfl ?_
        refine aw_goto (pc := 53) 6 dX10_hasWon_53 (by decide) ?_
        refine aw_sub (L' := [(0, .ref 233), (1, .int x1), (2, .int x2), (3, .int x3), (4, .int 1), (5, .int v50)]) [2, 3, 4, 5, 1, 0] rfl ?_
        exact ih 1 v50  _ h
      · have h := h.1 q
        refine aw_aload_n (pc := 22) 0 dX10_hasWon_22 rfl ?_
        refine aw_iload (pc := 23) 5 dX10_hasWon_23 rfl ?_
        refine aw_iload_n (pc := 25) 2 dX10_hasWon_25 rfl ?_
        refine aw_iload_n (pc := 26) 3 dX10_hasWon_26 rfl ?_
        refine aw_callV (pc := 27) (As := [.int y5, .int x2, .int x3]) (rest := []) kcX10 nn_233 ki_233 rfl (ev_X10_isOf l y5 x2 x3 h) mfX10_isOf dX10_hasWon_27 lmX10_264 ⟨Nat.le_refl _, Nat.le_refl _⟩ (by decide) rfl rfl (Nat.le_of_ble_eq_true rfl) (nxI (fun r27_ τ27 h => ?_))
        refine aw_if_eq (pc := 30) 47 dX10_hasWon_30 (by decide) (fun q => ?_) (fun q => ?_)
        · have h := h.1 q
          refine aw_iconst (pc := 47) 0 dX10_hasWon_47 (by decide) ?_
          refine aw_istore (pc := 48) [(4, .int 0), (0, .ref 233), (1, .int x1), (2, .int x2), (3, .int x3), (5, .int y5)] dX10_hasWon_48 (by decide) rfl ?_
          obtain ⟨v50, ev50⟩ : ∃ v : Int32, v = y5 + 1 := ⟨_, rfl⟩
          have h := h v50 ev50
          refine aw_iinc (pc := 50) 5 v50 [(5, .int v50), (4, .int 0), (0, .ref 233), (1, .int x1), (2, .int x2), (3, .int x3)] dX10_hasWon_50 rfl (by rw [ev50]; rfl) (by decide) rfl ?_
          refine aw_goto (pc := 53) 6 dX10_hasWon_53 (by decide) ?_
          refine aw_sub (L' := [(0, .ref 233), (1, .int x1), (2, .int x2), (3, .int x3), (4, .int 0), (5, .int v50)]) [2, 3, 4, 5, 1, 0] rfl ?_
          exact ih 0 v50  _ h
        · have h := h.2 q
          refine aw_aload_n (pc := 33) 0 dX10_hasWon_33 rfl ?_
          refine aw_iload (pc := 34) 5 dX10_hasWon_34 rfl ?_
          refine aw_callV (pc := 36) (As := [.int y5]) (rest := []) kcX10 nn_233 ki_233 rfl (ev_X10_winner l y5 h) mfX10_winner dX10_hasWon_36 lmX10_268 ⟨Nat.le_refl _, Nat.le_refl _⟩ (by decide) rfl rfl (Nat.le_of_ble_eq_true rfl) (nxI (fun r36_ τ36 h => ?_))
          refine aw_iload_n (pc := 39) 1 dX10_hasWon_39 rfl ?_
          refine aw_icmp_ne (pc := 40) 47 dX10_hasWon_40 (by decide) (fun q => ?_) (fun q => ?_)
          · have h := h.2 q
            refine aw_iconst (pc := 47) 0 dX10_hasWon_47 (by decide) ?_
            refine aw_istore (pc := 48) [(4, .int 0), (0, .ref 233), (1, .int x1), (2, .int x2), (3, .int x3), (5, .int y5)] dX10_hasWon_48 (by decide) rfl ?_
            obtain ⟨v50, ev50⟩ : ∃ v : Int32, v = y5 + 1 := ⟨_, rfl⟩
            have h := h v50 ev50
            refine aw_iinc (pc := 50) 5 v50 [(5, .int v50), (4, .int 0), (0, .ref 233), (1, .int x1), (2, .int x2), (3, .int x3)] dX10_hasWon_50 rfl (by rw [ev50]; rfl) (by decide) rfl ?_
            refine aw_goto (pc := 53) 6 dX10_hasWon_53 (by decide) ?_
            refine aw_sub (L' := [(0, .ref 233), (1, .int x1), (2, .int x2), (3, .int x3), (4, .int 0), (5, .int v50)]) [2, 3, 4, 5, 1, 0] rfl ?_
            exact ih 0 v50  _ h
          · have h := h.1 q
            refine aw_iconst (pc := 43) 1 dX10_hasWon_43 (by decide) ?_
            refine aw_goto (pc := 44) 48 dX10_hasWon_44 (by decide) ?_
            refine aw_istore (pc := 48) [(4, .int 1), (0, .ref 233), (1, .int x1), (2, .int x2), (3, .int x3), (5, .int y5)] dX10_hasWon_48 (by decide) rfl ?_
            obtain ⟨v50, ev50⟩ : ∃ v : Int32, v = y5 + 1 := ⟨_, rfl⟩
            have h := h v50 ev50
            refine aw_iinc (pc := 50) 5 v50 [(5, .int v50), (4, .int 1), (0, .ref 233), (1, .int x1), (2, .int x2), (3, .int x3)] dX10_hasWon_50 rfl (by rw [ev50]; rfl) (by decide) rfl ?_
            refine aw_goto (pc := 53) 6 dX10_hasWon_53 (by decide) ?_
            refine aw_sub (L' := [(0, .ref 233), (1, .int x1), (2, .int x2), (3, .int x3), (4, .int 1), (5, .int v50)]) [2, 3, 4, 5, 1, 0] rfl ?_
            exact ih 1 v50  _ h
def wp_X10_hasWon (x1 : Int32) (x2 : Int32) (x3 : Int32) (σ : Sg) (K : Int32 → Sg → Prop) : Prop :=
  ∃ nf, b_X10_hasWon_6 x1 x2 x3  K nf 0 0 σ
set_option maxRecDepth 20000 in
set_option maxHeartbeats 2000000 in
theorem ev_X10_hasWon (l : Launch) (x1 : Int32) (x2 : Int32) (x3 : Int32) {σ : Sg} {K : Int32 → Sg → Prop} (h : wp_X10_hasWon x1 x2 x3 σ K) : Ev l yX10_hasWon cX10_hasWon 6 (some .boolean) 4 [.ref 233, .int x1, .int x2, .int x3] σ (qI K) := by
  refine ev_ov (by decide) (Nat.le_of_ble_eq_true rfl) ?_
  show AV l RX10 cX10_hasWon 6 (some .boolean) 4 (qI K) 0 [(0, .ref 233), (1, .int x1), (2, .int x2), (3, .int x3)] [] σ
  refine aw_iconst (pc := 0) 0 dX10_hasWon_0 (by decide) ?_
  refine aw_istore (pc := 1) [(4, .int 0), (0, .ref 233), (1, .int x1), (2, .int x2), (3, .int x3)] dX10_hasWon_1 (by decide) rfl ?_
  refine aw_iconst (pc := 3) 0 dX10_hasWon_3 (by decide) ?_
  refine aw_istore (pc := 4) [(5, .int 0), (4, .int 0), (0, .ref 233), (1, .int x1), (2, .int x2), (3, .int x3)] dX10_hasWon_4 (by decide) rfl ?_
  refine aw_sub (L' := [(0, .ref 233), (1, .int x1), (2, .int x2), (3, .int x3), (4, .int 0), (5, .int 0)]) [2, 3, 4, 5, 1, 0] rfl ?_
  obtain ⟨nf, h⟩ := h
  exact bt_X10_hasWon_6 l x1 x2 x3   nf 0 0  _ h
def wp_X10_isReady (x1 : Int32) (x2 : Int32) (x3 : Int32) (x4 : Int32) (σ : Sg) (K : Int32 → Sg → Prop) : Prop :=
  br (x2 = 0) (K 1 σ) (wp_X10_isClosed x1 (x2 - 1) σ <| fun r9_ τ9 => (br (r9_ = 0) (K 0 τ9) (wp_X10_hasWon x3 x1 (x2 - 1) τ9 <| fun r21_ τ21 => (br (r21_ = 0) (K 0 τ21) (wp_X10_hasWon x4 x1 (x2 - 1) τ21 <| fun r34_ τ34 => (br (r34_ = 0) (K 0 τ34) (K 1 τ34)))))))
set_option maxRecDepth 20000 in
set_option maxHeartbeats 2000000 in
theorem ev_X10_isReady (l : Launch) (x1 : Int32) (x2 : Int32) (x3 : Int32) (x4 : Int32) {σ : Sg} {K : Int32 → Sg → Prop} (h : wp_X10_isReady x1 x2 x3 x4 σ K) : Ev l yX10_isReady cX10_isReady 5 (some .boolean) 5 [.ref 233, .int x1, .int x2, .int x3, .int x4] σ (qI K) := by
  refine ev_ov (by decide) (Nat.le_of_ble_eq_true rfl) ?_
  show AV l RX10 cX10_isReady 5 (some .boolean) 5 (qI K) 0 [(0, .ref 233), (1, .int x1), (2, .int x2), (3, .int x3), (4, .int x4)] [] σ
  refine aw_iload_n (pc := 0) 2 dX10_isReady_0 rfl ?_
  refine aw_if_eq (pc := 1) 40 dX10_isReady_1 (by decide) (fun q => ?_) (fun q => ?_)
  · have h := h.1 q
    refine aw_iconst (pc := 40) 1 dX10_isReady_40 (by decide) ?_
    refine aw_goto (pc := 41) 45 dX10_isReady_41 (by decide) ?_
    exact aw_zret (pc := 45) rfl rfl dX10_isReady_45 ⟨_, rfl, h⟩
  · have h := h.2 q
    refine aw_aload_n (pc := 4) 0 dX10_isReady_4 rfl ?_
    refine aw_iload_n (pc := 5) 1 dX10_isReady_5 rfl ?_
    refine aw_iload_n (pc := 6) 2 dX10_isReady_6 rfl ?_
    refine aw_iconst (pc := 7) 1 dX10_isReady_7 (by decide) ?_
    refine aw_isub (pc := 8) dX10_isReady_8 ?_
    refine aw_callV (pc := 9) (As := [.int x1, .int (x2 - 1)]) (rest := []) kcX10 nn_233 ki_233 rfl (ev_X10_isClosed l x1 (x2 - 1) h) mfX10_isClosed dX10_isReady_9 lmX10_271 ⟨Nat.le_refl _, Nat.le_refl _⟩ (by decide) rfl rfl (Nat.le_of_ble_eq_true rfl) (nxI (fun r9_ τ9 h => ?_))
    refine aw_if_eq (pc := 12) 44 dX10_isReady_12 (by decide) (fun q => ?_) (fun q => ?_)
    · have h := h.1 q
      refine aw_iconst (pc := 44) 0 dX10_isReady_44 (by decide) ?_
      exact aw_zret (pc := 45) rfl rfl dX10_isReady_45 ⟨_, rfl, h⟩
    · have h := h.2 q
      refine aw_aload_n (pc := 15) 0 dX10_isReady_15 rfl ?_
      refine aw_iload_n (pc := 16) 3 dX10_isReady_16 rfl ?_
      refine aw_iload_n (pc := 17) 1 dX10_isReady_17 rfl ?_
      refine aw_iload_n (pc := 18) 2 dX10_isReady_18 rfl ?_
      refine aw_iconst (pc := 19) 1 dX10_isReady_19 (by decide) ?_
      refine aw_isub (pc := 20) dX10_isReady_20 ?_
      refine aw_callV (pc := 21) (As := [.int x3, .int x1, .int (x2 - 1)]) (rest := []) kcX10 nn_233 ki_233 rfl (ev_X10_hasWon l x3 x1 (x2 - 1) h) mfX10_hasWon dX10_isReady_21 lmX10_275 ⟨Nat.le_refl _, Nat.le_refl _⟩ (by decide) rfl rfl (Nat.le_of_ble_eq_true rfl) (nxI (fun r21_ τ21 h => ?_))
      refine aw_if_eq (pc := 24) 44 dX10_isReady_24 (by decide) (fun q => ?_) (fun q => ?_)
      · have h := h.1 q
        refine aw_iconst (pc := 44) 0 dX10_isReady_44 (by decide) ?_
        exact aw_zret (pc := 45) rfl rfl dX10_isReady_45 ⟨_, rfl, h⟩
      · have h := h.2 q
        refine aw_aload_n (pc := 27) 0 dX10_isReady_27 rfl ?_
        refine aw_iload (pc := 28) 4 dX10_isReady_28 rfl ?_
        refine aw_iload_n (pc := 30) 1 dX10_isReady_30 rfl ?_
        refine aw_iload_n (pc := 31) 2 dX10_isReady_31 rfl ?_
        refine aw_iconst (pc := 32) 1 dX10_isReady_32 (by decide) ?_
        refine aw_isub (pc := 33) dX10_isReady_33 ?_
        refine aw_callV (pc := 34) (As := [.int x4, .int x1, .int (x2 - 1)]) (rest := []) kcX10 nn_233 ki_233 rfl (ev_X10_hasWon l x4 x1 (x2 - 1) h) mfX10_hasWon dX10_isReady_34 lmX10_275 ⟨Nat.le_refl _, Nat.le_refl _⟩ (by decide) rfl rfl (Nat.le_of_ble_eq_true rfl) (nxI (fun r34_ τ34 h => ?_))
        refine aw_if_eq (pc := 37) 44 dX10_isReady_37 (by decide) (fun q => ?_) (fun q => ?_)
        · have h := h.1 q
          refine aw_iconst (pc := 44) 0 dX10_isReady_44 (by decide) ?_
          exact aw_zret (pc := 45) rfl rfl dX10_isReady_45 ⟨_, rfl, h⟩
        · have h := h.2 q
          refine aw_iconst (pc := 40) 1 dX10_isReady_40 (by decide) ?_
          refine aw_goto (pc := 41) 45 dX10_isReady_41 (by decide) ?_
          exact aw_zret (pc := 45) rfl rfl dX10_isReady_45 ⟨_, rfl, h⟩
def b_X10_doTie_151 (x1 : Int32) (x2 : Int32) (x3 : Int32) (x4 : Int32)  (K : Int32 → Sg → Prop) : Nat → Int32 → Int32 → Sg → Prop
  | 0, _, _, _ => False
  | n + 1, y5, y6, σ =>
  br (13 ≤ y6) (∀ τ184 : Sg, τ184 = up σ 236 0 ((σ 236 0) + 1) → (K ((τ184 236 0) - 1) τ184)) (vp_in (y5 + y6) 415 ∧ (∀ τ168 : Sg, τ168 = up σ 236 (y5 + y6).toNatClampNeg 0 → (∀ v169 : Int32, v169 = y6 + 1 → (b_X10_doTie_151 x1 x2 x3 x4  K n y5 v169 τ168))))
set_option maxRecDepth 20000 in
set_option maxHeartbeats 2000000 in
theorem bt_X10_doTie_151 (l : Launch) (x1 : Int32) (x2 : Int32) (x3 : Int32) (x4 : Int32) {K : Int32 → Sg → Prop}   : ∀ (n : Nat) (y5 : Int32) (y6 : Int32)  (σ : Sg), b_X10_doTie_151 x1 x2 x3 x4  K n y5 y6 σ → AV l RX10 cX10_doTie 7 (some .int) 6 (qI K) 151 [(0, .ref 233), (5, .int y5), (6, .int y6)] [] σ := by
  intro n
  induction n with
  | zero => intro y5 y6 σ h; exact h.elim
  | succ n ih =>
    intro y5 y6 σ h
    refine aw_iload (pc := 151) 2 dX10_doTie_151 rfl ?_
    refine aw_bipush (pc := 153) 13 dX10_doTie_153 (by decide) ?_
    refine aw_icmp_ge (pc := 155) 175 dX10_doTie_155 (by decide) (fun q => ?_) (fun q => ?_)
    · have h := h.1 q
      refine aw_aload_n (pc := 175) 0 dX10_doTie_175 rfl ?_
      refine aw_getR (pc := 176) 3 kcX10 dX10_doTie_176 lfX10_16 nn_233 ki_233 (by decide) rfl rf_233_3 ?_
      refine aw_iconst (pc := 179) 0 dX10_doTie_179 (by decide) ?_
      refine aw_dup2 (pc := 180) dX10_doTie_180 rfl rfl ?_
      refine aw_iald (pc := 181) (j := 0) dX10_doTie_181 nn_236 ki_236 ln_236 (show vp_in _ _ by unfold vp_in; decide) (by decide) ?_
      refine aw_iconst (pc := 182) 1 dX10_doTie_182 (by decide) ?_
      refine aw_iadd (pc := 183) dX10_doTie_183 ?_
      refine aw_iast (pc := 184) (j := 0) (v := ((σ 236 0) + 1)) dX10_doTie_184 nn_236 ki_236 ln_236 (show vp_in _ _ by unfold vp_in; decide) (by decide) rfl ?_
      refine aw_tops (fun τ184 eτ184 => ?_)
      have h := h τ184 eτ184
      refine aw_aload_n (pc := 185) 0 dX10_doTie_185 rfl ?_
      refine aw_getR (pc := 186) 3 kcX10 dX10_doTie_186 lfX10_16 nn_233 ki_233 (by decide) rfl rf_233_3 ?_
      refine aw_iconst (pc := 189) 0 dX10_doTie_189 (by decide) ?_
      refine aw_iald (pc := 190) (j := 0) dX10_doTie_190 nn_236 ki_236 ln_236 (show vp_in _ _ by unfold vp_in; decide) (by decide) ?_
      refine aw_iconst (pc := 191) 1 dX10_doTie_191 (by decide) ?_
      refine aw_isub (pc := 192) dX10_doTie_192 ?_
      exact aw_iret (pc := 193) rfl dX10_doTie_193 ⟨_, rfl, h⟩
    · have h := h.2 q
      refine aw_aload_n (pc := 158) 0 dX10_doTie_158 rfl ?_
      refine aw_getR (pc := 159) 3 kcX10 dX10_doTie_159 lfX10_16 nn_233 ki_233 (by decide) rfl rf_233_3 ?_
      refine aw_iload (pc := 162) 1 dX10_doTie_162 rfl ?_
      refine aw_iload (pc := 164) 2 dX10_doTie_164 rfl ?_
      refine aw_iadd (pc := 166) dX10_doTie_166 ?_
      refine aw_iconst (pc := 167) 0 dX10_doTie_167 (by decide) ?_
      refine aw_iast (pc := 168) (j := (y5 + y6).toNatClampNeg) (v := 0) dX10_doTie_168 nn_236 ki_236 ln_236 h.1 rfl rfl ?_
      have h := h.2
      refine aw_tops (fun τ168 eτ168 => ?_)
      have h := h τ168 eτ168
      obtain ⟨v169, ev169⟩ : ∃ v : Int32, v = y6 + 1 := ⟨_, rfl⟩
      have h := h v169 ev169
      refine aw_iinc (pc := 169) 2 v169 [(6, .int v169), (0, .ref 233), (5, .int y5)] dX10_doTie_169 rfl (by rw [ev169]; rfl) (by decide) rfl ?_
      refine aw_goto (pc := 172) 151 dX10_doTie_172 (by decide) ?_
      refine aw_sub (L' := [(0, .ref 233), (5, .int y5), (6, .int v169)]) [1, 2, 0] rfl ?_
      exact ih y5 v169  _ h
def wp_X10_doTie (x1 : Int32) (x2 : Int32) (x3 : Int32) (x4 : Int32) (σ : Sg) (K : Int32 → Sg → Prop) : Prop :=
  wp_X10_isCup x1 σ <| fun r2_ τ2 => (br (r2_ = 0) (K (-1) τ2) (wp_X10_isRound x2 τ2 <| fun r9_ τ9 => (br (r9_ = 0) (K (-1) τ9) (wp_X10_isClub x3 τ9 <| fun r17_ τ17 => (br (r17_ = 0) (K (-1) τ17) (wp_X10_isClub x4 τ17 <| fun r26_ τ26 => (br (r26_ = 0) (K (-1) τ26) (br (x3 = x4) (K (-2) τ26) (br ((τ26 236 0) = 30) (K (-2) τ26) (wp_X10_isClosed x1 x2 τ26 <| fun r54_ τ54 => (br (r54_ = 0) (wp_X10_plays x3 x1 x2 τ54 <| fun r64_ τ64 => (br (r64_ = 0) (wp_X10_plays x4 x1 x2 τ64 <| fun r75_ τ75 => (br (r75_ = 0) (wp_X10_isReady x1 x2 x3 x4 τ75 <| fun r87_ τ87 => (br (r87_ = 0) (K (-2) τ87) (∀ v107 : Int32, v107 = 1 + (13 * (τ87 236 0)) → (vp_in v107 415 ∧ (∀ τ116 : Sg, τ116 = up τ87 236 v107.toNatClampNeg x1 → (vp_in (v107 + 1) 415 ∧ (∀ τ126 : Sg, τ126 = up τ116 236 (v107 + 1).toNatClampNeg x2 → (vp_in (v107 + 2) 415 ∧ (∀ τ136 : Sg, τ136 = up τ126 236 (v107 + 2).toNatClampNeg x3 → (vp_in (v107 + 3) 415 ∧ (∀ τ147 : Sg, τ147 = up τ136 236 (v107 + 3).toNatClampNeg x4 → (∃ nf, b_X10_doTie_151 x1 x2 x3 x4  K nf v107 4 τ147)))))))))))) (K (-2) τ75))) (K (-2) τ64))) (K (-2) τ54))))))))))))
set_option maxRecDepth 20000 in
set_option maxHeartbeats 2000000 in
theorem ev_X10_doTie (l : Launch) (x1 : Int32) (x2 : Int32) (x3 : Int32) (x4 : Int32) {σ : Sg} {K : Int32 → Sg → Prop} (h : wp_X10_doTie x1 x2 x3 x4 σ K) : Ev l yX10_doTie cX10_doTie 7 (some .int) 6 [.ref 233, .int x1, .int x2, .int x3, .int x4] σ (qI K) := by
  refine ev_ov (by decide) (Nat.le_of_ble_eq_true rfl) ?_
  show AV l RX10 cX10_doTie 7 (some .int) 6 (qI K) 0 [(0, .ref 233), (1, .int x1), (2, .int x2), (3, .int x3), (4, .int x4)] [] σ
  refine aw_aload_n (pc := 0) 0 dX10_doTie_0 rfl ?_
  refine aw_iload_n (pc := 1) 1 dX10_doTie_1 rfl ?_
  refine aw_callV (pc := 2) (As := [.int x1]) (rest := []) kcX10 nn_233 ki_233 rfl (ev_X10_isCup l x1 h) mfX10_isCup dX10_doTie_2 lmX10_278 ⟨Nat.le_refl _, Nat.le_refl _⟩ (by decide) rfl rfl (Nat.le_of_ble_eq_true rfl) (nxI (fun r2_ τ2 h => ?_))
  refine aw_if_eq (pc := 5) 32 dX10_doTie_5 (by decide) (fun q => ?_) (fun q => ?_)
  · have h := h.1 q
    refine aw_iconst (pc := 32) (-1) dX10_doTie_32 (by decide) ?_
    exact aw_iret (pc := 33) rfl dX10_doTie_33 ⟨_, rfl, h⟩
  · have h := h.2 q
    refine aw_iload_n (pc := 8) 2 dX10_doTie_8 rfl ?_
    refine aw_callS (pc := 9) (As := [.int x2]) (rest := []) (ev_X10_isRound l x2 h) mfX10_isRound dX10_doTie_9 lmX10_281 ⟨Nat.le_refl _, Nat.le_refl _⟩ (by decide) rfl rfl (Nat.le_of_ble_eq_true rfl) (nxI (fun r9_ τ9 h => ?_))
    refine aw_if_eq (pc := 12) 32 dX10_doTie_12 (by decide) (fun q => ?_) (fun q => ?_)
    · have h := h.1 q
      refine aw_iconst (pc := 32) (-1) dX10_doTie_32 (by decide) ?_
      exact aw_iret (pc := 33) rfl dX10_doTie_33 ⟨_, rfl, h⟩
    · have h := h.2 q
      refine aw_aload_n (pc := 15) 0 dX10_doTie_15 rfl ?_
      refine aw_iload_n (pc := 16) 3 dX10_doTie_16 rfl ?_
      refine aw_callV (pc := 17) (As := [.int x3]) (rest := []) kcX10 nn_233 ki_233 rfl (ev_X10_isClub l x3 h) mfX10_isClub dX10_doTie_17 lmX10_284 ⟨Nat.le_refl _, Nat.le_refl _⟩ (by decide) rfl rfl (Nat.le_of_ble_eq_true rfl) (nxI (fun r17_ τ17 h => ?_))
      refine aw_if_eq (pc := 20) 32 dX10_doTie_20 (by decide) (fun q => ?_) (fun q => ?_)
      · have h := h.1 q
        refine aw_iconst (pc := 32) (-1) dX10_doTie_32 (by decide) ?_
        exact aw_iret (pc := 33) rfl dX10_doTie_33 ⟨_, rfl, h⟩
      · have h := h.2 q
        refine aw_aload_n (pc := 23) 0 dX10_doTie_23 rfl ?_
        refine aw_iload (pc := 24) 4 dX10_doTie_24 rfl ?_
        refine aw_callV (pc := 26) (As := [.int x4]) (rest := []) kcX10 nn_233 ki_233 rfl (ev_X10_isClub l x4 h) mfX10_isClub dX10_doTie_26 lmX10_284 ⟨Nat.le_refl _, Nat.le_refl _⟩ (by decide) rfl rfl (Nat.le_of_ble_eq_true rfl) (nxI (fun r26_ τ26 h => ?_))
        refine aw_if_ne (pc := 29) 34 dX10_doTie_29 (by decide) (fun q => ?_) (fun q => ?_)
        · have h := h.2 q
          refine aw_iload_n (pc := 34) 3 dX10_doTie_34 rfl ?_
          refine aw_iload (pc := 35) 4 dX10_doTie_35 rfl ?_
          refine aw_icmp_eq (pc := 37) 93 dX10_doTie_37 (by decide) (fun q => ?_) (fun q => ?_)
          · have h := h.1 q
            refine aw_bipush (pc := 93) (-2) dX10_doTie_93 (by decide) ?_
            exact aw_iret (pc := 95) rfl dX10_doTie_95 ⟨_, rfl, h⟩
          · have h := h.2 q
            refine aw_aload_n (pc := 40) 0 dX10_doTie_40 rfl ?_
            refine aw_getR (pc := 41) 3 kcX10 dX10_doTie_41 lfX10_16 nn_233 ki_233 (by decide) rfl rf_233_3 ?_
            refine aw_iconst (pc := 44) 0 dX10_doTie_44 (by decide) ?_
            refine aw_iald (pc := 45) (j := 0) dX10_doTie_45 nn_236 ki_236 ln_236 (show vp_in _ _ by unfold vp_in; decide) (by decide) ?_
            refine aw_bipush (pc := 46) 30 dX10_doTie_46 (by decide) ?_
            refine aw_icmp_eq (pc := 48) 93 dX10_doTie_48 (by decide) (fun q => ?_) (fun q => ?_)
            · have h := h.1 q
              refine aw_bipush (pc := 93) (-2) dX10_doTie_93 (by decide) ?_
              exact aw_iret (pc := 95) rfl dX10_doTie_95 ⟨_, rfl, h⟩
            · have h := h.2 q
              refine aw_aload_n (pc := 51) 0 dX10_doTie_51 rfl ?_
              refine aw_iload_n (pc := 52) 1 dX10_doTie_52 rfl ?_
              refine aw_iload_n (pc := 53) 2 dX10_doTie_53 rfl ?_
              refine aw_callV (pc := 54) (As := [.int x1, .int x2]) (rest := []) kcX10 nn_233 ki_233 rfl (ev_X10_isClosed l x1 x2 h) mfX10_isClosed dX10_doTie_54 lmX10_271 ⟨Nat.le_refl _, Nat.le_refl _⟩ (by decide) rfl rfl (Nat.le_of_ble_eq_true rfl) (nxI (fun r54_ τ54 h => ?_))
              refine aw_if_ne (pc := 57) 93 dX10_doTie_57 (by decide) (fun q => ?_) (fun q => ?_)
              · have h := h.2 q
                refine aw_bipush (pc := 93) (-2) dX10_doTie_93 (by decide) ?_
                exact aw_iret (pc := 95) rfl dX10_doTie_95 ⟨_, rfl, h⟩
              · have h := h.1 q
                refine aw_aload_n (pc := 60) 0 dX10_doTie_60 rfl ?_
                refine aw_iload_n (pc := 61) 3 dX10_doTie_61 rfl ?_
                refine aw_iload_n (pc := 62) 1 dX10_doTie_62 rfl ?_
                refine aw_iload_n (pc := 63) 2 dX10_doTie_63 rfl ?_
                refine aw_callV (pc := 64) (As := [.int x3, .int x1, .int x2]) (rest := []) kcX10 nn_233 ki_233 rfl (ev_X10_plays l x3 x1 x2 h) mfX10_plays dX10_doTie_64 lmX10_287 ⟨Nat.le_refl _, Nat.le_refl _⟩ (by decide) rfl rfl (Nat.le_of_ble_eq_true rfl) (nxI (fun r64_ τ64 h => ?_))
                refine aw_if_ne (pc := 67) 93 dX10_doTie_67 (by decide) (fun q => ?_) (fun q => ?_)
                · have h := h.2 q
                  refine aw_bipush (pc := 93) (-2) dX10_doTie_93 (by decide) ?_
                  exact aw_iret (pc := 95) rfl dX10_doTie_95 ⟨_, rfl, h⟩
                · have h := h.1 q
                  refine aw_aload_n (pc := 70) 0 dX10_doTie_70 rfl ?_
                  refine aw_iload (pc := 71) 4 dX10_doTie_71 rfl ?_
                  refine aw_iload_n (pc := 73) 1 dX10_doTie_73 rfl ?_
                  refine aw_iload_n (pc := 74) 2 dX10_doTie_74 rfl ?_
                  refine aw_callV (pc := 75) (As := [.int x4, .int x1, .int x2]) (rest := []) kcX10 nn_233 ki_233 rfl (ev_X10_plays l x4 x1 x2 h) mfX10_plays dX10_doTie_75 lmX10_287 ⟨Nat.le_refl _, Nat.le_refl _⟩ (by decide) rfl rfl (Nat.le_of_ble_eq_true rfl) (nxI (fun r75_ τ75 h => ?_))
                  refine aw_if_ne (pc := 78) 93 dX10_doTie_78 (by decide) (fun q => ?_) (fun q => ?_)
                  · have h := h.2 q
                    refine aw_bipush (pc := 93) (-2) dX10_doTie_93 (by decide) ?_
                    exact aw_iret (pc := 95) rfl dX10_doTie_95 ⟨_, rfl, h⟩
                  · have h := h.1 q
                    refine aw_aload_n (pc := 81) 0 dX10_doTie_81 rfl ?_
                    refine aw_iload_n (pc := 82) 1 dX10_doTie_82 rfl ?_
                    refine aw_iload_n (pc := 83) 2 dX10_doTie_83 rfl ?_
                    refine aw_iload_n (pc := 84) 3 dX10_doTie_84 rfl ?_
                    refine aw_iload (pc := 85) 4 dX10_doTie_85 rfl ?_
                    refine aw_callV (pc := 87) (As := [.int x1, .int x2, .int x3, .int x4]) (rest := []) kcX10 nn_233 ki_233 rfl (ev_X10_isReady l x1 x2 x3 x4 h) mfX10_isReady dX10_doTie_87 lmX10_290 ⟨Nat.le_refl _, Nat.le_refl _⟩ (by decide) rfl rfl (Nat.le_of_ble_eq_true rfl) (nxI (fun r87_ τ87 h => ?_))
                    refine aw_if_ne (pc := 90) 96 dX10_doTie_90 (by decide) (fun q => ?_) (fun q => ?_)
                    · have h := h.2 q
                      refine aw_iconst (pc := 96) 1 dX10_doTie_96 (by decide) ?_
                      refine aw_bipush (pc := 97) 13 dX10_doTie_97 (by decide) ?_
                      refine aw_aload_n (pc := 99) 0 dX10_doTie_99 rfl ?_
                      refine aw_getR (pc := 100) 3 kcX10 dX10_doTie_100 lfX10_16 nn_233 ki_233 (by decide) rfl rf_233_3 ?_
                      refine aw_iconst (pc := 103) 0 dX10_doTie_103 (by decide) ?_
                      refine aw_iald (pc := 104) (j := 0) dX10_doTie_104 nn_236 ki_236 ln_236 (show vp_in _ _ by unfold vp_in; decide) (by decide) ?_
                      refine aw_imul (pc := 105) dX10_doTie_105 ?_
                      refine aw_iadd (pc := 106) dX10_doTie_106 ?_
                      refine aw_topi (fun v107 ev107 => ?_)
                      have h := h v107 ev107
                      refine aw_istore (pc := 107) [(5, .int v107), (0, .ref 233), (1, .int x1), (2, .int x2), (3, .int x3), (4, .int x4)] dX10_doTie_107 (by decide) rfl ?_
                      refine aw_aload_n (pc := 109) 1 dX10_doTie_109 rfl ?_
                      refine aw_getR (pc := 110) 3 kcX10 dX10_doTie_110 lfX10_16 nn_233 ki_233 (by decide) rfl rf_233_3 ?_
                      refine aw_iload (pc := 113) 0 dX10_doTie_113 rfl ?_
                      refine aw_iload_n (pc := 115) 2 dX10_doTie_115 rfl ?_
                      refine aw_iast (pc := 116) (j := v107.toNatClampNeg) (v := x1) dX10_doTie_116 nn_236 ki_236 ln_236 h.1 rfl rfl ?_
                      have h := h.2
                      refine aw_tops (fun τ116 eτ116 => ?_)
                      have h := h τ116 eτ116
                      refine aw_aload_n (pc := 117) 1 dX10_doTie_117 rfl ?_
                      refine aw_getR (pc := 118) 3 kcX10 dX10_doTie_118 lfX10_16 nn_233 ki_233 (by decide) rfl rf_233_3 ?_
                      refine aw_iload (pc := 121) 0 dX10_doTie_121 rfl ?_
                      refine aw_iconst (pc := 123) 1 dX10_doTie_123 (by decide) ?_
                      refine aw_iadd (pc := 124) dX10_doTie_124 ?_
                      refine aw_iload_n (pc := 125) 3 dX10_doTie_125 rfl ?_
                      refine aw_iast (pc := 126) (j := (v107 + 1).toNatClampNeg) (v := x2) dX10_doTie_126 nn_236 ki_236 ln_236 h.1 rfl rfl ?_
                      have h := h.2
                      refine aw_tops (fun τ126 eτ126 => ?_)
                      have h := h τ126 eτ126
                      refine aw_aload_n (pc := 127) 1 dX10_doTie_127 rfl ?_
                      refine aw_getR (pc := 128) 3 kcX10 dX10_doTie_128 lfX10_16 nn_233 ki_233 (by decide) rfl rf_233_3 ?_
                      refine aw_iload (pc := 131) 0 dX10_doTie_131 rfl ?_
                      refine aw_iconst (pc := 133) 2 dX10_doTie_133 (by decide) ?_
                      refine aw_iadd (pc := 134) dX10_doTie_134 ?_
                      refine aw_iload_n (pc := 135) 4 dX10_doTie_135 rfl ?_
                      refine aw_iast (pc := 136) (j := (v107 + 2).toNatClampNeg) (v := x3) dX10_doTie_136 nn_236 ki_236 ln_236 h.1 rfl rfl ?_
                      have h := h.2
                      refine aw_tops (fun τ136 eτ136 => ?_)
                      have h := h τ136 eτ136
                      refine aw_aload_n (pc := 137) 1 dX10_doTie_137 rfl ?_
                      refine aw_getR (pc := 138) 3 kcX10 dX10_doTie_138 lfX10_16 nn_233 ki_233 (by decide) rfl rf_233_3 ?_
                      refine aw_iload (pc := 141) 0 dX10_doTie_141 rfl ?_
                      refine aw_iconst (pc := 143) 3 dX10_doTie_143 (by decide) ?_
                      refine aw_iadd (pc := 144) dX10_doTie_144 ?_
                      refine aw_iload (pc := 145) 5 dX10_doTie_145 rfl ?_
                      refine aw_iast (pc := 147) (j := (v107 + 3).toNatClampNeg) (v := x4) dX10_doTie_147 nn_236 ki_236 ln_236 h.1 rfl rfl ?_
                      have h := h.2
                      refine aw_tops (fun τ147 eτ147 => ?_)
                      have h := h τ147 eτ147
                      refine aw_iconst (pc := 148) 4 dX10_doTie_148 (by decide) ?_
                      refine aw_istore (pc := 149) [(6, .int 4), (5, .int v107), (0, .ref 233), (1, .int x1), (2, .int x2), (3, .int x3), (4, .int x4)] dX10_doTie_149 (by decide) rfl ?_
                      refine aw_sub (L' := [(0, .ref 233), (5, .int v107), (6, .int 4)]) [2, 1, 0] rfl ?_
                      obtain ⟨nf, h⟩ := h
                      exact bt_X10_doTie_151 l x1 x2 x3 x4   nf v107 4  _ h
                    · have h := h.1 q
                      refine aw_bipush (pc := 93) (-2) dX10_doTie_93 (by decide) ?_
                      exact aw_iret (pc := 95) rfl dX10_doTie_95 ⟨_, rfl, h⟩
        · have h := h.1 q
          refine aw_iconst (pc := 32) (-1) dX10_doTie_32 (by decide) ?_
          exact aw_iret (pc := 33) rfl dX10_doTie_33 ⟨_, rfl, h⟩
def b_X10_doPlay_73 (x1 : Int32) (x2 : Int32) (x3 : Int32)  (K : Int32 → Sg → Prop) (y4 : Int32) (σ : Sg) : Prop :=
  ∀ v79 : Int32, v79 = 1 + (13 * x1) → (vp_in ((v79 + 5) + (2 * y4)) 415 ∧ (∀ τ95 : Sg, τ95 = up σ 236 ((v79 + 5) + (2 * y4)).toNatClampNeg x2 → (vp_in (((v79 + 5) + (2 * y4)) + 1) 415 ∧ (∀ τ112 : Sg, τ112 = up τ95 236 (((v79 + 5) + (2 * y4)) + 1).toNatClampNeg x3 → (vp_in (v79 + 4) 415 ∧ (∀ τ125 : Sg, τ125 = up τ112 236 (v79 + 4).toNatClampNeg (y4 + 1) → (K (y4 + 1) τ125)))))))
set_option maxRecDepth 20000 in
set_option maxHeartbeats 2000000 in
theorem bt_X10_doPlay_73 (l : Launch) (x1 : Int32) (x2 : Int32) (x3 : Int32) {K : Int32 → Sg → Prop}   (y4 : Int32)  (σ : Sg) (h : b_X10_doPlay_73 x1 x2 x3  K y4 σ) : AV l RX10 cX10_doPlay 6 (some .int) 3 (qI K) 73 [(0, .ref 233), (1, .int x1), (2, .int x2), (3, .int x3), (4, .int y4)] [] σ := by
  refine aw_iconst (pc := 73) 1 dX10_doPlay_73 (by decide) ?_
  refine aw_bipush (pc := 74) 13 dX10_doPlay_74 (by decide) ?_
  refine aw_iload_n (pc := 76) 1 dX10_doPlay_76 rfl ?_
  refine aw_imul (pc := 77) dX10_doPlay_77 ?_
  refine aw_iadd (pc := 78) dX10_doPlay_78 ?_
  refine aw_topi (fun v79 ev79 => ?_)
  have h := h v79 ev79
  refine aw_istore (pc := 79) [(5, .int v79), (0, .ref 233), (1, .int x1), (2, .int x2), (3, .int x3), (4, .int y4)] dX10_doPlay_79 (by decide) rfl ?_
  refine aw_aload_n (pc := 81) 1 dX10_doPlay_81 rfl ?_
  refine aw_getR (pc := 82) 3 kcX10 dX10_doPlay_82 lfX10_16 nn_233 ki_233 (by decide) rfl rf_233_3 ?_
  refine aw_iload (pc := 85) 0 dX10_doPlay_85 rfl ?_
  refine aw_iconst (pc := 87) 5 dX10_doPlay_87 (by decide) ?_
  refine aw_iadd (pc := 88) dX10_doPlay_88 ?_
  refine aw_iconst (pc := 89) 2 dX10_doPlay_89 (by decide) ?_
  refine aw_iload (pc := 90) 5 dX10_doPlay_90 rfl ?_
  refine aw_imul (pc := 92) dX10_doPlay_92 ?_
  refine aw_iadd (pc := 93) dX10_doPlay_93 ?_
  refine aw_iload_n (pc := 94) 3 dX10_doPlay_94 rfl ?_
  refine aw_iast (pc := 95) (j := ((v79 + 5) + (2 * y4)).toNatClampNeg) (v := x2) dX10_doPlay_95 nn_236 ki_236 ln_236 h.1 rfl rfl ?_
  have h := h.2
  refine aw_tops (fun τ95 eτ95 => ?_)
  have h := h τ95 eτ95
  refine aw_aload_n (pc := 96) 1 dX10_doPlay_96 rfl ?_
  refine aw_getR (pc := 97) 3 kcX10 dX10_doPlay_97 lfX10_16 nn_233 ki_233 (by decide) rfl rf_233_3 ?_
  refine aw_iload (pc := 100) 0 dX10_doPlay_100 rfl ?_
  refine aw_iconst (pc := 102) 5 dX10_doPlay_102 (by decide) ?_
  refine aw_iadd (pc := 103) dX10_doPlay_103 ?_
  refine aw_iconst (pc := 104) 2 dX10_doPlay_104 (by decide) ?_
  refine aw_iload (pc := 105) 5 dX10_doPlay_105 rfl ?_
  refine aw_imul (pc := 107) dX10_doPlay_107 ?_
  refine aw_iadd (pc := 108) dX10_doPlay_108 ?_
  refine aw_iconst (pc := 109) 1 dX10_doPlay_109 (by decide) ?_
  refine aw_iadd (pc := 110) dX10_doPlay_110 ?_
  refine aw_iload_n (pc := 111) 4 dX10_doPlay_111 rfl ?_
  refine aw_iast (pc := 112) (j := (((v79 + 5) + (2 * y4)) + 1).toNatClampNeg) (v := x3) dX10_doPlay_112 nn_236 ki_236 ln_236 h.1 rfl rfl ?_
  have h := h.2
  refine aw_tops (fun τ112 eτ112 => ?_)
  have h := h τ112 eτ112
  refine aw_aload_n (pc := 113) 1 dX10_doPlay_113 rfl ?_
  refine aw_getR (pc := 114) 3 kcX10 dX10_doPlay_114 lfX10_16 nn_233 ki_233 (by decide) rfl rf_233_3 ?_
  refine aw_iload (pc := 117) 0 dX10_doPlay_117 rfl ?_
  refine aw_iconst (pc := 119) 4 dX10_doPlay_119 (by decide) ?_
  refine aw_iadd (pc := 120) dX10_doPlay_120 ?_
  refine aw_iload (pc := 121) 5 dX10_doPlay_121 rfl ?_
  refine aw_iconst (pc := 123) 1 dX10_doPlay_123 (by decide) ?_
  refine aw_iadd (pc := 124) dX10_doPlay_124 ?_
  refine aw_iast (pc := 125) (j := (v79 + 4).toNatClampNeg) (v := (y4 + 1)) dX10_doPlay_125 nn_236 ki_236 ln_236 h.1 rfl rfl ?_
  have h := h.2
  refine aw_tops (fun τ125 eτ125 => ?_)
  have h := h τ125 eτ125
  refine aw_iload (pc := 126) 5 dX10_doPlay_126 rfl ?_
  refine aw_iconst (pc := 128) 1 dX10_doPlay_128 (by decide) ?_
  refine aw_iadd (pc := 129) dX10_doPlay_129 ?_
  exact aw_iret (pc := 130) rfl dX10_doPlay_130 ⟨_, rfl, h⟩
def wp_X10_doPlay (x1 : Int32) (x2 : Int32) (x3 : Int32) (σ : Sg) (K : Int32 → Sg → Prop) : Prop :=
  wp_X10_isTie x1 σ <| fun r2_ τ2 => (br (r2_ = 0) (K (-1) τ2) (wp_X10_within (Int32.toInt64 x2) 0 99999 τ2 <| fun r14_ τ14 => (br (r14_ = 0) (K (-1) τ14) (wp_X10_within (Int32.toInt64 x3) 0 2 τ14 <| fun r26_ τ26 => (br (r26_ = 0) (K (-1) τ26) (wp_X10_games x1 τ26 <| fun r36_ τ36 => (wp_X10_isDecided x1 τ36 <| fun r43_ τ43 => (br (r43_ = 0) (br (x3 = 2) (wp_X10_ofTie x1 0 τ43 <| fun r60_ τ60 => (wp_X10_ofCup r60_ 5 τ60 <| fun r64_ τ64 => (br (r36_ = r64_) (K (-2) τ64) (b_X10_doPlay_73 x1 x2 x3  K r36_ τ64)))) (b_X10_doPlay_73 x1 x2 x3  K r36_ τ43)) (K (-2) τ43)))))))))
set_option maxRecDepth 20000 in
set_option maxHeartbeats 2000000 in
theorem ev_X10_doPlay (l : Launch) (x1 : Int32) (x2 : Int32) (x3 : Int32) {σ : Sg} {K : Int32 → Sg → Prop} (h : wp_X10_doPlay x1 x2 x3 σ K) : Ev l yX10_doPlay cX10_doPlay 6 (some .int) 3 [.ref 233, .int x1, .int x2, .int x3] σ (qI K) := by
  refine ev_ov (by decide) (Nat.le_of_ble_eq_true rfl) ?_
  show AV l RX10 cX10_doPlay 6 (some .int) 3 (qI K) 0 [(0, .ref 233), (1, .int x1), (2, .int x2), (3, .int x3)] [] σ
  refine aw_aload_n (pc := 0) 0 dX10_doPlay_0 rfl ?_
  refine aw_iload_n (pc := 1) 1 dX10_doPlay_1 rfl ?_
  refine aw_callV (pc := 2) (As := [.int x1]) (rest := []) kcX10 nn_233 ki_233 rfl (ev_X10_isTie l x1 h) mfX10_isTie dX10_doPlay_2 lmX10_294 ⟨Nat.le_refl _, Nat.le_refl _⟩ (by decide) rfl rfl (Nat.le_of_ble_eq_true rfl) (nxI (fun r2_ τ2 h => ?_))
  refine aw_if_eq (pc := 5) 32 dX10_doPlay_5 (by decide) (fun q => ?_) (fun q => ?_)
  · have h := h.1 q
    refine aw_iconst (pc := 32) (-1) dX10_doPlay_32 (by decide) ?_
    exact aw_iret (pc := 33) rfl dX10_doPlay_33 ⟨_, rfl, h⟩
  · have h := h.2 q
    refine aw_iload_n (pc := 8) 2 dX10_doPlay_8 rfl ?_
    refine aw_i2l (pc := 9) dX10_doPlay_9 ?_
    refine aw_lconst (pc := 10) 0 dX10_doPlay_10 (by decide) ?_
    refine aw_ldc2 (pc := 11) 99999 dX10_doPlay_11 lclX10_297 ?_
    refine aw_callS (pc := 14) (As := [.long (Int32.toInt64 x2), .long 0, .long 99999]) (rest := []) (ev_X10_within l (Int32.toInt64 x2) 0 99999 h) mfX10_within dX10_doPlay_14 lmX10_94 ⟨Nat.le_refl _, Nat.le_refl _⟩ (by decide) rfl rfl (Nat.le_of_ble_eq_true rfl) (nxI (fun r14_ τ14 h => ?_))
    refine aw_if_eq (pc := 17) 32 dX10_doPlay_17 (by decide) (fun q => ?_) (fun q => ?_)
    · have h := h.1 q
      refine aw_iconst (pc := 32) (-1) dX10_doPlay_32 (by decide) ?_
      exact aw_iret (pc := 33) rfl dX10_doPlay_33 ⟨_, rfl, h⟩
    · have h := h.2 q
      refine aw_iload_n (pc := 20) 3 dX10_doPlay_20 rfl ?_
      refine aw_i2l (pc := 21) dX10_doPlay_21 ?_
      refine aw_lconst (pc := 22) 0 dX10_doPlay_22 (by decide) ?_
      refine aw_ldc2 (pc := 23) 2 dX10_doPlay_23 lclX10_299 ?_
      refine aw_callS (pc := 26) (As := [.long (Int32.toInt64 x3), .long 0, .long 2]) (rest := []) (ev_X10_within l (Int32.toInt64 x3) 0 2 h) mfX10_within dX10_doPlay_26 lmX10_94 ⟨Nat.le_refl _, Nat.le_refl _⟩ (by decide) rfl rfl (Nat.le_of_ble_eq_true rfl) (nxI (fun r26_ τ26 h => ?_))
      refine aw_if_ne (pc := 29) 34 dX10_doPlay_29 (by decide) (fun q => ?_) (fun q => ?_)
      · have h := h.2 q
        refine aw_aload_n (pc := 34) 0 dX10_doPlay_34 rfl ?_
        refine aw_iload_n (pc := 35) 1 dX10_doPlay_35 rfl ?_
        refine aw_callV (pc := 36) (As := [.int x1]) (rest := []) kcX10 nn_233 ki_233 rfl (ev_X10_games l x1 h) mfX10_games dX10_doPlay_36 lmX10_255 ⟨Nat.le_refl _, Nat.le_refl _⟩ (by decide) rfl rfl (Nat.le_of_ble_eq_true rfl) (nxI (fun r36_ τ36 h => ?_))
        refine aw_istore (pc := 39) [(4, .int r36_), (0, .ref 233), (1, .int x1), (2, .int x2), (3, .int x3)] dX10_doPlay_39 (by decide) rfl ?_
        refine aw_aload_n (pc := 41) 1 dX10_doPlay_41 rfl ?_
        refine aw_iload_n (pc := 42) 2 dX10_doPlay_42 rfl ?_
        refine aw_callV (pc := 43) (As := [.int x1]) (rest := []) kcX10 nn_233 ki_233 rfl (ev_X10_isDecided l x1 h) mfX10_isDecided dX10_doPlay_43 lmX10_261 ⟨Nat.le_refl _, Nat.le_refl _⟩ (by decide) rfl rfl (Nat.le_of_ble_eq_true rfl) (nxI (fun r43_ τ43 h => ?_))
        refine aw_if_ne (pc := 46) 70 dX10_doPlay_46 (by decide) (fun q => ?_) (fun q => ?_)
        · have h := h.2 q
          refine aw_bipush (pc := 70) (-2) dX10_doPlay_70 (by decide) ?_
          exact aw_iret (pc := 72) rfl dX10_doPlay_72 ⟨_, rfl, h⟩
        · have h := h.1 q
          refine aw_iload_n (pc := 49) 4 dX10_doPlay_49 rfl ?_
          refine aw_iconst (pc := 50) 2 dX10_doPlay_50 (by decide) ?_
          refine aw_icmp_ne (pc := 51) 73 dX10_doPlay_51 (by decide) (fun q => ?_) (fun q => ?_)
          · have h := h.2 q
            refine aw_sub (L' := [(0, .ref 233), (1, .int x1), (2, .int x2), (3, .int x3), (4, .int r36_)]) [1, 2, 3, 4, 0] rfl ?_
            exact bt_X10_doPlay_73 l x1 x2 x3   r36_  _ h
          · have h := h.1 q
            refine aw_iload (pc := 54) 0 dX10_doPlay_54 rfl ?_
            refine aw_aload_n (pc := 56) 1 dX10_doPlay_56 rfl ?_
            refine aw_aload_n (pc := 57) 1 dX10_doPlay_57 rfl ?_
            refine aw_iload_n (pc := 58) 2 dX10_doPlay_58 rfl ?_
            refine aw_iconst (pc := 59) 0 dX10_doPlay_59 (by decide) ?_
            refine aw_callV (pc := 60) (As := [.int x1, .int 0]) (rest := [.ref 233, .int r36_]) kcX10 nn_233 ki_233 rfl (ev_X10_ofTie l x1 0 h) mfX10_ofTie dX10_doPlay_60 lmX10_252 ⟨Nat.le_refl _, Nat.le_refl _⟩ (by decide) rfl rfl (Nat.le_of_ble_eq_true rfl) (nxI (fun r60_ τ60 h => ?_))
            refine aw_iconst (pc := 63) 5 dX10_doPlay_63 (by decide) ?_
            refine aw_callV (pc := 64) (As := [.int r60_, .int 5]) (rest := [.int r36_]) kcX10 nn_233 ki_233 rfl (ev_X10_ofCup l r60_ 5 h) mfX10_ofCup dX10_doPlay_64 lmX10_301 ⟨Nat.le_refl _, Nat.le_refl _⟩ (by decide) rfl rfl (Nat.le_of_ble_eq_true rfl) (nxI (fun r64_ τ64 h => ?_))
            refine aw_icmp_ne (pc := 67) 73 dX10_doPlay_67 (by decide) (fun q => ?_) (fun q => ?_)
            · have h := h.2 q
              refine aw_sub (L' := [(0, .ref 233), (1, .int x1), (2, .int x2), (3, .int x3), (4, .int r36_)]) [1, 2, 3, 4, 0] rfl ?_
              exact bt_X10_doPlay_73 l x1 x2 x3   r36_  _ h
            · have h := h.1 q
              refine aw_bipush (pc := 70) (-2) dX10_doPlay_70 (by decide) ?_
              exact aw_iret (pc := 72) rfl dX10_doPlay_72 ⟨_, rfl, h⟩
      · have h := h.1 q
        refine aw_iconst (pc := 32) (-1) dX10_doPlay_32 (by decide) ?_
        exact aw_iret (pc := 33) rfl dX10_doPlay_33 ⟨_, rfl, h⟩
def b_X10_tiesOf_5 (x1 : Int32) (x2 : Int32)  (K : Int32 → Sg → Prop) : Nat → Int32 → Int32 → Sg → Prop
  | 0, _, _, _ => False
  | n + 1, y3, y4, σ =>
  br ((σ 236 0) ≤ y4) (K y3 σ) (wp_X10_isOf y4 x1 x2 σ <| fun r22_ τ22 => (br (r22_ = 0) (∀ v34 : Int32, v34 = y3 + 0 → (∀ v35 : Int32, v35 = y4 + 1 → (b_X10_tiesOf_5 x1 x2  K n v34 v35 τ22))) (∀ v34 : Int32, v34 = y3 + 1 → (∀ v35 : Int32, v35 = y4 + 1 → (b_X10_tiesOf_5 x1 x2  K n v34 v35 τ22)))))
set_option maxRecDepth 20000 in
set_option maxHeartbeats 2000000 in
theorem bt_X10_tiesOf_5 (l : Launch) (x1 : Int32) (x2 : Int32) {K : Int32 → Sg → Prop}   : ∀ (n : Nat) (y3 : Int32) (y4 : Int32)  (σ : Sg), b_X10_tiesOf_5 x1 x2  K n y3 y4 σ → AV l RX10 cX10_tiesOf 5 (some .int) 2 (qI K) 5 [(0, .ref 233), (1, .int x1), (2, .int x2), (3, .int y3), (4, .int y4)] [] σ := by
  intro n
  induction n with
  | zero => intro y3 y4 σ h; exact h.elim
  | succ n ih =>
    intro y3 y4 σ h
    refine aw_iload (pc := 5) 4 dX10_tiesOf_5 rfl ?_
    refine aw_aload_n (pc := 7) 0 dX10_tiesOf_7 rfl ?_
    refine aw_getR (pc := 8) 3 kcX10 dX10_tiesOf_8 lfX10_16 nn_233 ki_233 (by decide) rfl rf_233_3 ?_
    refine aw_iconst (pc := 11) 0 dX10_tiesOf_11 (by decide) ?_
    refine aw_iald (pc := 12) (j := 0) dX10_tiesOf_12 nn_236 ki_236 ln_236 (show vp_in _ _ by unfold vp_in; decide) (by decide) ?_
    refine aw_icmp_ge (pc := 13) 41 dX10_tiesOf_13 (by decide) (fun q => ?_) (fun q => ?_)
    · have h := h.1 q
      refine aw_iload_n (pc := 41) 3 dX10_tiesOf_41 rfl ?_
      exact aw_iret (pc := 42) rfl dX10_tiesOf_42 ⟨_, rfl, h⟩
    · have h := h.2 q
      refine aw_iload_n (pc := 16) 3 dX10_tiesOf_16 rfl ?_
      refine aw_aload_n (pc := 17) 0 dX10_tiesOf_17 rfl ?_
      refine aw_iload (pc := 18) 4 dX10_tiesOf_18 rfl ?_
      refine aw_iload_n (pc := 20) 1 dX10_tiesOf_20 rfl ?_
      refine aw_iload_n (pc := 21) 2 dX10_tiesOf_21 rfl ?_
      refine aw_callV (pc := 22) (As := [.int y4, .int x1, .int x2]) (rest := [.int y3]) kcX10 nn_233 ki_233 rfl (ev_X10_isOf l y4 x1 x2 h) mfX10_isOf dX10_tiesOf_22 lmX10_264 ⟨Nat.le_refl _, Nat.le_refl _⟩ (by decide) rfl rfl (Nat.le_of_ble_eq_true rfl) (nxI (fun r22_ τ22 h => ?_))
      refine aw_if_eq (pc := 25) 32 dX10_tiesOf_25 (by decide) (fun q => ?_) (fun q => ?_)
      · have h := h.1 q
        refine aw_iconst (pc := 32) 0 dX10_tiesOf_32 (by decide) ?_
        refine aw_iadd (pc := 33) dX10_tiesOf_33 ?_
        refine aw_topi (fun v34 ev34 => ?_)
        have h := h v34 ev34
        refine aw_istore_n (pc := 34) (i := 3) [(3, .int v34), (0, .ref 233), (1, .int x1), (2, .int x2), (4, .int y4)] dX10_tiesOf_34 rfl (by decide) rfl ?_
        obtain ⟨v35, ev35⟩ : ∃ v : Int32, v = y4 + 1 := ⟨_, rfl⟩
        have h := h v35 ev35
        refine aw_iinc (pc := 35) 4 v35 [(4, .int v35), (3, .int v34), (0, .ref 233), (1, .int x1), (2, .int x2)] dX10_tiesOf_35 rfl (by rw [ev35]; rfl) (by decide) rfl ?_
        refine aw_goto (pc := 38) 5 dX10_tiesOf_38 (by decide) ?_
        refine aw_sub (L' := [(0, .ref 233), (1, .int x1), (2, .int x2), (3, .int v34), (4, .int v35)]) [2, 3, 4, 1, 0] rfl ?_
        exact ih v34 v35  _ h
      · have h := h.2 q
        refine aw_iconst (pc := 28) 1 dX10_tiesOf_28 (by decide) ?_
        refine aw_goto (pc := 29) 33 dX10_tiesOf_29 (by decide) ?_
        refine aw_iadd (pc := 33) dX10_tiesOf_33 ?_
        refine aw_topi (fun v34 ev34 => ?_)
        have h := h v34 ev34
        refine aw_istore_n (pc := 34) (i := 3) [(3, .int v34), (0, .ref 233), (1, .int x1), (2, .int x2), (4, .int y4)] dX10_tiesOf_34 rfl (by decide) rfl ?_
        obtain ⟨v35, ev35⟩ : ∃ v : Int32, v = y4 + 1 := ⟨_, rfl⟩
        have h := h v35 ev35
        refine aw_iinc (pc := 35) 4 v35 [(4, .int v35), (3, .int v34), (0, .ref 233), (1, .int x1), (2, .int x2)] dX10_tiesOf_35 rfl (by rw [ev35]; rfl) (by decide) rfl ?_
        refine aw_goto (pc := 38) 5 dX10_tiesOf_38 (by decide) ?_
        refine aw_sub (L' := [(0, .ref 233), (1, .int x1), (2, .int x2), (3, .int v34), (4, .int v35)]) [2, 3, 4, 1, 0] rfl ?_
        exact ih v34 v35  _ h
def wp_X10_tiesOf (x1 : Int32) (x2 : Int32) (σ : Sg) (K : Int32 → Sg → Prop) : Prop :=
  ∃ nf, b_X10_tiesOf_5 x1 x2  K nf 0 0 σ
set_option maxRecDepth 20000 in
set_option maxHeartbeats 2000000 in
theorem ev_X10_tiesOf (l : Launch) (x1 : Int32) (x2 : Int32) {σ : Sg} {K : Int32 → Sg → Prop} (h : wp_X10_tiesOf x1 x2 σ K) : Ev l yX10_tiesOf cX10_tiesOf 5 (some .int) 2 [.ref 233, .int x1, .int x2] σ (qI K) := by
  refine ev_ov (by decide) (Nat.le_of_ble_eq_true rfl) ?_
  show AV l RX10 cX10_tiesOf 5 (some .int) 2 (qI K) 0 [(0, .ref 233), (1, .int x1), (2, .int x2)] [] σ
  refine aw_iconst (pc := 0) 0 dX10_tiesOf_0 (by decide) ?_
  refine aw_istore_n (pc := 1) (i := 3) [(3, .int 0), (0, .ref 233), (1, .int x1), (2, .int x2)] dX10_tiesOf_1 rfl (by decide) rfl ?_
  refine aw_iconst (pc := 2) 0 dX10_tiesOf_2 (by decide) ?_
  refine aw_istore (pc := 3) [(4, .int 0), (3, .int 0), (0, .ref 233), (1, .int x1), (2, .int x2)] dX10_tiesOf_3 (by decide) rfl ?_
  refine aw_sub (L' := [(0, .ref 233), (1, .int x1), (2, .int x2), (3, .int 0), (4, .int 0)]) [2, 3, 4, 1, 0] rfl ?_
  obtain ⟨nf, h⟩ := h
  exact bt_X10_tiesOf_5 l x1 x2   nf 0 0  _ h
def b_X10_isDone_27 (x1 : Int32) (x2 : Int32)  (K : Int32 → Sg → Prop) : Nat → Int32 → Int32 → Sg → Prop
  | 0, _, _, _ => False
  | n + 1, y3, y4, σ =>
  br ((σ 236 0) ≤ y4) (isZ y3 ∧ K y3 σ) (br (y3 = 0) (∀ v68 : Int32, v68 = y4 + 1 → (b_X10_isDone_27 x1 x2  K n 0 v68 σ)) (wp_X10_isOf y4 x1 x2 σ <| fun r47_ τ47 => (br (r47_ = 0) (∀ v68 : Int32, v68 = y4 + 1 → (b_X10_isDone_27 x1 x2  K n 1 v68 τ47)) (wp_X10_isDecided y4 τ47 <| fun r56_ τ56 => (br (r56_ = 0) (∀ v68 : Int32, v68 = y4 + 1 → (b_X10_isDone_27 x1 x2  K n 0 v68 τ56)) (∀ v68 : Int32, v68 = y4 + 1 → (b_X10_isDone_27 x1 x2  K n 1 v68 τ56)))))))
set_option maxRecDepth 20000 in
set_option maxHeartbeats 2000000 in
theorem bt_X10_isDone_27 (l : Launch) (x1 : Int32) (x2 : Int32) {K : Int32 → Sg → Prop}   : ∀ (n : Nat) (y3 : Int32) (y4 : Int32)  (σ : Sg), b_X10_isDone_27 x1 x2  K n y3 y4 σ → AV l RX10 cX10_isDone 5 (some .boolean) 3 (qI K) 27 [(0, .ref 233), (1, .int x1), (2, .int x2), (3, .int y3), (4, .int y4)] [] σ := by
  intro n
  induction n with
  | zero => intro y3 y4 σ h; exact h.elim
  | succ n ih =>
    intro y3 y4 σ h
    refine aw_iload (pc := 27) 4 dX10_isDone_27 rfl ?_
    refine aw_aload_n (pc := 29) 0 dX10_isDone_29 rfl ?_
    refine aw_getR (pc := 30) 3 kcX10 dX10_isDone_30 lfX10_16 nn_233 ki_233 (by decide) rfl rf_233_3 ?_
    refine aw_iconst (pc := 33) 0 dX10_isDone_33 (by decide) ?_
    refine aw_iald (pc := 34) (j := 0) dX10_isDone_34 nn_236 ki_236 ln_236 (show vp_in _ _ by unfold vp_in; decide) (by decide) ?_
    refine aw_icmp_ge (pc := 35) 74 dX10_isDone_35 (by decide) (fun q => ?_) (fun q => ?_)
    · have h := h.1 q
      refine aw_iload_n (pc := 74) 3 dX10_isDone_74 rfl ?_
      exact aw_zret (pc := 75) rfl (isZ_n h.1) dX10_isDone_75 ⟨_, rfl, h.2⟩
    · have h := h.2 q
      refine aw_iload_n (pc := 38) 3 dX10_isDone_38 rfl ?_
      refine aw_if_eq (pc := 39) 66 dX10_isDone_39 (by decide) (fun q => ?_) (fun q => ?_)
      · have h := h.1 q
        refine aw_iconst (pc := 66) 0 dX10_isDone_66 (by decide) ?_
        refine aw_istore_n (pc := 67) (i := 3) [(3, .int 0), (0, .ref 233), (1, .int x1), (2, .int x2), (4, .int y4)] dX10_isDone_67 rfl (by decide) rfl ?_
        obtain ⟨v68, ev68⟩ : ∃ v : Int32, v = y4 + 1 := ⟨_, rfl⟩
        have h := h v68 ev68
        refine aw_iinc (pc := 68) 4 v68 [(4, .int v68), (3, .int 0), (0, .ref 233), (1, .int x1), (2, .int x2)] dX10_isDone_68 rfl (by rw [ev68]; rfl) (by decide) rfl ?_
        refine aw_goto (pc := 71) 27 dX10_isDone_71 (by decide) ?_
        refine aw_sub (L' := [(0, .ref 233), (1, .int x1), (2, .int x2), (3, .int 0), (4, .int v68)]) [2, 3, 4, 1, 0] rfl ?_
        exact ih 0 v68  _ h
      · have h := h.2 q
        refine aw_aload_n (pc := 42) 0 dX10_isDone_42 rfl ?_
        refine aw_iload (pc := 43) 4 dX10_isDone_43 rfl ?_
        refine aw_iload_n (pc := 45) 1 dX10_isDone_45 rfl ?_
        refine aw_iload_n (pc := 46) 2 dX10_isDone_46 rfl ?_
        refine aw_callV (pc := 47) (As := [.int y4, .int x1, .int x2]) (rest := []) kcX10 nn_233 ki_233 rfl (ev_X10_isOf l y4 x1 x2 h) mfX10_isOf dX10_isDone_47 lmX10_264 ⟨Nat.le_refl _, Nat.le_refl _⟩ (by decide) rfl rfl (Nat.le_of_ble_eq_true rfl) (nxI (fun r47_ τ47 h => ?_))
        refine aw_if_eq (pc := 50) 62 dX10_isDone_50 (by decide) (fun q => ?_) (fun q => ?_)
        · have h := h.1 q
          refine aw_iconst (pc := 62) 1 dX10_isDone_62 (by decide) ?_
          refine aw_goto (pc := 63) 67 dX10_isDone_63 (by decide) ?_
          refine aw_istore_n (pc := 67) (i := 3) [(3, .int 1), (0, .ref 233), (1, .int x1), (2, .int x2), (4, .int y4)] dX10_isDone_67 rfl (by decide) rfl ?_
          obtain ⟨v68, ev68⟩ : ∃ v : Int32, v = y4 + 1 := ⟨_, rfl⟩
          have h := h v68 ev68
          refine aw_iinc (pc := 68) 4 v68 [(4, .int v68), (3, .int 1), (0, .ref 233), (1, .int x1), (2, .int x2)] dX10_isDone_68 rfl (by rw [ev68]; rfl) (by decide) rfl ?_
          refine aw_goto (pc := 71) 27 dX10_isDone_71 (by decide) ?_
          refine aw_sub (L' := [(0, .ref 233), (1, .int x1), (2, .int x2), (3, .int 1), (4, .int v68)]) [2, 3, 4, 1, 0] rfl ?_
          exact ih 1 v68  _ h
        · have h := h.2 q
          refine aw_aload_n (pc := 53) 0 dX10_isDone_53 rfl ?_
          refine aw_iload (pc := 54) 4 dX10_isDone_54 rfl ?_
          refine aw_callV (pc := 56) (As := [.int y4]) (rest := []) kcX10 nn_233 ki_233 rfl (ev_X10_isDecided l y4 h) mfX10_isDecided dX10_isDone_56 lmX10_261 ⟨Nat.le_refl _, Nat.le_refl _⟩ (by decide) rfl rfl (Nat.le_of_ble_eq_true rfl) (nxI (fun r56_ τ56 h => ?_))
          refine aw_if_eq (pc := 59) 66 dX10_isDone_59 (by decide) (fun q => ?_) (fun q => ?_)
          · have h := h.1 q
            refine aw_iconst (pc := 66) 0 dX10_isDone_66 (by decide) ?_
            refine aw_istore_n (pc := 67) (i := 3) [(3, .int 0), (0, .ref 233), (1, .int x1), (2, .int x2), (4, .int y4)] dX10_isDone_67 rfl (by decide) rfl ?_
            obtain ⟨v68, ev68⟩ : ∃ v : Int32, v = y4 + 1 := ⟨_, rfl⟩
            have h := h v68 ev68
            refine aw_iinc (pc := 68) 4 v68 [(4, .int v68), (3, .int 0), (0, .ref 233), (1, .int x1), (2, .int x2)] dX10_isDone_68 rfl (by rw [ev68]; rfl) (by decide) rfl ?_
            refine aw_goto (pc := 71) 27 dX10_isDone_71 (by decide) ?_
            refine aw_sub (L' := [(0, .ref 233), (1, .int x1), (2, .int x2), (3, .int 0), (4, .int v68)]) [2, 3, 4, 1, 0] rfl ?_
            exact ih 0 v68  _ h
          · have h := h.2 q
            refine aw_iconst (pc := 62) 1 dX10_isDone_62 (by decide) ?_
            refine aw_goto (pc := 63) 67 dX10_isDone_63 (by decide) ?_
            refine aw_istore_n (pc := 67) (i := 3) [(3, .int 1), (0, .ref 233), (1, .int x1), (2, .int x2), (4, .int y4)] dX10_isDone_67 rfl (by decide) rfl ?_
            obtain ⟨v68, ev68⟩ : ∃ v : Int32, v = y4 + 1 := ⟨_, rfl⟩
            have h := h v68 ev68
            refine aw_iinc (pc := 68) 4 v68 [(4, .int v68), (3, .int 1), (0, .ref 233), (1, .int x1), (2, .int x2)] dX10_isDone_68 rfl (by rw [ev68]; rfl) (by decide) rfl ?_
            refine aw_goto (pc := 71) 27 dX10_isDone_71 (by decide) ?_
            refine aw_sub (L' := [(0, .ref 233), (1, .int x1), (2, .int x2), (3, .int 1), (4, .int v68)]) [2, 3, 4, 1, 0] rfl ?_
            exact ih 1 v68  _ h
def wp_X10_isDone (x1 : Int32) (x2 : Int32) (σ : Sg) (K : Int32 → Sg → Prop) : Prop :=
  wp_X10_isClosed x1 x2 σ <| fun r3_ τ3 => (br (r3_ = 0) (wp_X10_tiesOf x1 x2 τ3 <| fun r12_ τ12 => (br (r12_ ≤ 0) (∃ nf, b_X10_isDone_27 x1 x2  K nf 0 0 τ12) (∃ nf, b_X10_isDone_27 x1 x2  K nf 1 0 τ12))) (∃ nf, b_X10_isDone_27 x1 x2  K nf 0 0 τ3))
set_option maxRecDepth 20000 in
set_option maxHeartbeats 2000000 in
theorem ev_X10_isDone (l : Launch) (x1 : Int32) (x2 : Int32) {σ : Sg} {K : Int32 → Sg → Prop} (h : wp_X10_isDone x1 x2 σ K) : Ev l yX10_isDone cX10_isDone 5 (some .boolean) 3 [.ref 233, .int x1, .int x2] σ (qI K) := by
  refine ev_ov (by decide) (Nat.le_of_ble_eq_true rfl) ?_
  show AV l RX10 cX10_isDone 5 (some .boolean) 3 (qI K) 0 [(0, .ref 233), (1, .int x1), (2, .int x2)] [] σ
  refine aw_aload_n (pc := 0) 0 dX10_isDone_0 rfl ?_
  refine aw_iload_n (pc := 1) 1 dX10_isDone_1 rfl ?_
  refine aw_iload_n (pc := 2) 2 dX10_isDone_2 rfl ?_
  refine aw_callV (pc := 3) (As := [.int x1, .int x2]) (rest := []) kcX10 nn_233 ki_233 rfl (ev_X10_isClosed l x1 x2 h) mfX10_isClosed dX10_isDone_3 lmX10_271 ⟨Nat.le_refl _, Nat.le_refl _⟩ (by decide) rfl rfl (Nat.le_of_ble_eq_true rfl) (nxI (fun r3_ τ3 h => ?_))
  refine aw_if_ne (pc := 6) 22 dX10_isDone_6 (by decide) (fun q => ?_) (fun q => ?_)
  · have h := h.2 q
    refine aw_iconst (pc := 22) 0 dX10_isDone_22 (by decide) ?_
    refine aw_istore_n (pc := 23) (i := 3) [(3, .int 0), (0, .ref 233), (1, .int x1), (2, .int x2)] dX10_isDone_23 rfl (by decide) rfl ?_
    refine aw_iconst (pc := 24) 0 dX10_isDone_24 (by decide) ?_
    refine aw_istore (pc := 25) [(4, .int 0), (3, .int 0), (0, .ref 233), (1, .int x1), (2, .int x2)] dX10_isDone_25 (by decide) rfl ?_
    refine aw_sub (L' := [(0, .ref 233), (1, .int x1), (2, .int x2), (3, .int 0), (4, .int 0)]) [2, 3, 4, 1, 0] rfl ?_
    obtain ⟨nf, h⟩ := h
    exact bt_X10_isDone_27 l x1 x2   nf 0 0  _ h
  · have h := h.1 q
    refine aw_aload_n (pc := 9) 0 dX10_isDone_9 rfl ?_
    refine aw_iload_n (pc := 10) 1 dX10_isDone_10 rfl ?_
    refine aw_iload_n (pc := 11) 2 dX10_isDone_11 rfl ?_
    refine aw_callV (pc := 12) (As := [.int x1, .int x2]) (rest := []) kcX10 nn_233 ki_233 rfl (ev_X10_tiesOf l x1 x2 h) mfX10_tiesOf dX10_isDone_12 lmX10_304 ⟨Nat.le_refl _, Nat.le_refl _⟩ (by decide) rfl rfl (Nat.le_of_ble_eq_true rfl) (nxI (fun r12_ τ12 h => ?_))
    refine aw_if_le (pc := 15) 22 dX10_isDone_15 (by decide) (fun q => ?_) (fun q => ?_)
    · have h := h.1 q
      refine aw_iconst (pc := 22) 0 dX10_isDone_22 (by decide) ?_
      refine aw_istore_n (pc := 23) (i := 3) [(3, .int 0), (0, .ref 233), (1, .int x1), (2, .int x2)] dX10_isDone_23 rfl (by decide) rfl ?_
      refine aw_iconst (pc := 24) 0 dX10_isDone_24 (by decide) ?_
      refine aw_istore (pc := 25) [(4, .int 0), (3, .int 0), (0, .ref 233), (1, .int x1), (2, .int x2)] dX10_isDone_25 (by decide) rfl ?_
      refine aw_sub (L' := [(0, .ref 233), (1, .int x1), (2, .int x2), (3, .int 0), (4, .int 0)]) [2, 3, 4, 1, 0] rfl ?_
      obtain ⟨nf, h⟩ := h
      exact bt_X10_isDone_27 l x1 x2   nf 0 0  _ h
    · have h := h.2 q
      refine aw_iconst (pc := 18) 1 dX10_isDone_18 (by decide) ?_
      refine aw_goto (pc := 19) 23 dX10_isDone_19 (by decide) ?_
      refine aw_istore_n (pc := 23) (i := 3) [(3, .int 1), (0, .ref 233), (1, .int x1), (2, .int x2)] dX10_isDone_23 rfl (by decide) rfl ?_
      refine aw_iconst (pc := 24) 0 dX10_isDone_24 (by decide) ?_
      refine aw_istore (pc := 25) [(4, .int 0), (3, .int 1), (0, .ref 233), (1, .int x1), (2, .int x2)] dX10_isDone_25 (by decide) rfl ?_
      refine aw_sub (L' := [(0, .ref 233), (1, .int x1), (2, .int x2), (3, .int 1), (4, .int 0)]) [2, 3, 4, 1, 0] rfl ?_
      obtain ⟨nf, h⟩ := h
      exact bt_X10_isDone_27 l x1 x2   nf 1 0  _ h
def b_X10_begin_65   (K : Sg → Prop) : Nat → Int32 → Sg → Prop
  | 0, _, _ => False
  | n + 1, y1, σ =>
  br (24 ≤ y1) (∀ τ107 : Sg, τ107 = up σ 233 40 0 → (K τ107)) (vp_in y1 24 ∧ (∀ τ77 : Sg, τ77 = up σ 249 y1.toNatClampNeg 0 → (vp_in y1 24 ∧ (∀ τ84 : Sg, τ84 = up τ77 250 y1.toNatClampNeg 0 → (vp_in y1 24 ∧ (∀ τ91 : Sg, τ91 = up τ84 251 y1.toNatClampNeg 0 → (vp_in y1 24 ∧ (∀ τ98 : Sg, τ98 = up τ91 252 y1.toNatClampNeg 0 → (∀ v99 : Int32, v99 = y1 + 1 → (b_X10_begin_65   K n v99 τ98))))))))))
set_option maxRecDepth 20000 in
set_option maxHeartbeats 2000000 in
theorem bt_X10_begin_65 (l : Launch)  {K : Sg → Prop}   : ∀ (n : Nat) (y1 : Int32)  (σ : Sg), b_X10_begin_65   K n y1 σ → AV l RX10 cX10_begin 2 none 0 (qV K) 65 [(0, .ref 233), (1, .int y1)] [] σ := by
  intro n
  induction n with
  | zero => intro y1 σ h; exact h.elim
  | succ n ih =>
    intro y1 σ h
    refine aw_iload_n (pc := 65) 1 dX10_begin_65 rfl ?_
    refine aw_bipush (pc := 66) 24 dX10_begin_66 (by decide) ?_
    refine aw_icmp_ge (pc := 68) 105 dX10_begin_68 (by decide) (fun q => ?_) (fun q => ?_)
    · have h := h.1 q
      refine aw_aload_n (pc := 105) 0 dX10_begin_105 rfl ?_
      refine aw_iconst (pc := 106) 0 dX10_begin_106 (by decide) ?_
      refine aw_put (pc := 107) 40 kcX10 dX10_begin_107 lfX10_359 nn_233 ki_233 (by decide) rfl rfl rfl rfl ?_
      refine aw_tops (fun τ107 eτ107 => ?_)
      have h := h τ107 eτ107
      exact aw_vret (pc := 110) rfl dX10_begin_110 ⟨rfl, h⟩
    · have h := h.2 q
      refine aw_aload_n (pc := 71) 0 dX10_begin_71 rfl ?_
      refine aw_getR (pc := 72) 34 kcX10 dX10_begin_72 lfX10_61 nn_233 ki_233 (by decide) rfl rf_233_34 ?_
      refine aw_iload_n (pc := 75) 1 dX10_begin_75 rfl ?_
      refine aw_iconst (pc := 76) 0 dX10_begin_76 (by decide) ?_
      refine aw_iast (pc := 77) (j := y1.toNatClampNeg) (v := 0) dX10_begin_77 nn_249 ki_249 ln_249 h.1 rfl rfl ?_
      have h := h.2
      refine aw_tops (fun τ77 eτ77 => ?_)
      have h := h τ77 eτ77
      refine aw_aload_n (pc := 78) 0 dX10_begin_78 rfl ?_
      refine aw_getR (pc := 79) 35 kcX10 dX10_begin_79 lfX10_64 nn_233 ki_233 (by decide) rfl rf_233_35 ?_
      refine aw_iload_n (pc := 82) 1 dX10_begin_82 rfl ?_
      refine aw_iconst (pc := 83) 0 dX10_begin_83 (by decide) ?_
      refine aw_iast (pc := 84) (j := y1.toNatClampNeg) (v := 0) dX10_begin_84 nn_250 ki_250 ln_250 h.1 rfl rfl ?_
      have h := h.2
      refine aw_tops (fun τ84 eτ84 => ?_)
      have h := h τ84 eτ84
      refine aw_aload_n (pc := 85) 0 dX10_begin_85 rfl ?_
      refine aw_getR (pc := 86) 36 kcX10 dX10_begin_86 lfX10_67 nn_233 ki_233 (by decide) rfl rf_233_36 ?_
      refine aw_iload_n (pc := 89) 1 dX10_begin_89 rfl ?_
      refine aw_iconst (pc := 90) 0 dX10_begin_90 (by decide) ?_
      refine aw_iast (pc := 91) (j := y1.toNatClampNeg) (v := 0) dX10_begin_91 nn_251 ki_251 ln_251 h.1 rfl rfl ?_
      have h := h.2
      refine aw_tops (fun τ91 eτ91 => ?_)
      have h := h τ91 eτ91
      refine aw_aload_n (pc := 92) 0 dX10_begin_92 rfl ?_
      refine aw_getR (pc := 93) 37 kcX10 dX10_begin_93 lfX10_70 nn_233 ki_233 (by decide) rfl rf_233_37 ?_
      refine aw_iload_n (pc := 96) 1 dX10_begin_96 rfl ?_
      refine aw_iconst (pc := 97) 0 dX10_begin_97 (by decide) ?_
      refine aw_iast (pc := 98) (j := y1.toNatClampNeg) (v := 0) dX10_begin_98 nn_252 ki_252 ln_252 h.1 rfl rfl ?_
      have h := h.2
      refine aw_tops (fun τ98 eτ98 => ?_)
      have h := h τ98 eτ98
      obtain ⟨v99, ev99⟩ : ∃ v : Int32, v = y1 + 1 := ⟨_, rfl⟩
      have h := h v99 ev99
      refine aw_iinc (pc := 99) 1 v99 [(1, .int v99), (0, .ref 233)] dX10_begin_99 rfl (by rw [ev99]; rfl) (by decide) rfl ?_
      refine aw_goto (pc := 102) 65 dX10_begin_102 (by decide) ?_
      refine aw_sub (L' := [(0, .ref 233), (1, .int v99)]) [1, 0] rfl ?_
      exact ih v99  _ h
def b_X10_begin_2   (K : Sg → Prop) : Nat → Int32 → Sg → Prop
  | 0, _, _ => False
  | n + 1, y1, σ =>
  br (12 ≤ y1) (∃ nf, b_X10_begin_65   K nf 0 σ) (vp_in y1 12 ∧ (∀ τ14 : Sg, τ14 = up σ 243 y1.toNatClampNeg 0 → (vp_in y1 12 ∧ (∀ τ21 : Sg, τ21 = up τ14 244 y1.toNatClampNeg 0 → (vp_in y1 12 ∧ (∀ τ28 : Sg, τ28 = up τ21 245 y1.toNatClampNeg 0 → (vp_in y1 12 ∧ (∀ τ35 : Sg, τ35 = up τ28 246 y1.toNatClampNeg 0 → (vp_in y1 12 ∧ (∀ τ42 : Sg, τ42 = up τ35 247 y1.toNatClampNeg 0 → (vp_in y1 12 ∧ (∀ τ49 : Sg, τ49 = up τ42 248 y1.toNatClampNeg 0 → (vp_in y1 12 ∧ (∀ τ56 : Sg, τ56 = up τ49 254 y1.toNatClampNeg 0 → (∀ v57 : Int32, v57 = y1 + 1 → (b_X10_begin_2   K n v57 τ56))))))))))))))))
set_option maxRecDepth 20000 in
set_option maxHeartbeats 2000000 in
theorem bt_X10_begin_2 (l : Launch)  {K : Sg → Prop}   : ∀ (n : Nat) (y1 : Int32)  (σ : Sg), b_X10_begin_2   K n y1 σ → AV l RX10 cX10_begin 2 none 0 (qV K) 2 [(0, .ref 233), (1, .int y1)] [] σ := by
  intro n
  induction n with
  | zero => intro y1 σ h; exact h.elim
  | succ n ih =>
    intro y1 σ h
    refine aw_iload_n (pc := 2) 1 dX10_begin_2 rfl ?_
    refine aw_bipush (pc := 3) 12 dX10_begin_3 (by decide) ?_
    refine aw_icmp_ge (pc := 5) 63 dX10_begin_5 (by decide) (fun q => ?_) (fun q => ?_)
    · have h := h.1 q
      refine aw_iconst (pc := 63) 0 dX10_begin_63 (by decide) ?_
      refine aw_istore_n (pc := 64) (i := 1) [(1, .int 0), (0, .ref 233)] dX10_begin_64 rfl (by decide) rfl ?_
      refine aw_sub (L' := [(0, .ref 233), (1, .int 0)]) [1, 0] rfl ?_
      obtain ⟨nf, h⟩ := h
      exact bt_X10_begin_65 l    nf 0  _ h
    · have h := h.2 q
      refine aw_aload_n (pc := 8) 0 dX10_begin_8 rfl ?_
      refine aw_getR (pc := 9) 28 kcX10 dX10_begin_9 lfX10_43 nn_233 ki_233 (by decide) rfl rf_233_28 ?_
      refine aw_iload_n (pc := 12) 1 dX10_begin_12 rfl ?_
      refine aw_iconst (pc := 13) 0 dX10_begin_13 (by decide) ?_
      refine aw_iast (pc := 14) (j := y1.toNatClampNeg) (v := 0) dX10_begin_14 nn_243 ki_243 ln_243 h.1 rfl rfl ?_
      have h := h.2
      refine aw_tops (fun τ14 eτ14 => ?_)
      have h := h τ14 eτ14
      refine aw_aload_n (pc := 15) 0 dX10_begin_15 rfl ?_
      refine aw_getR (pc := 16) 29 kcX10 dX10_begin_16 lfX10_46 nn_233 ki_233 (by decide) rfl rf_233_29 ?_
      refine aw_iload_n (pc := 19) 1 dX10_begin_19 rfl ?_
      refine aw_iconst (pc := 20) 0 dX10_begin_20 (by decide) ?_
      refine aw_iast (pc := 21) (j := y1.toNatClampNeg) (v := 0) dX10_begin_21 nn_244 ki_244 ln_244 h.1 rfl rfl ?_
      have h := h.2
      refine aw_tops (fun τ21 eτ21 => ?_)
      have h := h τ21 eτ21
      refine aw_aload_n (pc := 22) 0 dX10_begin_22 rfl ?_
      refine aw_getR (pc := 23) 30 kcX10 dX10_begin_23 lfX10_49 nn_233 ki_233 (by decide) rfl rf_233_30 ?_
      refine aw_iload_n (pc := 26) 1 dX10_begin_26 rfl ?_
      refine aw_iconst (pc := 27) 0 dX10_begin_27 (by decide) ?_
      refine aw_iast (pc := 28) (j := y1.toNatClampNeg) (v := 0) dX10_begin_28 nn_245 ki_245 ln_245 h.1 rfl rfl ?_
      have h := h.2
      refine aw_tops (fun τ28 eτ28 => ?_)
      have h := h τ28 eτ28
      refine aw_aload_n (pc := 29) 0 dX10_begin_29 rfl ?_
      refine aw_getR (pc := 30) 31 kcX10 dX10_begin_30 lfX10_52 nn_233 ki_233 (by decide) rfl rf_233_31 ?_
      refine aw_iload_n (pc := 33) 1 dX10_begin_33 rfl ?_
      refine aw_iconst (pc := 34) 0 dX10_begin_34 (by decide) ?_
      refine aw_iast (pc := 35) (j := y1.toNatClampNeg) (v := 0) dX10_begin_35 nn_246 ki_246 ln_246 h.1 rfl rfl ?_
      have h := h.2
      refine aw_tops (fun τ35 eτ35 => ?_)
      have h := h τ35 eτ35
      refine aw_aload_n (pc := 36) 0 dX10_begin_36 rfl ?_
      refine aw_getR (pc := 37) 32 kcX10 dX10_begin_37 lfX10_55 nn_233 ki_233 (by decide) rfl rf_233_32 ?_
      refine aw_iload_n (pc := 40) 1 dX10_begin_40 rfl ?_
      refine aw_iconst (pc := 41) 0 dX10_begin_41 (by decide) ?_
      refine aw_iast (pc := 42) (j := y1.toNatClampNeg) (v := 0) dX10_begin_42 nn_247 ki_247 ln_247 h.1 rfl rfl ?_
      have h := h.2
      refine aw_tops (fun τ42 eτ42 => ?_)
      have h := h τ42 eτ42
      refine aw_aload_n (pc := 43) 0 dX10_begin_43 rfl ?_
      refine aw_getR (pc := 44) 33 kcX10 dX10_begin_44 lfX10_58 nn_233 ki_233 (by decide) rfl rf_233_33 ?_
      refine aw_iload_n (pc := 47) 1 dX10_begin_47 rfl ?_
      refine aw_iconst (pc := 48) 0 dX10_begin_48 (by decide) ?_
      refine aw_iast (pc := 49) (j := y1.toNatClampNeg) (v := 0) dX10_begin_49 nn_248 ki_248 ln_248 h.1 rfl rfl ?_
      have h := h.2
      refine aw_tops (fun τ49 eτ49 => ?_)
      have h := h τ49 eτ49
      refine aw_aload_n (pc := 50) 0 dX10_begin_50 rfl ?_
      refine aw_getR (pc := 51) 39 kcX10 dX10_begin_51 lfX10_76 nn_233 ki_233 (by decide) rfl rf_233_39 ?_
      refine aw_iload_n (pc := 54) 1 dX10_begin_54 rfl ?_
      refine aw_iconst (pc := 55) 0 dX10_begin_55 (by decide) ?_
      refine aw_iast (pc := 56) (j := y1.toNatClampNeg) (v := 0) dX10_begin_56 nn_254 ki_254 ln_254 h.1 rfl rfl ?_
      have h := h.2
      refine aw_tops (fun τ56 eτ56 => ?_)
      have h := h τ56 eτ56
      obtain ⟨v57, ev57⟩ : ∃ v : Int32, v = y1 + 1 := ⟨_, rfl⟩
      have h := h v57 ev57
      refine aw_iinc (pc := 57) 1 v57 [(1, .int v57), (0, .ref 233)] dX10_begin_57 rfl (by rw [ev57]; rfl) (by decide) rfl ?_
      refine aw_goto (pc := 60) 2 dX10_begin_60 (by decide) ?_
      refine aw_sub (L' := [(0, .ref 233), (1, .int v57)]) [1, 0] rfl ?_
      exact ih v57  _ h
def wp_X10_begin  (σ : Sg) (K : Sg → Prop) : Prop :=
  ∃ nf, b_X10_begin_2   K nf 0 σ
set_option maxRecDepth 20000 in
set_option maxHeartbeats 2000000 in
theorem ev_X10_begin (l : Launch)  {σ : Sg} {K : Sg → Prop} (h : wp_X10_begin  σ K) : Ev l yX10_begin cX10_begin 2 none 0 [.ref 233] σ (qV K) := by
  refine ev_ov (by decide) (Nat.le_of_ble_eq_true rfl) ?_
  show AV l RX10 cX10_begin 2 none 0 (qV K) 0 [(0, .ref 233)] [] σ
  refine aw_iconst (pc := 0) 0 dX10_begin_0 (by decide) ?_
  refine aw_istore_n (pc := 1) (i := 1) [(1, .int 0), (0, .ref 233)] dX10_begin_1 rfl (by decide) rfl ?_
  refine aw_sub (L' := [(0, .ref 233), (1, .int 0)]) [1, 0] rfl ?_
  obtain ⟨nf, h⟩ := h
  exact bt_X10_begin_2 l    nf 0  _ h
def wp_X10_gateOf (x1 : Int32) (x2 : Int32) (σ : Sg) (K : Int32 → Sg → Prop) : Prop :=
  wp_X10_ofTie x1 (5 + (2 * x2)) σ <| fun r7_ τ7 => (K r7_ τ7)
set_option maxRecDepth 20000 in
set_option maxHeartbeats 2000000 in
theorem ev_X10_gateOf (l : Launch) (x1 : Int32) (x2 : Int32) {σ : Sg} {K : Int32 → Sg → Prop} (h : wp_X10_gateOf x1 x2 σ K) : Ev l yX10_gateOf cX10_gateOf 3 (some .int) 1 [.ref 233, .int x1, .int x2] σ (qI K) := by
  refine ev_ov (by decide) (Nat.le_of_ble_eq_true rfl) ?_
  show AV l RX10 cX10_gateOf 3 (some .int) 1 (qI K) 0 [(0, .ref 233), (1, .int x1), (2, .int x2)] [] σ
  refine aw_aload_n (pc := 0) 0 dX10_gateOf_0 rfl ?_
  refine aw_iload_n (pc := 1) 1 dX10_gateOf_1 rfl ?_
  refine aw_iconst (pc := 2) 5 dX10_gateOf_2 (by decide) ?_
  refine aw_iconst (pc := 3) 2 dX10_gateOf_3 (by decide) ?_
  refine aw_iload_n (pc := 4) 2 dX10_gateOf_4 rfl ?_
  refine aw_imul (pc := 5) dX10_gateOf_5 ?_
  refine aw_iadd (pc := 6) dX10_gateOf_6 ?_
  refine aw_callV (pc := 7) (As := [.int x1, .int (5 + (2 * x2))]) (rest := []) kcX10 nn_233 ki_233 rfl (ev_X10_ofTie l x1 (5 + (2 * x2)) h) mfX10_ofTie dX10_gateOf_7 lmX10_252 ⟨Nat.le_refl _, Nat.le_refl _⟩ (by decide) rfl rfl (Nat.le_of_ble_eq_true rfl) (nxI (fun r7_ τ7 h => ?_))
  exact aw_iret (pc := 10) rfl dX10_gateOf_10 ⟨_, rfl, h⟩
def wp_X10_layExpenses (x1 : Int32) (x2 : Int32) (x3 : Int32) (σ : Sg) (K : Sg → Prop) : Prop :=
  br (x1 = 0) (wp_X10_less x2 (σ 233 20) σ <| fun r10_ τ10 => (∀ τ13 : Sg, τ13 = up τ10 233 21 r10_ → (wp_X10_less x3 ((τ13 233 20) - (τ13 233 21)) τ13 <| fun r27_ τ27 => (∀ τ30 : Sg, τ30 = up τ27 233 22 r27_ → (K τ30))))) (br (x1 = 1) (wp_X10_less x3 (σ 233 20) σ <| fun r47_ τ47 => (∀ τ50 : Sg, τ50 = up τ47 233 22 r47_ → (wp_X10_less x2 ((τ50 233 20) - (τ50 233 22)) τ50 <| fun r64_ τ64 => (∀ τ67 : Sg, τ67 = up τ64 233 21 r64_ → (K τ67))))) (br ((x2 + x3) ≤ (σ 233 20)) (∀ τ115 : Sg, τ115 = up σ 233 21 x2 → (∀ τ120 : Sg, τ120 = up τ115 233 22 x3 → (K τ120))) (¬ (x2 + x3) = 0 ∧ (∀ τ94 : Sg, τ94 = up σ 233 22 (((σ 233 20) * x3) / (x2 + x3)) → (∀ τ107 : Sg, τ107 = up τ94 233 21 ((τ94 233 20) - (τ94 233 22)) → (K τ107))))))
set_option maxRecDepth 20000 in
set_option maxHeartbeats 2000000 in
theorem ev_X10_layExpenses (l : Launch) (x1 : Int32) (x2 : Int32) (x3 : Int32) {σ : Sg} {K : Sg → Prop} (h : wp_X10_layExpenses x1 x2 x3 σ K) : Ev l yX10_layExpenses cX10_layExpenses 4 none 1 [.ref 233, .int x1, .int x2, .int x3] σ (qV K) := by
  refine ev_ov (by decide) (Nat.le_of_ble_eq_true rfl) ?_
  show AV l RX10 cX10_layExpenses 4 none 1 (qV K) 0 [(0, .ref 233), (1, .int x1), (2, .int x2), (3, .int x3)] [] σ
  refine aw_iload_n (pc := 0) 1 dX10_layExpenses_0 rfl ?_
  refine aw_if_ne (pc := 1) 36 dX10_layExpenses_1 (by decide) (fun q => ?_) (fun q => ?_)
  · have h := h.2 q
    refine aw_iload_n (pc := 36) 1 dX10_layExpenses_36 rfl ?_
    refine aw_iconst (pc := 37) 1 dX10_layExpenses_37 (by decide) ?_
    refine aw_icmp_ne (pc := 38) 73 dX10_layExpenses_38 (by decide) (fun q => ?_) (fun q => ?_)
    · have h := h.2 q
      refine aw_iload_n (pc := 73) 2 dX10_layExpenses_73 rfl ?_
      refine aw_iload_n (pc := 74) 3 dX10_layExpenses_74 rfl ?_
      refine aw_iadd (pc := 75) dX10_layExpenses_75 ?_
      refine aw_aload_n (pc := 76) 0 dX10_layExpenses_76 rfl ?_
      refine aw_getI (pc := 77) 20 kcX10 dX10_layExpenses_77 lfX10_315 nn_233 ki_233 (by decide) rfl ?_
      refine aw_icmp_le (pc := 80) 113 dX10_layExpenses_80 (by decide) (fun q => ?_) (fun q => ?_)
      · have h := h.1 q
        refine aw_aload_n (pc := 113) 0 dX10_layExpenses_113 rfl ?_
        refine aw_iload_n (pc := 114) 2 dX10_layExpenses_114 rfl ?_
        refine aw_put (pc := 115) 21 kcX10 dX10_layExpenses_115 lfX10_321 nn_233 ki_233 (by decide) rfl rfl rfl rfl ?_
        refine aw_tops (fun τ115 eτ115 => ?_)
        have h := h τ115 eτ115
        refine aw_aload_n (pc := 118) 0 dX10_layExpenses_118 rfl ?_
        refine aw_iload_n (pc := 119) 3 dX10_layExpenses_119 rfl ?_
        refine aw_put (pc := 120) 22 kcX10 dX10_layExpenses_120 lfX10_324 nn_233 ki_233 (by decide) rfl rfl rfl rfl ?_
        refine aw_tops (fun τ120 eτ120 => ?_)
        have h := h τ120 eτ120
        exact aw_vret (pc := 123) rfl dX10_layExpenses_123 ⟨rfl, h⟩
      · have h := h.2 q
        refine aw_aload_n (pc := 83) 0 dX10_layExpenses_83 rfl ?_
        refine aw_aload_n (pc := 84) 0 dX10_layExpenses_84 rfl ?_
        refine aw_getI (pc := 85) 20 kcX10 dX10_layExpenses_85 lfX10_315 nn_233 ki_233 (by decide) rfl ?_
        refine aw_iload_n (pc := 88) 3 dX10_layExpenses_88 rfl ?_
        refine aw_imul (pc := 89) dX10_layExpenses_89 ?_
        refine aw_iload_n (pc := 90) 2 dX10_layExpenses_90 rfl ?_
        refine aw_iload_n (pc := 91) 3 dX10_layExpenses_91 rfl ?_
        refine aw_iadd (pc := 92) dX10_layExpenses_92 ?_
        refine aw_idiv (pc := 93) dX10_layExpenses_93 h.1 ?_
        have h := h.2
        refine aw_put (pc := 94) 22 kcX10 dX10_layExpenses_94 lfX10_324 nn_233 ki_233 (by decide) rfl rfl rfl rfl ?_
        refine aw_tops (fun τ94 eτ94 => ?_)
        have h := h τ94 eτ94
        refine aw_aload_n (pc := 97) 0 dX10_layExpenses_97 rfl ?_
        refine aw_aload_n (pc := 98) 0 dX10_layExpenses_98 rfl ?_
        refine aw_getI (pc := 99) 20 kcX10 dX10_layExpenses_99 lfX10_315 nn_233 ki_233 (by decide) rfl ?_
        refine aw_aload_n (pc := 102) 0 dX10_layExpenses_102 rfl ?_
        refine aw_getI (pc := 103) 22 kcX10 dX10_layExpenses_103 lfX10_324 nn_233 ki_233 (by decide) rfl ?_
        refine aw_isub (pc := 106) dX10_layExpenses_106 ?_
        refine aw_put (pc := 107) 21 kcX10 dX10_layExpenses_107 lfX10_321 nn_233 ki_233 (by decide) rfl rfl rfl rfl ?_
        refine aw_tops (fun τ107 eτ107 => ?_)
        have h := h τ107 eτ107
        refine aw_goto (pc := 110) 123 dX10_layExpenses_110 (by decide) ?_
        exact aw_vret (pc := 123) rfl dX10_layExpenses_123 ⟨rfl, h⟩
    · have h := h.1 q
      refine aw_aload_n (pc := 41) 0 dX10_layExpenses_41 rfl ?_
      refine aw_iload_n (pc := 42) 3 dX10_layExpenses_42 rfl ?_
      refine aw_aload_n (pc := 43) 0 dX10_layExpenses_43 rfl ?_
      refine aw_getI (pc := 44) 20 kcX10 dX10_layExpenses_44 lfX10_315 nn_233 ki_233 (by decide) rfl ?_
      refine aw_callS (pc := 47) (As := [.int x3, .int (σ 233 20)]) (rest := [.ref 233]) (ev_X10_less l x3 (σ 233 20) h) mfX10_less dX10_layExpenses_47 lmX10_318 ⟨Nat.le_refl _, Nat.le_refl _⟩ (by decide) rfl rfl (Nat.le_of_ble_eq_true rfl) (nxI (fun r47_ τ47 h => ?_))
      refine aw_put (pc := 50) 22 kcX10 dX10_layExpenses_50 lfX10_324 nn_233 ki_233 (by decide) rfl rfl rfl rfl ?_
      refine aw_tops (fun τ50 eτ50 => ?_)
      have h := h τ50 eτ50
      refine aw_aload_n (pc := 53) 0 dX10_layExpenses_53 rfl ?_
      refine aw_iload_n (pc := 54) 2 dX10_layExpenses_54 rfl ?_
      refine aw_aload_n (pc := 55) 0 dX10_layExpenses_55 rfl ?_
      refine aw_getI (pc := 56) 20 kcX10 dX10_layExpenses_56 lfX10_315 nn_233 ki_233 (by decide) rfl ?_
      refine aw_aload_n (pc := 59) 0 dX10_layExpenses_59 rfl ?_
      refine aw_getI (pc := 60) 22 kcX10 dX10_layExpenses_60 lfX10_324 nn_233 ki_233 (by decide) rfl ?_
      refine aw_isub (pc := 63) dX10_layExpenses_63 ?_
      refine aw_callS (pc := 64) (As := [.int x2, .int ((τ50 233 20) - (τ50 233 22))]) (rest := [.ref 233]) (ev_X10_less l x2 ((τ50 233 20) - (τ50 233 22)) h) mfX10_less dX10_layExpenses_64 lmX10_318 ⟨Nat.le_refl _, Nat.le_refl _⟩ (by decide) rfl rfl (Nat.le_of_ble_eq_true rfl) (nxI (fun r64_ τ64 h => ?_))
      refine aw_put (pc := 67) 21 kcX10 dX10_layExpenses_67 lfX10_321 nn_233 ki_233 (by decide) rfl rfl rfl rfl ?_
      refine aw_tops (fun τ67 eτ67 => ?_)
      have h := h τ67 eτ67
      refine aw_goto (pc := 70) 123 dX10_layExpenses_70 (by decide) ?_
      exact aw_vret (pc := 123) rfl dX10_layExpenses_123 ⟨rfl, h⟩
  · have h := h.1 q
    refine aw_aload_n (pc := 4) 0 dX10_layExpenses_4 rfl ?_
    refine aw_iload_n (pc := 5) 2 dX10_layExpenses_5 rfl ?_
    refine aw_aload_n (pc := 6) 0 dX10_layExpenses_6 rfl ?_
    refine aw_getI (pc := 7) 20 kcX10 dX10_layExpenses_7 lfX10_315 nn_233 ki_233 (by decide) rfl ?_
    refine aw_callS (pc := 10) (As := [.int x2, .int (σ 233 20)]) (rest := [.ref 233]) (ev_X10_less l x2 (σ 233 20) h) mfX10_less dX10_layExpenses_10 lmX10_318 ⟨Nat.le_refl _, Nat.le_refl _⟩ (by decide) rfl rfl (Nat.le_of_ble_eq_true rfl) (nxI (fun r10_ τ10 h => ?_))
    refine aw_put (pc := 13) 21 kcX10 dX10_layExpenses_13 lfX10_321 nn_233 ki_233 (by decide) rfl rfl rfl rfl ?_
    refine aw_tops (fun τ13 eτ13 => ?_)
    have h := h τ13 eτ13
    refine aw_aload_n (pc := 16) 0 dX10_layExpenses_16 rfl ?_
    refine aw_iload_n (pc := 17) 3 dX10_layExpenses_17 rfl ?_
    refine aw_aload_n (pc := 18) 0 dX10_layExpenses_18 rfl ?_
    refine aw_getI (pc := 19) 20 kcX10 dX10_layExpenses_19 lfX10_315 nn_233 ki_233 (by decide) rfl ?_
    refine aw_aload_n (pc := 22) 0 dX10_layExpenses_22 rfl ?_
    refine aw_getI (pc := 23) 21 kcX10 dX10_layExpenses_23 lfX10_321 nn_233 ki_233 (by decide) rfl ?_
    refine aw_isub (pc := 26) dX10_layExpenses_26 ?_
    refine aw_callS (pc := 27) (As := [.int x3, .int ((τ13 233 20) - (τ13 233 21))]) (rest := [.ref 233]) (ev_X10_less l x3 ((τ13 233 20) - (τ13 233 21)) h) mfX10_less dX10_layExpenses_27 lmX10_318 ⟨Nat.le_refl _, Nat.le_refl _⟩ (by decide) rfl rfl (Nat.le_of_ble_eq_true rfl) (nxI (fun r27_ τ27 h => ?_))
    refine aw_put (pc := 30) 22 kcX10 dX10_layExpenses_30 lfX10_324 nn_233 ki_233 (by decide) rfl rfl rfl rfl ?_
    refine aw_tops (fun τ30 eτ30 => ?_)
    have h := h τ30 eτ30
    refine aw_goto (pc := 33) 123 dX10_layExpenses_33 (by decide) ?_
    exact aw_vret (pc := 123) rfl dX10_layExpenses_123 ⟨rfl, h⟩
def b_X10_layShares_179 (x1 : Int32) (x2 : Int32) (x3 : Int32)  (K : Sg → Prop) (z0 : Int32) (z1 : Int32) (σ : Sg) : Prop :=
  ∀ τ180 : Sg, τ180 = up σ 233 26 (z1 + z0) → (K τ180)
set_option maxRecDepth 20000 in
set_option maxHeartbeats 2000000 in
theorem bt_X10_layShares_179 (l : Launch) (x1 : Int32) (x2 : Int32) (x3 : Int32) {K : Sg → Prop}   (z0 : Int32) (z1 : Int32)  (σ : Sg) (h : b_X10_layShares_179 x1 x2 x3  K z0 z1 σ) : AV l RX10 cX10_layShares 9 none 1 (qV K) 179 [] [.int z0, .int z1, .ref 233] σ := by
  refine aw_iadd (pc := 179) dX10_layShares_179 ?_
  refine aw_put (pc := 180) 26 kcX10 dX10_layShares_180 lfX10_336 nn_233 ki_233 (by decide) rfl rfl rfl rfl ?_
  refine aw_tops (fun τ180 eτ180 => ?_)
  have h := h τ180 eτ180
  exact aw_vret (pc := 183) rfl dX10_layShares_183 ⟨rfl, h⟩
def b_X10_layShares_158 (x1 : Int32) (x2 : Int32) (x3 : Int32)  (K : Sg → Prop) (y7 : Int32) (y8 : Int32) (z0 : Int32) (z1 : Int32) (σ : Sg) : Prop :=
  ∀ τ159 : Sg, τ159 = up σ 233 25 (z1 + z0) → (br (y8 = 2) (b_X10_layShares_179 x1 x2 x3  K y7 (τ159 233 26) τ159) (b_X10_layShares_179 x1 x2 x3  K 0 (τ159 233 26) τ159))
set_option maxRecDepth 20000 in
set_option maxHeartbeats 2000000 in
theorem bt_X10_layShares_158 (l : Launch) (x1 : Int32) (x2 : Int32) (x3 : Int32) {K : Sg → Prop}   (y7 : Int32) (y8 : Int32) (z0 : Int32) (z1 : Int32)  (σ : Sg) (h : b_X10_layShares_158 x1 x2 x3  K y7 y8 z0 z1 σ) : AV l RX10 cX10_layShares 9 none 1 (qV K) 158 [(0, .ref 233), (7, .int y7), (8, .int y8)] [.int z0, .int z1, .ref 233] σ := by
  refine aw_iadd (pc := 158) dX10_layShares_158 ?_
  refine aw_put (pc := 159) 25 kcX10 dX10_layShares_159 lfX10_333 nn_233 ki_233 (by decide) rfl rfl rfl rfl ?_
  refine aw_tops (fun τ159 eτ159 => ?_)
  have h := h τ159 eτ159
  refine aw_aload_n (pc := 162) 0 dX10_layShares_162 rfl ?_
  refine aw_dup (pc := 163) dX10_layShares_163 rfl ?_
  refine aw_getI (pc := 164) 26 kcX10 dX10_layShares_164 lfX10_336 nn_233 ki_233 (by decide) rfl ?_
  refine aw_iload (pc := 167) 2 dX10_layShares_167 rfl ?_
  refine aw_iconst (pc := 169) 2 dX10_layShares_169 (by decide) ?_
  refine aw_icmp_ne (pc := 170) 178 dX10_layShares_170 (by decide) (fun q => ?_) (fun q => ?_)
  · have h := h.2 q
    refine aw_iconst (pc := 178) 0 dX10_layShares_178 (by decide) ?_
    refine aw_sub (L' := []) [] rfl ?_
    exact bt_X10_layShares_179 l x1 x2 x3   0 (τ159 233 26)  _ h
  · have h := h.1 q
    refine aw_iload (pc := 173) 1 dX10_layShares_173 rfl ?_
    refine aw_goto (pc := 175) 179 dX10_layShares_175 (by decide) ?_
    refine aw_sub (L' := []) [] rfl ?_
    exact bt_X10_layShares_179 l x1 x2 x3   y7 (τ159 233 26)  _ h
def b_X10_layShares_137 (x1 : Int32) (x2 : Int32) (x3 : Int32)  (K : Sg → Prop) (y7 : Int32) (y8 : Int32) (z0 : Int32) (z1 : Int32) (σ : Sg) : Prop :=
  ∀ τ138 : Sg, τ138 = up σ 233 24 (z1 + z0) → (br (y8 = 1) (b_X10_layShares_158 x1 x2 x3  K y7 y8 y7 (τ138 233 25) τ138) (b_X10_layShares_158 x1 x2 x3  K y7 y8 0 (τ138 233 25) τ138))
set_option maxRecDepth 20000 in
set_option maxHeartbeats 2000000 in
theorem bt_X10_layShares_137 (l : Launch) (x1 : Int32) (x2 : Int32) (x3 : Int32) {K : Sg → Prop}   (y7 : Int32) (y8 : Int32) (z0 : Int32) (z1 : Int32)  (σ : Sg) (h : b_X10_layShares_137 x1 x2 x3  K y7 y8 z0 z1 σ) : AV l RX10 cX10_layShares 9 none 1 (qV K) 137 [(0, .ref 233), (7, .int y7), (8, .int y8)] [.int z0, .int z1, .ref 233] σ := by
  refine aw_iadd (pc := 137) dX10_layShares_137 ?_
  refine aw_put (pc := 138) 24 kcX10 dX10_layShares_138 lfX10_330 nn_233 ki_233 (by decide) rfl rfl rfl rfl ?_
  refine aw_tops (fun τ138 eτ138 => ?_)
  have h := h τ138 eτ138
  refine aw_aload_n (pc := 141) 0 dX10_layShares_141 rfl ?_
  refine aw_dup (pc := 142) dX10_layShares_142 rfl ?_
  refine aw_getI (pc := 143) 25 kcX10 dX10_layShares_143 lfX10_333 nn_233 ki_233 (by decide) rfl ?_
  refine aw_iload (pc := 146) 2 dX10_layShares_146 rfl ?_
  refine aw_iconst (pc := 148) 1 dX10_layShares_148 (by decide) ?_
  refine aw_icmp_ne (pc := 149) 157 dX10_layShares_149 (by decide) (fun q => ?_) (fun q => ?_)
  · have h := h.2 q
    refine aw_iconst (pc := 157) 0 dX10_layShares_157 (by decide) ?_
    exact bt_X10_layShares_158 l x1 x2 x3   y7 y8 0 (τ138 233 25)  _ h
  · have h := h.1 q
    refine aw_iload (pc := 152) 1 dX10_layShares_152 rfl ?_
    refine aw_goto (pc := 154) 158 dX10_layShares_154 (by decide) ?_
    exact bt_X10_layShares_158 l x1 x2 x3   y7 y8 y7 (τ138 233 25)  _ h
def b_X10_layShares_39 (x1 : Int32) (x2 : Int32) (x3 : Int32)  (K : Sg → Prop) (y4 : Int32) (y5 : Int32) (σ : Sg) : Prop :=
  ∀ v47 : Int32, v47 = (100 - y4) - y5 → (∀ τ60 : Sg, τ60 = up σ 233 24 (((σ 233 23) * y4) / 100) → (∀ τ74 : Sg, τ74 = up τ60 233 25 (((τ60 233 23) * y5) / 100) → (∀ τ88 : Sg, τ88 = up τ74 233 26 (((τ74 233 23) * v47) / 100) → (∀ v110 : Int32, v110 = (((τ88 233 23) - (τ88 233 24)) - (τ88 233 25)) - (τ88 233 26) → (wp_X10_ofCup x1 10 τ88 <| fun r116_ τ116 => (br (r116_ = 0) (b_X10_layShares_137 x1 x2 x3  K v110 r116_ v110 (τ116 233 24) τ116) (b_X10_layShares_137 x1 x2 x3  K v110 r116_ 0 (τ116 233 24) τ116)))))))
set_option maxRecDepth 20000 in
set_option maxHeartbeats 2000000 in
theorem bt_X10_layShares_39 (l : Launch) (x1 : Int32) (x2 : Int32) (x3 : Int32) {K : Sg → Prop}   (y4 : Int32) (y5 : Int32)  (σ : Sg) (h : b_X10_layShares_39 x1 x2 x3  K y4 y5 σ) : AV l RX10 cX10_layShares 9 none 1 (qV K) 39 [(0, .ref 233), (1, .int x1), (4, .int y4), (5, .int y5)] [] σ := by
  refine aw_bipush (pc := 39) 100 dX10_layShares_39 (by decide) ?_
  refine aw_iload (pc := 41) 2 dX10_layShares_41 rfl ?_
  refine aw_isub (pc := 43) dX10_layShares_43 ?_
  refine aw_iload (pc := 44) 3 dX10_layShares_44 rfl ?_
  refine aw_isub (pc := 46) dX10_layShares_46 ?_
  refine aw_topi (fun v47 ev47 => ?_)
  have h := h v47 ev47
  refine aw_istore (pc := 47) [(6, .int v47), (0, .ref 233), (1, .int x1), (4, .int y4), (5, .int y5)] dX10_layShares_47 (by decide) rfl ?_
  refine aw_aload_n (pc := 49) 1 dX10_layShares_49 rfl ?_
  refine aw_aload_n (pc := 50) 1 dX10_layShares_50 rfl ?_
  refine aw_getI (pc := 51) 23 kcX10 dX10_layShares_51 lfX10_327 nn_233 ki_233 (by decide) rfl ?_
  refine aw_iload (pc := 54) 3 dX10_layShares_54 rfl ?_
  refine aw_imul (pc := 56) dX10_layShares_56 ?_
  refine aw_bipush (pc := 57) 100 dX10_layShares_57 (by decide) ?_
  refine aw_idiv (pc := 59) dX10_layShares_59 (by decide) ?_
  refine aw_put (pc := 60) 24 kcX10 dX10_layShares_60 lfX10_330 nn_233 ki_233 (by decide) rfl rfl rfl rfl ?_
  refine aw_tops (fun τ60 eτ60 => ?_)
  have h := h τ60 eτ60
  refine aw_aload_n (pc := 63) 1 dX10_layShares_63 rfl ?_
  refine aw_aload_n (pc := 64) 1 dX10_layShares_64 rfl ?_
  refine aw_getI (pc := 65) 23 kcX10 dX10_layShares_65 lfX10_327 nn_233 ki_233 (by decide) rfl ?_
  refine aw_iload (pc := 68) 4 dX10_layShares_68 rfl ?_
  refine aw_imul (pc := 70) dX10_layShares_70 ?_
  refine aw_bipush (pc := 71) 100 dX10_layShares_71 (by decide) ?_
  refine aw_idiv (pc := 73) dX10_layShares_73 (by decide) ?_
  refine aw_put (pc := 74) 25 kcX10 dX10_layShares_74 lfX10_333 nn_233 ki_233 (by decide) rfl rfl rfl rfl ?_
  refine aw_tops (fun τ74 eτ74 => ?_)
  have h := h τ74 eτ74
  refine aw_aload_n (pc := 77) 1 dX10_layShares_77 rfl ?_
  refine aw_aload_n (pc := 78) 1 dX10_layShares_78 rfl ?_
  refine aw_getI (pc := 79) 23 kcX10 dX10_layShares_79 lfX10_327 nn_233 ki_233 (by decide) rfl ?_
  refine aw_iload (pc := 82) 0 dX10_layShares_82 rfl ?_
  refine aw_imul (pc := 84) dX10_layShares_84 ?_
  refine aw_bipush (pc := 85) 100 dX10_layShares_85 (by decide) ?_
  refine aw_idiv (pc := 87) dX10_layShares_87 (by decide) ?_
  refine aw_put (pc := 88) 26 kcX10 dX10_layShares_88 lfX10_336 nn_233 ki_233 (by decide) rfl rfl rfl rfl ?_
  refine aw_tops (fun τ88 eτ88 => ?_)
  have h := h τ88 eτ88
  refine aw_aload_n (pc := 91) 1 dX10_layShares_91 rfl ?_
  refine aw_getI (pc := 92) 23 kcX10 dX10_layShares_92 lfX10_327 nn_233 ki_233 (by decide) rfl ?_
  refine aw_aload_n (pc := 95) 1 dX10_layShares_95 rfl ?_
  refine aw_getI (pc := 96) 24 kcX10 dX10_layShares_96 lfX10_330 nn_233 ki_233 (by decide) rfl ?_
  refine aw_isub (pc := 99) dX10_layShares_99 ?_
  refine aw_aload_n (pc := 100) 1 dX10_layShares_100 rfl ?_
  refine aw_getI (pc := 101) 25 kcX10 dX10_layShares_101 lfX10_333 nn_233 ki_233 (by decide) rfl ?_
  refine aw_isub (pc := 104) dX10_layShares_104 ?_
  refine aw_aload_n (pc := 105) 1 dX10_layShares_105 rfl ?_
  refine aw_getI (pc := 106) 26 kcX10 dX10_layShares_106 lfX10_336 nn_233 ki_233 (by decide) rfl ?_
  refine aw_isub (pc := 109) dX10_layShares_109 ?_
  refine aw_topi (fun v110 ev110 => ?_)
  have h := h v110 ev110
  refine aw_istore (pc := 110) [(7, .int v110), (6, .int v47), (0, .ref 233), (1, .int x1), (4, .int y4), (5, .int y5)] dX10_layShares_110 (by decide) rfl ?_
  refine aw_aload_n (pc := 112) 2 dX10_layShares_112 rfl ?_
  refine aw_iload_n (pc := 113) 3 dX10_layShares_113 rfl ?_
  refine aw_bipush (pc := 114) 10 dX10_layShares_114 (by decide) ?_
  refine aw_callV (pc := 116) (As := [.int x1, .int 10]) (rest := []) kcX10 nn_233 ki_233 rfl (ev_X10_ofCup l x1 10 h) mfX10_ofCup dX10_layShares_116 lmX10_301 ⟨Nat.le_refl _, Nat.le_refl _⟩ (by decide) rfl rfl (Nat.le_of_ble_eq_true rfl) (nxI (fun r116_ τ116 h => ?_))
  refine aw_istore (pc := 119) [(8, .int r116_), (7, .int v110), (6, .int v47), (0, .ref 233), (1, .int x1), (4, .int y4), (5, .int y5)] dX10_layShares_119 (by decide) rfl ?_
  refine aw_aload_n (pc := 121) 3 dX10_layShares_121 rfl ?_
  refine aw_dup (pc := 122) dX10_layShares_122 rfl ?_
  refine aw_getI (pc := 123) 24 kcX10 dX10_layShares_123 lfX10_330 nn_233 ki_233 (by decide) rfl ?_
  refine aw_iload (pc := 126) 0 dX10_layShares_126 rfl ?_
  refine aw_if_ne (pc := 128) 136 dX10_layShares_128 (by decide) (fun q => ?_) (fun q => ?_)
  · have h := h.2 q
    refine aw_iconst (pc := 136) 0 dX10_layShares_136 (by decide) ?_
    refine aw_sub (L' := [(0, .ref 233), (7, .int v110), (8, .int r116_)]) [3, 1, 0] rfl ?_
    exact bt_X10_layShares_137 l x1 x2 x3   v110 r116_ 0 (τ116 233 24)  _ h
  · have h := h.1 q
    refine aw_iload (pc := 131) 1 dX10_layShares_131 rfl ?_
    refine aw_goto (pc := 133) 137 dX10_layShares_133 (by decide) ?_
    refine aw_sub (L' := [(0, .ref 233), (7, .int v110), (8, .int r116_)]) [3, 1, 0] rfl ?_
    exact bt_X10_layShares_137 l x1 x2 x3   v110 r116_ v110 (τ116 233 24)  _ h
def wp_X10_layShares (x1 : Int32) (x2 : Int32) (x3 : Int32) (σ : Sg) (K : Sg → Prop) : Prop :=
  wp_X10_ofCup x1 x2 σ <| fun r3_ τ3 => (wp_X10_ofCup x1 (x2 + 1) τ3 <| fun r13_ τ13 => (br (x3 = 0) (b_X10_layShares_39 x1 x2 x3  K r3_ r13_ τ13) (∀ v29 : Int32, v29 = (r3_ + r13_) / 2 → (b_X10_layShares_39 x1 x2 x3  K v29 v29 τ13))))
set_option maxRecDepth 20000 in
set_option maxHeartbeats 2000000 in
theorem ev_X10_layShares (l : Launch) (x1 : Int32) (x2 : Int32) (x3 : Int32) {σ : Sg} {K : Sg → Prop} (h : wp_X10_layShares x1 x2 x3 σ K) : Ev l yX10_layShares cX10_layShares 9 none 1 [.ref 233, .int x1, .int x2, .int x3] σ (qV K) := by
  refine ev_ov (by decide) (Nat.le_of_ble_eq_true rfl) ?_
  show AV l RX10 cX10_layShares 9 none 1 (qV K) 0 [(0, .ref 233), (1, .int x1), (2, .int x2), (3, .int x3)] [] σ
  refine aw_aload_n (pc := 0) 0 dX10_layShares_0 rfl ?_
  refine aw_iload_n (pc := 1) 1 dX10_layShares_1 rfl ?_
  refine aw_iload_n (pc := 2) 2 dX10_layShares_2 rfl ?_
  refine aw_callV (pc := 3) (As := [.int x1, .int x2]) (rest := []) kcX10 nn_233 ki_233 rfl (ev_X10_ofCup l x1 x2 h) mfX10_ofCup dX10_layShares_3 lmX10_301 ⟨Nat.le_refl _, Nat.le_refl _⟩ (by decide) rfl rfl (Nat.le_of_ble_eq_true rfl) (nxI (fun r3_ τ3 h => ?_))
  refine aw_istore (pc := 6) [(4, .int r3_), (0, .ref 233), (1, .int x1), (2, .int x2), (3, .int x3)] dX10_layShares_6 (by decide) rfl ?_
  refine aw_aload_n (pc := 8) 1 dX10_layShares_8 rfl ?_
  refine aw_iload_n (pc := 9) 2 dX10_layShares_9 rfl ?_
  refine aw_iload_n (pc := 10) 3 dX10_layShares_10 rfl ?_
  refine aw_iconst (pc := 11) 1 dX10_layShares_11 (by decide) ?_
  refine aw_iadd (pc := 12) dX10_layShares_12 ?_
  refine aw_callV (pc := 13) (As := [.int x1, .int (x2 + 1)]) (rest := []) kcX10 nn_233 ki_233 rfl (ev_X10_ofCup l x1 (x2 + 1) h) mfX10_ofCup dX10_layShares_13 lmX10_301 ⟨Nat.le_refl _, Nat.le_refl _⟩ (by decide) rfl rfl (Nat.le_of_ble_eq_true rfl) (nxI (fun r13_ τ13 h => ?_))
  refine aw_istore (pc := 16) [(5, .int r13_), (4, .int r3_), (0, .ref 233), (1, .int x1), (2, .int x2), (3, .int x3)] dX10_layShares_16 (by decide) rfl ?_
  refine aw_iload_n (pc := 18) 5 dX10_layShares_18 rfl ?_
  refine aw_if_eq (pc := 19) 39 dX10_layShares_19 (by decide) (fun q => ?_) (fun q => ?_)
  · have h := h.1 q
    refine aw_sub (L' := [(0, .ref 233), (1, .int x1), (4, .int r3_), (5, .int r13_)]) [2, 3, 1, 0] rfl ?_
    exact bt_X10_layShares_39 l x1 x2 x3   r3_ r13_  _ h
  · have h := h.2 q
    refine aw_iload (pc := 22) 1 dX10_layShares_22 rfl ?_
    refine aw_iload (pc := 24) 0 dX10_layShares_24 rfl ?_
    refine aw_iadd (pc := 26) dX10_layShares_26 ?_
    refine aw_iconst (pc := 27) 2 dX10_layShares_27 (by decide) ?_
    refine aw_idiv (pc := 28) dX10_layShares_28 (by decide) ?_
    refine aw_topi (fun v29 ev29 => ?_)
    have h := h v29 ev29
    refine aw_istore (pc := 29) [(6, .int v29), (5, .int r13_), (4, .int r3_), (0, .ref 233), (1, .int x1), (2, .int x2), (3, .int x3)] dX10_layShares_29 (by decide) rfl ?_
    refine aw_iload (pc := 31) 0 dX10_layShares_31 rfl ?_
    refine aw_istore (pc := 33) [(4, .int v29), (6, .int v29), (5, .int r13_), (0, .ref 233), (1, .int x1), (2, .int x2), (3, .int x3)] dX10_layShares_33 (by decide) rfl ?_
    refine aw_iload (pc := 35) 1 dX10_layShares_35 rfl ?_
    refine aw_istore (pc := 37) [(5, .int v29), (4, .int v29), (6, .int v29), (0, .ref 233), (1, .int x1), (2, .int x2), (3, .int x3)] dX10_layShares_37 (by decide) rfl ?_
    refine aw_sub (L' := [(0, .ref 233), (1, .int x1), (4, .int v29), (5, .int v29)]) [3, 4, 1, 0] rfl ?_
    exact bt_X10_layShares_39 l x1 x2 x3   v29 v29  _ h
def b_X10_layGame_178 (x1 : Int32) (x2 : Int32) (x3 : Int32) (x4 : Int32)  (K : Sg → Prop) (z0 : Int32) (σ : Sg) : Prop :=
  ∀ τ178 : Sg, τ178 = up σ 233 27 z0 → (wp_X10_less (τ178 233 27) (τ178 233 24) τ178 <| fun r189_ τ189 => (∀ τ202 : Sg, τ202 = up τ189 233 24 ((τ189 233 24) - r189_) → (∀ τ218 : Sg, τ218 = up τ202 233 26 ((τ202 233 26) - ((τ202 233 27) - r189_)) → (∀ τ231 : Sg, τ231 = up τ218 233 25 ((τ218 233 25) + (τ218 233 27)) → (K τ231)))))
set_option maxRecDepth 20000 in
set_option maxHeartbeats 2000000 in
theorem bt_X10_layGame_178 (l : Launch) (x1 : Int32) (x2 : Int32) (x3 : Int32) (x4 : Int32) {K : Sg → Prop}   (z0 : Int32)  (σ : Sg) (h : b_X10_layGame_178 x1 x2 x3 x4  K z0 σ) : AV l RX10 cX10_layGame 8 none 2 (qV K) 178 [(0, .ref 233)] [.int z0, .ref 233] σ := by
  refine aw_put (pc := 178) 27 kcX10 dX10_layGame_178 lfX10_356 nn_233 ki_233 (by decide) rfl rfl rfl rfl ?_
  refine aw_tops (fun τ178 eτ178 => ?_)
  have h := h τ178 eτ178
  refine aw_aload_n (pc := 181) 0 dX10_layGame_181 rfl ?_
  refine aw_getI (pc := 182) 27 kcX10 dX10_layGame_182 lfX10_356 nn_233 ki_233 (by decide) rfl ?_
  refine aw_aload_n (pc := 185) 0 dX10_layGame_185 rfl ?_
  refine aw_getI (pc := 186) 24 kcX10 dX10_layGame_186 lfX10_330 nn_233 ki_233 (by decide) rfl ?_
  refine aw_callS (pc := 189) (As := [.int (τ178 233 27), .int (τ178 233 24)]) (rest := []) (ev_X10_less l (τ178 233 27) (τ178 233 24) h) mfX10_less dX10_layGame_189 lmX10_318 ⟨Nat.le_refl _, Nat.le_refl _⟩ (by decide) rfl rfl (Nat.le_of_ble_eq_true rfl) (nxI (fun r189_ τ189 h => ?_))
  refine aw_istore (pc := 192) [(7, .int r189_), (0, .ref 233)] dX10_layGame_192 (by decide) rfl ?_
  refine aw_aload_n (pc := 194) 1 dX10_layGame_194 rfl ?_
  refine aw_dup (pc := 195) dX10_layGame_195 rfl ?_
  refine aw_getI (pc := 196) 24 kcX10 dX10_layGame_196 lfX10_330 nn_233 ki_233 (by decide) rfl ?_
  refine aw_iload (pc := 199) 0 dX10_layGame_199 rfl ?_
  refine aw_isub (pc := 201) dX10_layGame_201 ?_
  refine aw_put (pc := 202) 24 kcX10 dX10_layGame_202 lfX10_330 nn_233 ki_233 (by decide) rfl rfl rfl rfl ?_
  refine aw_tops (fun τ202 eτ202 => ?_)
  have h := h τ202 eτ202
  refine aw_aload_n (pc := 205) 1 dX10_layGame_205 rfl ?_
  refine aw_dup (pc := 206) dX10_layGame_206 rfl ?_
  refine aw_getI (pc := 207) 26 kcX10 dX10_layGame_207 lfX10_336 nn_233 ki_233 (by decide) rfl ?_
  refine aw_aload_n (pc := 210) 1 dX10_layGame_210 rfl ?_
  refine aw_getI (pc := 211) 27 kcX10 dX10_layGame_211 lfX10_356 nn_233 ki_233 (by decide) rfl ?_
  refine aw_iload (pc := 214) 0 dX10_layGame_214 rfl ?_
  refine aw_isub (pc := 216) dX10_layGame_216 ?_
  refine aw_isub (pc := 217) dX10_layGame_217 ?_
  refine aw_put (pc := 218) 26 kcX10 dX10_layGame_218 lfX10_336 nn_233 ki_233 (by decide) rfl rfl rfl rfl ?_
  refine aw_tops (fun τ218 eτ218 => ?_)
  have h := h τ218 eτ218
  refine aw_aload_n (pc := 221) 1 dX10_layGame_221 rfl ?_
  refine aw_dup (pc := 222) dX10_layGame_222 rfl ?_
  refine aw_getI (pc := 223) 25 kcX10 dX10_layGame_223 lfX10_333 nn_233 ki_233 (by decide) rfl ?_
  refine aw_aload_n (pc := 226) 1 dX10_layGame_226 rfl ?_
  refine aw_getI (pc := 227) 27 kcX10 dX10_layGame_227 lfX10_356 nn_233 ki_233 (by decide) rfl ?_
  refine aw_iadd (pc := 230) dX10_layGame_230 ?_
  refine aw_put (pc := 231) 25 kcX10 dX10_layGame_231 lfX10_333 nn_233 ki_233 (by decide) rfl rfl rfl rfl ?_
  refine aw_tops (fun τ231 eτ231 => ?_)
  have h := h τ231 eτ231
  exact aw_vret (pc := 234) rfl dX10_layGame_234 ⟨rfl, h⟩
def b_X10_layGame_155 (x1 : Int32) (x2 : Int32) (x3 : Int32) (x4 : Int32)  (K : Sg → Prop) (z0 : Int32) (σ : Sg) : Prop :=
  br (z0 ≤ (σ 233 25)) (b_X10_layGame_178 x1 x2 x3 x4  K 0 σ) (b_X10_layGame_178 x1 x2 x3 x4  K (z0 - (σ 233 25)) σ)
set_option maxRecDepth 20000 in
set_option maxHeartbeats 2000000 in
theorem bt_X10_layGame_155 (l : Launch) (x1 : Int32) (x2 : Int32) (x3 : Int32) (x4 : Int32) {K : Sg → Prop}   (z0 : Int32)  (σ : Sg) (h : b_X10_layGame_155 x1 x2 x3 x4  K z0 σ) : AV l RX10 cX10_layGame 8 none 2 (qV K) 155 [(0, .ref 233)] [.int z0] σ := by
  refine aw_istore (pc := 155) [(6, .int z0), (0, .ref 233)] dX10_layGame_155 (by decide) rfl ?_
  refine aw_aload_n (pc := 157) 1 dX10_layGame_157 rfl ?_
  refine aw_iload (pc := 158) 0 dX10_layGame_158 rfl ?_
  refine aw_aload_n (pc := 160) 1 dX10_layGame_160 rfl ?_
  refine aw_getI (pc := 161) 25 kcX10 dX10_layGame_161 lfX10_333 nn_233 ki_233 (by decide) rfl ?_
  refine aw_icmp_le (pc := 164) 177 dX10_layGame_164 (by decide) (fun q => ?_) (fun q => ?_)
  · have h := h.1 q
    refine aw_iconst (pc := 177) 0 dX10_layGame_177 (by decide) ?_
    refine aw_sub (L' := [(0, .ref 233)]) [1] rfl ?_
    exact bt_X10_layGame_178 l x1 x2 x3 x4   0  _ h
  · have h := h.2 q
    refine aw_iload (pc := 167) 0 dX10_layGame_167 rfl ?_
    refine aw_aload_n (pc := 169) 1 dX10_layGame_169 rfl ?_
    refine aw_getI (pc := 170) 25 kcX10 dX10_layGame_170 lfX10_333 nn_233 ki_233 (by decide) rfl ?_
    refine aw_isub (pc := 173) dX10_layGame_173 ?_
    refine aw_goto (pc := 174) 178 dX10_layGame_174 (by decide) ?_
    refine aw_sub (L' := [(0, .ref 233)]) [1] rfl ?_
    exact bt_X10_layGame_178 l x1 x2 x3 x4   (z0 - (σ 233 25))  _ h
def b_X10_layGame_137 (x1 : Int32) (x2 : Int32) (x3 : Int32) (x4 : Int32)  (K : Sg → Prop)  (σ : Sg) : Prop :=
  b_X10_layGame_155 x1 x2 x3 x4  K 0 σ
set_option maxRecDepth 20000 in
set_option maxHeartbeats 2000000 in
theorem bt_X10_layGame_137 (l : Launch) (x1 : Int32) (x2 : Int32) (x3 : Int32) (x4 : Int32) {K : Sg → Prop}     (σ : Sg) (h : b_X10_layGame_137 x1 x2 x3 x4  K  σ) : AV l RX10 cX10_layGame 8 none 2 (qV K) 137 [(0, .ref 233)] [] σ := by
  refine aw_iconst (pc := 137) 0 dX10_layGame_137 (by decide) ?_
  refine aw_goto (pc := 138) 155 dX10_layGame_138 (by decide) ?_
  exact bt_X10_layGame_155 l x1 x2 x3 x4   0  _ h
def b_X10_layGame_123 (x1 : Int32) (x2 : Int32) (x3 : Int32) (x4 : Int32)  (K : Sg → Prop) (y5 : Int32) (z0 : Int32) (z1 : Int32) (σ : Sg) : Prop :=
  wp_X10_layShares z1 z0 y5 σ <| fun τ125 => (br (0 < x2) (b_X10_layGame_137 x1 x2 x3 x4  K  τ125) (br (y5 = 0) (wp_X10_ofCup x4 4 τ125 <| fun r145_ τ145 => (wp_X10_less r145_ (τ145 233 23) τ145 <| fun r152_ τ152 => (b_X10_layGame_155 x1 x2 x3 x4  K r152_ τ152))) (b_X10_layGame_137 x1 x2 x3 x4  K  τ125)))
set_option maxRecDepth 20000 in
set_option maxHeartbeats 2000000 in
theorem bt_X10_layGame_123 (l : Launch) (x1 : Int32) (x2 : Int32) (x3 : Int32) (x4 : Int32) {K : Sg → Prop}   (y5 : Int32) (z0 : Int32) (z1 : Int32)  (σ : Sg) (h : b_X10_layGame_123 x1 x2 x3 x4  K y5 z0 z1 σ) : AV l RX10 cX10_layGame 8 none 2 (qV K) 123 [(0, .ref 233), (2, .int x2), (4, .int x4), (5, .int y5)] [.int z0, .int z1, .ref 233] σ := by
  refine aw_iload (pc := 123) 3 dX10_layGame_123 rfl ?_
  refine aw_callV (pc := 125) (As := [.int z1, .int z0, .int y5]) (rest := []) kcX10 nn_233 ki_233 rfl (ev_X10_layShares l z1 z0 y5 h) mfX10_layShares dX10_layGame_125 lmX10_352 ⟨Nat.le_refl _, Nat.le_refl _⟩ (by decide) rfl rfl (Nat.le_of_ble_eq_true rfl) (nxV (fun τ125 h => ?_))
  refine aw_iload_n (pc := 128) 1 dX10_layGame_128 rfl ?_
  refine aw_if_gt (pc := 129) 137 dX10_layGame_129 (by decide) (fun q => ?_) (fun q => ?_)
  · have h := h.1 q
    refine aw_sub (L' := [(0, .ref 233)]) [0] rfl ?_
    exact bt_X10_layGame_137 l x1 x2 x3 x4     _ h
  · have h := h.2 q
    refine aw_iload (pc := 132) 3 dX10_layGame_132 rfl ?_
    refine aw_if_eq (pc := 134) 141 dX10_layGame_134 (by decide) (fun q => ?_) (fun q => ?_)
    · have h := h.1 q
      refine aw_aload_n (pc := 141) 0 dX10_layGame_141 rfl ?_
      refine aw_iload (pc := 142) 2 dX10_layGame_142 rfl ?_
      refine aw_iconst (pc := 144) 4 dX10_layGame_144 (by decide) ?_
      refine aw_callV (pc := 145) (As := [.int x4, .int 4]) (rest := []) kcX10 nn_233 ki_233 rfl (ev_X10_ofCup l x4 4 h) mfX10_ofCup dX10_layGame_145 lmX10_301 ⟨Nat.le_refl _, Nat.le_refl _⟩ (by decide) rfl rfl (Nat.le_of_ble_eq_true rfl) (nxI (fun r145_ τ145 h => ?_))
      refine aw_aload_n (pc := 148) 0 dX10_layGame_148 rfl ?_
      refine aw_getI (pc := 149) 23 kcX10 dX10_layGame_149 lfX10_327 nn_233 ki_233 (by decide) rfl ?_
      refine aw_callS (pc := 152) (As := [.int r145_, .int (τ145 233 23)]) (rest := []) (ev_X10_less l r145_ (τ145 233 23) h) mfX10_less dX10_layGame_152 lmX10_318 ⟨Nat.le_refl _, Nat.le_refl _⟩ (by decide) rfl rfl (Nat.le_of_ble_eq_true rfl) (nxI (fun r152_ τ152 h => ?_))
      refine aw_sub (L' := [(0, .ref 233)]) [0] rfl ?_
      exact bt_X10_layGame_155 l x1 x2 x3 x4   r152_  _ h
    · have h := h.2 q
      refine aw_sub (L' := [(0, .ref 233)]) [0] rfl ?_
      exact bt_X10_layGame_137 l x1 x2 x3 x4     _ h
def b_X10_layGame_80 (x1 : Int32) (x2 : Int32) (x3 : Int32) (x4 : Int32)  (K : Sg → Prop) (y5 : Int32) (z0 : Int32) (z1 : Int32) (z3 : Int32) (σ : Sg) : Prop :=
  wp_X10_ofClub z1 z0 σ <| fun r80_ τ80 => (wp_X10_ofClub (τ80 233 19) 1 τ80 <| fun r89_ τ89 => (wp_X10_layExpenses z3 r80_ r89_ τ89 <| fun τ92 => (∀ τ107 : Sg, τ107 = up τ92 233 23 ((x3 - (τ92 233 21)) - (τ92 233 22)) → (br (x2 ≤ 0) (b_X10_layGame_123 x1 x2 x3 x4  K y5 0 x4 τ107) (b_X10_layGame_123 x1 x2 x3 x4  K y5 6 x4 τ107)))))
set_option maxRecDepth 20000 in
set_option maxHeartbeats 2000000 in
theorem bt_X10_layGame_80 (l : Launch) (x1 : Int32) (x2 : Int32) (x3 : Int32) (x4 : Int32) {K : Sg → Prop}   (y5 : Int32) (z0 : Int32) (z1 : Int32) (z3 : Int32)  (σ : Sg) (h : b_X10_layGame_80 x1 x2 x3 x4  K y5 z0 z1 z3 σ) : AV l RX10 cX10_layGame 8 none 2 (qV K) 80 [(0, .ref 233), (2, .int x2), (3, .int x3), (4, .int x4), (5, .int y5)] [.int z0, .int z1, .ref 233, .int z3, .ref 233] σ := by
  refine aw_callV (pc := 80) (As := [.int z1, .int z0]) (rest := [.int z3, .ref 233]) kcX10 nn_233 ki_233 rfl (ev_X10_ofClub l z1 z0 h) mfX10_ofClub dX10_layGame_80 lmX10_345 ⟨Nat.le_refl _, Nat.le_refl _⟩ (by decide) rfl rfl (Nat.le_of_ble_eq_true rfl) (nxI (fun r80_ τ80 h => ?_))
  refine aw_aload_n (pc := 83) 0 dX10_layGame_83 rfl ?_
  refine aw_aload_n (pc := 84) 0 dX10_layGame_84 rfl ?_
  refine aw_getI (pc := 85) 19 kcX10 dX10_layGame_85 lfX10_342 nn_233 ki_233 (by decide) rfl ?_
  refine aw_iconst (pc := 88) 1 dX10_layGame_88 (by decide) ?_
  refine aw_callV (pc := 89) (As := [.int (τ80 233 19), .int 1]) (rest := [.int r80_, .int z3, .ref 233]) kcX10 nn_233 ki_233 rfl (ev_X10_ofClub l (τ80 233 19) 1 h) mfX10_ofClub dX10_layGame_89 lmX10_345 ⟨Nat.le_refl _, Nat.le_refl _⟩ (by decide) rfl rfl (Nat.le_of_ble_eq_true rfl) (nxI (fun r89_ τ89 h => ?_))
  refine aw_callV (pc := 92) (As := [.int z3, .int r80_, .int r89_]) (rest := []) kcX10 nn_233 ki_233 rfl (ev_X10_layExpenses l z3 r80_ r89_ h) mfX10_layExpenses dX10_layGame_92 lmX10_348 ⟨Nat.le_refl _, Nat.le_refl _⟩ (by decide) rfl rfl (Nat.le_of_ble_eq_true rfl) (nxV (fun τ92 h => ?_))
  refine aw_aload_n (pc := 95) 0 dX10_layGame_95 rfl ?_
  refine aw_iload_n (pc := 96) 2 dX10_layGame_96 rfl ?_
  refine aw_aload_n (pc := 97) 0 dX10_layGame_97 rfl ?_
  refine aw_getI (pc := 98) 21 kcX10 dX10_layGame_98 lfX10_321 nn_233 ki_233 (by decide) rfl ?_
  refine aw_isub (pc := 101) dX10_layGame_101 ?_
  refine aw_aload_n (pc := 102) 0 dX10_layGame_102 rfl ?_
  refine aw_getI (pc := 103) 22 kcX10 dX10_layGame_103 lfX10_324 nn_233 ki_233 (by decide) rfl ?_
  refine aw_isub (pc := 106) dX10_layGame_106 ?_
  refine aw_put (pc := 107) 23 kcX10 dX10_layGame_107 lfX10_327 nn_233 ki_233 (by decide) rfl rfl rfl rfl ?_
  refine aw_tops (fun τ107 eτ107 => ?_)
  have h := h τ107 eτ107
  refine aw_aload_n (pc := 110) 0 dX10_layGame_110 rfl ?_
  refine aw_iload (pc := 111) 3 dX10_layGame_111 rfl ?_
  refine aw_iload_n (pc := 113) 1 dX10_layGame_113 rfl ?_
  refine aw_if_le (pc := 114) 122 dX10_layGame_114 (by decide) (fun q => ?_) (fun q => ?_)
  · have h := h.1 q
    refine aw_iconst (pc := 122) 0 dX10_layGame_122 (by decide) ?_
    refine aw_sub (L' := [(0, .ref 233), (2, .int x2), (4, .int x4), (5, .int y5)]) [0, 1, 3, 4] rfl ?_
    exact bt_X10_layGame_123 l x1 x2 x3 x4   y5 0 x4  _ h
  · have h := h.2 q
    refine aw_bipush (pc := 117) 6 dX10_layGame_117 (by decide) ?_
    refine aw_goto (pc := 119) 123 dX10_layGame_119 (by decide) ?_
    refine aw_sub (L' := [(0, .ref 233), (2, .int x2), (4, .int x4), (5, .int y5)]) [0, 1, 3, 4] rfl ?_
    exact bt_X10_layGame_123 l x1 x2 x3 x4   y5 6 x4  _ h
def b_X10_layGame_55 (x1 : Int32) (x2 : Int32) (x3 : Int32) (x4 : Int32)  (K : Sg → Prop) (z0 : Int32) (σ : Sg) : Prop :=
  wp_X10_ofCup x4 3 σ <| fun r62_ τ62 => (br (z0 = 0) (b_X10_layGame_80 x1 x2 x3 x4  K z0 0 (τ62 233 18) r62_ τ62) (b_X10_layGame_80 x1 x2 x3 x4  K z0 1 (τ62 233 18) r62_ τ62))
set_option maxRecDepth 20000 in
set_option maxHeartbeats 2000000 in
theorem bt_X10_layGame_55 (l : Launch) (x1 : Int32) (x2 : Int32) (x3 : Int32) (x4 : Int32) {K : Sg → Prop}   (z0 : Int32)  (σ : Sg) (h : b_X10_layGame_55 x1 x2 x3 x4  K z0 σ) : AV l RX10 cX10_layGame 8 none 2 (qV K) 55 [(0, .ref 233), (2, .int x2), (3, .int x3), (4, .int x4)] [.int z0] σ := by
  refine aw_istore (pc := 55) [(5, .int z0), (0, .ref 233), (2, .int x2), (3, .int x3), (4, .int x4)] dX10_layGame_55 (by decide) rfl ?_
  refine aw_aload_n (pc := 57) 1 dX10_layGame_57 rfl ?_
  refine aw_aload_n (pc := 58) 1 dX10_layGame_58 rfl ?_
  refine aw_iload (pc := 59) 4 dX10_layGame_59 rfl ?_
  refine aw_iconst (pc := 61) 3 dX10_layGame_61 (by decide) ?_
  refine aw_callV (pc := 62) (As := [.int x4, .int 3]) (rest := [.ref 233]) kcX10 nn_233 ki_233 rfl (ev_X10_ofCup l x4 3 h) mfX10_ofCup dX10_layGame_62 lmX10_301 ⟨Nat.le_refl _, Nat.le_refl _⟩ (by decide) rfl rfl (Nat.le_of_ble_eq_true rfl) (nxI (fun r62_ τ62 h => ?_))
  refine aw_aload_n (pc := 65) 1 dX10_layGame_65 rfl ?_
  refine aw_aload_n (pc := 66) 1 dX10_layGame_66 rfl ?_
  refine aw_getI (pc := 67) 18 kcX10 dX10_layGame_67 lfX10_339 nn_233 ki_233 (by decide) rfl ?_
  refine aw_iload (pc := 70) 0 dX10_layGame_70 rfl ?_
  refine aw_if_eq (pc := 72) 79 dX10_layGame_72 (by decide) (fun q => ?_) (fun q => ?_)
  · have h := h.1 q
    refine aw_iconst (pc := 79) 0 dX10_layGame_79 (by decide) ?_
    refine aw_sub (L' := [(0, .ref 233), (2, .int x2), (3, .int x3), (4, .int x4), (5, .int z0)]) [1, 2, 3, 4, 0] rfl ?_
    exact bt_X10_layGame_80 l x1 x2 x3 x4   z0 0 (τ62 233 18) r62_  _ h
  · have h := h.2 q
    refine aw_iconst (pc := 75) 1 dX10_layGame_75 (by decide) ?_
    refine aw_goto (pc := 76) 80 dX10_layGame_76 (by decide) ?_
    refine aw_sub (L' := [(0, .ref 233), (2, .int x2), (3, .int x3), (4, .int x4), (5, .int z0)]) [1, 2, 3, 4, 0] rfl ?_
    exact bt_X10_layGame_80 l x1 x2 x3 x4   z0 1 (τ62 233 18) r62_  _ h
def wp_X10_layGame (x1 : Int32) (x2 : Int32) (x3 : Int32) (x4 : Int32) (σ : Sg) (K : Sg → Prop) : Prop :=
  wp_X10_ofTie x1 (2 + (x2 - x2 / 2 * 2)) σ <| fun r8_ τ8 => (∀ τ11 : Sg, τ11 = up τ8 233 18 r8_ → (wp_X10_ofTie x1 (3 - (x2 - x2 / 2 * 2)) τ11 <| fun r22_ τ22 => (∀ τ25 : Sg, τ25 = up τ22 233 19 r22_ → (∀ τ30 : Sg, τ30 = up τ25 233 20 x3 → (wp_X10_ofTie x1 1 τ30 <| fun r36_ τ36 => (wp_X10_ofCup x4 9 τ36 <| fun r44_ τ44 => (br (r36_ < r44_) (b_X10_layGame_55 x1 x2 x3 x4  K 0 τ44) (b_X10_layGame_55 x1 x2 x3 x4  K 1 τ44))))))))
set_option maxRecDepth 20000 in
set_option maxHeartbeats 2000000 in
theorem ev_X10_layGame (l : Launch) (x1 : Int32) (x2 : Int32) (x3 : Int32) (x4 : Int32) {σ : Sg} {K : Sg → Prop} (h : wp_X10_layGame x1 x2 x3 x4 σ K) : Ev l yX10_layGame cX10_layGame 8 none 2 [.ref 233, .int x1, .int x2, .int x3, .int x4] σ (qV K) := by
  refine ev_ov (by decide) (Nat.le_of_ble_eq_true rfl) ?_
  show AV l RX10 cX10_layGame 8 none 2 (qV K) 0 [(0, .ref 233), (1, .int x1), (2, .int x2), (3, .int x3), (4, .int x4)] [] σ
  refine aw_aload_n (pc := 0) 0 dX10_layGame_0 rfl ?_
  refine aw_aload_n (pc := 1) 0 dX10_layGame_1 rfl ?_
  refine aw_iload_n (pc := 2) 1 dX10_layGame_2 rfl ?_
  refine aw_iconst (pc := 3) 2 dX10_layGame_3 (by decide) ?_
  refine aw_iload_n (pc := 4) 2 dX10_layGame_4 rfl ?_
  refine aw_iconst (pc := 5) 2 dX10_layGame_5 (by decide) ?_
  refine aw_irem (pc := 6) dX10_layGame_6 (by decide) ?_
  refine aw_iadd (pc := 7) dX10_layGame_7 ?_
  refine aw_callV (pc := 8) (As := [.int x1, .int (2 + (x2 - x2 / 2 * 2))]) (rest := [.ref 233]) kcX10 nn_233 ki_233 rfl (ev_X10_ofTie l x1 (2 + (x2 - x2 / 2 * 2)) h) mfX10_ofTie dX10_layGame_8 lmX10_252 ⟨Nat.le_refl _, Nat.le_refl _⟩ (by decide) rfl rfl (Nat.le_of_ble_eq_true rfl) (nxI (fun r8_ τ8 h => ?_))
  refine aw_put (pc := 11) 18 kcX10 dX10_layGame_11 lfX10_339 nn_233 ki_233 (by decide) rfl rfl rfl rfl ?_
  refine aw_tops (fun τ11 eτ11 => ?_)
  have h := h τ11 eτ11
  refine aw_aload_n (pc := 14) 0 dX10_layGame_14 rfl ?_
  refine aw_aload_n (pc := 15) 0 dX10_layGame_15 rfl ?_
  refine aw_iload_n (pc := 16) 1 dX10_layGame_16 rfl ?_
  refine aw_iconst (pc := 17) 3 dX10_layGame_17 (by decide) ?_
  refine aw_iload_n (pc := 18) 2 dX10_layGame_18 rfl ?_
  refine aw_iconst (pc := 19) 2 dX10_layGame_19 (by decide) ?_
  refine aw_irem (pc := 20) dX10_layGame_20 (by decide) ?_
  refine aw_isub (pc := 21) dX10_layGame_21 ?_
  refine aw_callV (pc := 22) (As := [.int x1, .int (3 - (x2 - x2 / 2 * 2))]) (rest := [.ref 233]) kcX10 nn_233 ki_233 rfl (ev_X10_ofTie l x1 (3 - (x2 - x2 / 2 * 2)) h) mfX10_ofTie dX10_layGame_22 lmX10_252 ⟨Nat.le_refl _, Nat.le_refl _⟩ (by decide) rfl rfl (Nat.le_of_ble_eq_true rfl) (nxI (fun r22_ τ22 h => ?_))
  refine aw_put (pc := 25) 19 kcX10 dX10_layGame_25 lfX10_342 nn_233 ki_233 (by decide) rfl rfl rfl rfl ?_
  refine aw_tops (fun τ25 eτ25 => ?_)
  have h := h τ25 eτ25
  refine aw_aload_n (pc := 28) 0 dX10_layGame_28 rfl ?_
  refine aw_iload_n (pc := 29) 3 dX10_layGame_29 rfl ?_
  refine aw_put (pc := 30) 20 kcX10 dX10_layGame_30 lfX10_315 nn_233 ki_233 (by decide) rfl rfl rfl rfl ?_
  refine aw_tops (fun τ30 eτ30 => ?_)
  have h := h τ30 eτ30
  refine aw_aload_n (pc := 33) 0 dX10_layGame_33 rfl ?_
  refine aw_iload_n (pc := 34) 1 dX10_layGame_34 rfl ?_
  refine aw_iconst (pc := 35) 1 dX10_layGame_35 (by decide) ?_
  refine aw_callV (pc := 36) (As := [.int x1, .int 1]) (rest := []) kcX10 nn_233 ki_233 rfl (ev_X10_ofTie l x1 1 h) mfX10_ofTie dX10_layGame_36 lmX10_252 ⟨Nat.le_refl _, Nat.le_refl _⟩ (by decide) rfl rfl (Nat.le_of_ble_eq_true rfl) (nxI (fun r36_ τ36 h => ?_))
  refine aw_aload_n (pc := 39) 0 dX10_layGame_39 rfl ?_
  refine aw_iload (pc := 40) 4 dX10_layGame_40 rfl ?_
  refine aw_bipush (pc := 42) 9 dX10_layGame_42 (by decide) ?_
  refine aw_callV (pc := 44) (As := [.int x4, .int 9]) (rest := [.int r36_]) kcX10 nn_233 ki_233 rfl (ev_X10_ofCup l x4 9 h) mfX10_ofCup dX10_layGame_44 lmX10_301 ⟨Nat.le_refl _, Nat.le_refl _⟩ (by decide) rfl rfl (Nat.le_of_ble_eq_true rfl) (nxI (fun r44_ τ44 h => ?_))
  refine aw_icmp_lt (pc := 47) 54 dX10_layGame_47 (by decide) (fun q => ?_) (fun q => ?_)
  · have h := h.1 q
    refine aw_iconst (pc := 54) 0 dX10_layGame_54 (by decide) ?_
    refine aw_sub (L' := [(0, .ref 233), (2, .int x2), (3, .int x3), (4, .int x4)]) [0, 2, 3, 4] rfl ?_
    exact bt_X10_layGame_55 l x1 x2 x3 x4   0  _ h
  · have h := h.2 q
    refine aw_iconst (pc := 50) 1 dX10_layGame_50 (by decide) ?_
    refine aw_goto (pc := 51) 55 dX10_layGame_51 (by decide) ?_
    refine aw_sub (L' := [(0, .ref 233), (2, .int x2), (3, .int x3), (4, .int x4)]) [0, 2, 3, 4] rfl ?_
    exact bt_X10_layGame_55 l x1 x2 x3 x4   1  _ h
def b_X10_addGames_2 (x1 : Int32)  (K : Sg → Prop) : Nat → Int32 → Sg → Prop
  | 0, _, _ => False
  | n + 1, y2, σ =>
  wp_X10_games x1 σ <| fun r5_ τ5 => (br (r5_ ≤ y2) (K τ5) (wp_X10_gateOf x1 y2 τ5 <| fun r17_ τ17 => (wp_X10_ofTie x1 0 τ17 <| fun r23_ τ23 => (wp_X10_layGame x1 y2 r17_ r23_ τ23 <| fun τ26 => (vp_in (τ26 233 18) 12 ∧ (vp_in (τ26 233 18) 12 ∧ (∀ τ44 : Sg, τ44 = up τ26 243 (τ26 233 18).toNatClampNeg ((τ26 243 (τ26 233 18).toNatClampNeg) + (τ26 233 21)) → (vp_in (τ44 233 19) 12 ∧ (vp_in (τ44 233 19) 12 ∧ (∀ τ60 : Sg, τ60 = up τ44 243 (τ44 233 19).toNatClampNeg ((τ44 243 (τ44 233 19).toNatClampNeg) + (τ44 233 22)) → (vp_in (τ60 233 18) 12 ∧ (vp_in (τ60 233 18) 12 ∧ (∀ τ76 : Sg, τ76 = up τ60 244 (τ60 233 18).toNatClampNeg ((τ60 244 (τ60 233 18).toNatClampNeg) + (τ60 233 24)) → (vp_in (τ76 233 19) 12 ∧ (vp_in (τ76 233 19) 12 ∧ (∀ τ92 : Sg, τ92 = up τ76 245 (τ76 233 19).toNatClampNeg ((τ76 245 (τ76 233 19).toNatClampNeg) + (τ76 233 25)) → (vp_in (τ92 233 18) 12 ∧ (vp_in (τ92 233 18) 12 ∧ (∀ τ108 : Sg, τ108 = up τ92 247 (τ92 233 18).toNatClampNeg ((τ92 247 (τ92 233 18).toNatClampNeg) + (τ92 233 20)) → (vp_in (τ108 233 18) 12 ∧ (vp_in (τ108 233 18) 12 ∧ (∀ τ121 : Sg, τ121 = up τ108 248 (τ108 233 18).toNatClampNeg ((τ108 248 (τ108 233 18).toNatClampNeg) + 1) → (vp_in (τ121 233 19) 12 ∧ (vp_in (τ121 233 19) 12 ∧ (∀ τ134 : Sg, τ134 = up τ121 248 (τ121 233 19).toNatClampNeg ((τ121 248 (τ121 233 19).toNatClampNeg) + 1) → (wp_X10_ofTie x1 0 τ134 <| fun r144_ τ144 => (wp_X10_ofTie x1 1 τ144 <| fun r151_ τ151 => (vp_in ((6 * r144_) + r151_) 24 ∧ (vp_in ((6 * r144_) + r151_) 24 ∧ (∀ τ162 : Sg, τ162 = up τ151 249 ((6 * r144_) + r151_).toNatClampNeg ((τ151 249 ((6 * r144_) + r151_).toNatClampNeg) + (τ151 233 26)) → (∀ τ173 : Sg, τ173 = up τ162 233 40 ((τ162 233 40) + (τ162 233 26)) → (∀ v176 : Int32, v176 = y2 + 1 → (b_X10_addGames_2 x1  K n v176 τ173)))))))))))))))))))))))))))))))))
set_option maxRecDepth 20000 in
set_option maxHeartbeats 2000000 in
theorem bt_X10_addGames_2 (l : Launch) (x1 : Int32) {K : Sg → Prop}   : ∀ (n : Nat) (y2 : Int32)  (σ : Sg), b_X10_addGames_2 x1  K n y2 σ → AV l RX10 cX10_addGames 3 none 3 (qV K) 2 [(0, .ref 233), (1, .int x1), (2, .int y2)] [] σ := by
  intro n
  induction n with
  | zero => intro y2 σ h; exact h.elim
  | succ n ih =>
    intro y2 σ h
    refine aw_iload_n (pc := 2) 2 dX10_addGames_2 rfl ?_
    refine aw_aload_n (pc := 3) 0 dX10_addGames_3 rfl ?_
    refine aw_iload_n (pc := 4) 1 dX10_addGames_4 rfl ?_
    refine aw_callV (pc := 5) (As := [.int x1]) (rest := [.int y2]) kcX10 nn_233 ki_233 rfl (ev_X10_games l x1 h) mfX10_games dX10_addGames_5 lmX10_255 ⟨Nat.le_refl _, Nat.le_refl _⟩ (by decide) rfl rfl (Nat.le_of_ble_eq_true rfl) (nxI (fun r5_ τ5 h => ?_))
    refine aw_icmp_ge (pc := 8) 182 dX10_addGames_8 (by decide) (fun q => ?_) (fun q => ?_)
    · have h := h.1 q
      exact aw_vret (pc := 182) rfl dX10_addGames_182 ⟨rfl, h⟩
    · have h := h.2 q
      refine aw_aload_n (pc := 11) 0 dX10_addGames_11 rfl ?_
      refine aw_iload_n (pc := 12) 1 dX10_addGames_12 rfl ?_
      refine aw_iload_n (pc := 13) 2 dX10_addGames_13 rfl ?_
      refine aw_aload_n (pc := 14) 0 dX10_addGames_14 rfl ?_
      refine aw_iload_n (pc := 15) 1 dX10_addGames_15 rfl ?_
      refine aw_iload_n (pc := 16) 2 dX10_addGames_16 rfl ?_
      refine aw_callV (pc := 17) (As := [.int x1, .int y2]) (rest := [.int y2, .int x1, .ref 233]) kcX10 nn_233 ki_233 rfl (ev_X10_gateOf l x1 y2 h) mfX10_gateOf dX10_addGames_17 lmX10_362 ⟨Nat.le_refl _, Nat.le_refl _⟩ (by decide) rfl rfl (Nat.le_of_ble_eq_true rfl) (nxI (fun r17_ τ17 h => ?_))
      refine aw_aload_n (pc := 20) 0 dX10_addGames_20 rfl ?_
      refine aw_iload_n (pc := 21) 1 dX10_addGames_21 rfl ?_
      refine aw_iconst (pc := 22) 0 dX10_addGames_22 (by decide) ?_
      refine aw_callV (pc := 23) (As := [.int x1, .int 0]) (rest := [.int r17_, .int y2, .int x1, .ref 233]) kcX10 nn_233 ki_233 rfl (ev_X10_ofTie l x1 0 h) mfX10_ofTie dX10_addGames_23 lmX10_252 ⟨Nat.le_refl _, Nat.le_refl _⟩ (by decide) rfl rfl (Nat.le_of_ble_eq_true rfl) (nxI (fun r23_ τ23 h => ?_))
      refine aw_callV (pc := 26) (As := [.int x1, .int y2, .int r17_, .int r23_]) (rest := []) kcX10 nn_233 ki_233 rfl (ev_X10_layGame l x1 y2 r17_ r23_ h) mfX10_layGame dX10_addGames_26 lmX10_365 ⟨Nat.le_refl _, Nat.le_refl _⟩ (by decide) rfl rfl (Nat.le_of_ble_eq_true rfl) (nxV (fun τ26 h => ?_))
      refine aw_aload_n (pc := 29) 0 dX10_addGames_29 rfl ?_
      refine aw_getR (pc := 30) 28 kcX10 dX10_addGames_30 lfX10_43 nn_233 ki_233 (by decide) rfl rf_233_28 ?_
      refine aw_aload_n (pc := 33) 0 dX10_addGames_33 rfl ?_
      refine aw_getI (pc := 34) 18 kcX10 dX10_addGames_34 lfX10_339 nn_233 ki_233 (by decide) rfl ?_
      refine aw_dup2 (pc := 37) dX10_addGames_37 rfl rfl ?_
      refine aw_iald (pc := 38) (j := (τ26 233 18).toNatClampNeg) dX10_addGames_38 nn_243 ki_243 ln_243 h.1 rfl ?_
      have h := h.2
      refine aw_aload_n (pc := 39) 0 dX10_addGames_39 rfl ?_
      refine aw_getI (pc := 40) 21 kcX10 dX10_addGames_40 lfX10_321 nn_233 ki_233 (by decide) rfl ?_
      refine aw_iadd (pc := 43) dX10_addGames_43 ?_
      refine aw_iast (pc := 44) (j := (τ26 233 18).toNatClampNeg) (v := ((τ26 243 (τ26 233 18).toNatClampNeg) + (τ26 233 21))) dX10_addGames_44 nn_243 ki_243 ln_243 h.1 rfl rfl ?_
      have h := h.2
      refine aw_tops (fun τ44 eτ44 => ?_)
      have h := h τ44 eτ44
      refine aw_aload_n (pc := 45) 0 dX10_addGames_45 rfl ?_
      refine aw_getR (pc := 46) 28 kcX10 dX10_addGames_46 lfX10_43 nn_233 ki_233 (by decide) rfl rf_233_28 ?_
      refine aw_aload_n (pc := 49) 0 dX10_addGames_49 rfl ?_
      refine aw_getI (pc := 50) 19 kcX10 dX10_addGames_50 lfX10_342 nn_233 ki_233 (by decide) rfl ?_
      refine aw_dup2 (pc := 53) dX10_addGames_53 rfl rfl ?_
      refine aw_iald (pc := 54) (j := (τ44 233 19).toNatClampNeg) dX10_addGames_54 nn_243 ki_243 ln_243 h.1 rfl ?_
      have h := h.2
      refine aw_aload_n (pc := 55) 0 dX10_addGames_55 rfl ?_
      refine aw_getI (pc := 56) 22 kcX10 dX10_addGames_56 lfX10_324 nn_233 ki_233 (by decide) rfl ?_
      refine aw_iadd (pc := 59) dX10_addGames_59 ?_
      refine aw_iast (pc := 60) (j := (τ44 233 19).toNatClampNeg) (v := ((τ44 243 (τ44 233 19).toNatClampNeg) + (τ44 233 22))) dX10_addGames_60 nn_243 ki_243 ln_243 h.1 rfl rfl ?_
      have h := h.2
      refine aw_tops (fun τ60 eτ60 => ?_)
      have h := h τ60 eτ60
      refine aw_aload_n (pc := 61) 0 dX10_addGames_61 rfl ?_
      refine aw_getR (pc := 62) 29 kcX10 dX10_addGames_62 lfX10_46 nn_233 ki_233 (by decide) rfl rf_233_29 ?_
      refine aw_aload_n (pc := 65) 0 dX10_addGames_65 rfl ?_
      refine aw_getI (pc := 66) 18 kcX10 dX10_addGames_66 lfX10_339 nn_233 ki_233 (by decide) rfl ?_
      refine aw_dup2 (pc := 69) dX10_addGames_69 rfl rfl ?_
      refine aw_iald (pc := 70) (j := (τ60 233 18).toNatClampNeg) dX10_addGames_70 nn_244 ki_244 ln_244 h.1 rfl ?_
      have h := h.2
      refine aw_aload_n (pc := 71) 0 dX10_addGames_71 rfl ?_
      refine aw_getI (pc := 72) 24 kcX10 dX10_addGames_72 lfX10_330 nn_233 ki_233 (by decide) rfl ?_
      refine aw_iadd (pc := 75) dX10_addGames_75 ?_
      refine aw_iast (pc := 76) (j := (τ60 233 18).toNatClampNeg) (v := ((τ60 244 (τ60 233 18).toNatClampNeg) + (τ60 233 24))) dX10_addGames_76 nn_244 ki_244 ln_244 h.1 rfl rfl ?_
      have h := h.2
      refine aw_tops (fun τ76 eτ76 => ?_)
      have h := h τ76 eτ76
      refine aw_aload_n (pc := 77) 0 dX10_addGames_77 rfl ?_
      refine aw_getR (pc := 78) 30 kcX10 dX10_addGames_78 lfX10_49 nn_233 ki_233 (by decide) rfl rf_233_30 ?_
      refine aw_aload_n (pc := 81) 0 dX10_addGames_81 rfl ?_
      refine aw_getI (pc := 82) 19 kcX10 dX10_addGames_82 lfX10_342 nn_233 ki_233 (by decide) rfl ?_
      refine aw_dup2 (pc := 85) dX10_addGames_85 rfl rfl ?_
      refine aw_iald (pc := 86) (j := (τ76 233 19).toNatClampNeg) dX10_addGames_86 nn_245 ki_245 ln_245 h.1 rfl ?_
      have h := h.2
      refine aw_aload_n (pc := 87) 0 dX10_addGames_87 rfl ?_
      refine aw_getI (pc := 88) 25 kcX10 dX10_addGames_88 lfX10_333 nn_233 ki_233 (by decide) rfl ?_
      refine aw_iadd (pc := 91) dX10_addGames_91 ?_
      refine aw_iast (pc := 92) (j := (τ76 233 19).toNatClampNeg) (v := ((τ76 245 (τ76 233 19).toNatClampNeg) + (τ76 233 25))) dX10_addGames_92 nn_245 ki_245 ln_245 h.1 rfl rfl ?_
      have h := h.2
      refine aw_tops (fun τ92 eτ92 => ?_)
      have h := h τ92 eτ92
      refine aw_aload_n (pc := 93) 0 dX10_addGames_93 rfl ?_
      refine aw_getR (pc := 94) 32 kcX10 dX10_addGames_94 lfX10_55 nn_233 ki_233 (by decide) rfl rf_233_32 ?_
      refine aw_aload_n (pc := 97) 0 dX10_addGames_97 rfl ?_
      refine aw_getI (pc := 98) 18 kcX10 dX10_addGames_98 lfX10_339 nn_233 ki_233 (by decide) rfl ?_
      refine aw_dup2 (pc := 101) dX10_addGames_101 rfl rfl ?_
      refine aw_iald (pc := 102) (j := (τ92 233 18).toNatClampNeg) dX10_addGames_102 nn_247 ki_247 ln_247 h.1 rfl ?_
      have h := h.2
      refine aw_aload_n (pc := 103) 0 dX10_addGames_103 rfl ?_
      refine aw_getI (pc := 104) 20 kcX10 dX10_addGames_104 lfX10_315 nn_233 ki_233 (by decide) rfl ?_
      refine aw_iadd (pc := 107) dX10_addGames_107 ?_
      refine aw_iast (pc := 108) (j := (τ92 233 18).toNatClampNeg) (v := ((τ92 247 (τ92 233 18).toNatClampNeg) + (τ92 233 20))) dX10_addGames_108 nn_247 ki_247 ln_247 h.1 rfl rfl ?_
      have h := h.2
      refine aw_tops (fun τ108 eτ108 => ?_)
      have h := h τ108 eτ108
      refine aw_aload_n (pc := 109) 0 dX10_addGames_109 rfl ?_
      refine aw_getR (pc := 110) 33 kcX10 dX10_addGames_110 lfX10_58 nn_233 ki_233 (by decide) rfl rf_233_33 ?_
      refine aw_aload_n (pc := 113) 0 dX10_addGames_113 rfl ?_
      refine aw_getI (pc := 114) 18 kcX10 dX10_addGames_114 lfX10_339 nn_233 ki_233 (by decide) rfl ?_
      refine aw_dup2 (pc := 117) dX10_addGames_117 rfl rfl ?_
      refine aw_iald (pc := 118) (j := (τ108 233 18).toNatClampNeg) dX10_addGames_118 nn_248 ki_248 ln_248 h.1 rfl ?_
      have h := h.2
      refine aw_iconst (pc := 119) 1 dX10_addGames_119 (by decide) ?_
      refine aw_iadd (pc := 120) dX10_addGames_120 ?_
      refine aw_iast (pc := 121) (j := (τ108 233 18).toNatClampNeg) (v := ((τ108 248 (τ108 233 18).toNatClampNeg) + 1)) dX10_addGames_121 nn_248 ki_248 ln_248 h.1 rfl rfl ?_
      have h := h.2
      refine aw_tops (fun τ121 eτ121 => ?_)
      have h := h τ121 eτ121
      refine aw_aload_n (pc := 122) 0 dX10_addGames_122 rfl ?_
      refine aw_getR (pc := 123) 33 kcX10 dX10_addGames_123 lfX10_58 nn_233 ki_233 (by decide) rfl rf_233_33 ?_
      refine aw_aload_n (pc := 126) 0 dX10_addGames_126 rfl ?_
      refine aw_getI (pc := 127) 19 kcX10 dX10_addGames_127 lfX10_342 nn_233 ki_233 (by decide) rfl ?_
      refine aw_dup2 (pc := 130) dX10_addGames_130 rfl rfl ?_
      refine aw_iald (pc := 131) (j := (τ121 233 19).toNatClampNeg) dX10_addGames_131 nn_248 ki_248 ln_248 h.1 rfl ?_
      have h := h.2
      refine aw_iconst (pc := 132) 1 dX10_addGames_132 (by decide) ?_
      refine aw_iadd (pc := 133) dX10_addGames_133 ?_
      refine aw_iast (pc := 134) (j := (τ121 233 19).toNatClampNeg) (v := ((τ121 248 (τ121 233 19).toNatClampNeg) + 1)) dX10_addGames_134 nn_248 ki_248 ln_248 h.1 rfl rfl ?_
      have h := h.2
      refine aw_tops (fun τ134 eτ134 => ?_)
      have h := h τ134 eτ134
      refine aw_aload_n (pc := 135) 0 dX10_addGames_135 rfl ?_
      refine aw_getR (pc := 136) 34 kcX10 dX10_addGames_136 lfX10_61 nn_233 ki_233 (by decide) rfl rf_233_34 ?_
      refine aw_bipush (pc := 139) 6 dX10_addGames_139 (by decide) ?_
      refine aw_aload_n (pc := 141) 0 dX10_addGames_141 rfl ?_
      refine aw_iload_n (pc := 142) 1 dX10_addGames_142 rfl ?_
      refine aw_iconst (pc := 143) 0 dX10_addGames_143 (by decide) ?_
      refine aw_callV (pc := 144) (As := [.int x1, .int 0]) (rest := [.int 6, .ref 249]) kcX10 nn_233 ki_233 rfl (ev_X10_ofTie l x1 0 h) mfX10_ofTie dX10_addGames_144 lmX10_252 ⟨Nat.le_refl _, Nat.le_refl _⟩ (by decide) rfl rfl (Nat.le_of_ble_eq_true rfl) (nxI (fun r144_ τ144 h => ?_))
      refine aw_imul (pc := 147) dX10_addGames_147 ?_
      refine aw_aload_n (pc := 148) 0 dX10_addGames_148 rfl ?_
      refine aw_iload_n (pc := 149) 1 dX10_addGames_149 rfl ?_
      refine aw_iconst (pc := 150) 1 dX10_addGames_150 (by decide) ?_
      refine aw_callV (pc := 151) (As := [.int x1, .int 1]) (rest := [.int (6 * r144_), .ref 249]) kcX10 nn_233 ki_233 rfl (ev_X10_ofTie l x1 1 h) mfX10_ofTie dX10_addGames_151 lmX10_252 ⟨Nat.le_refl _, Nat.le_refl _⟩ (by decide) rfl rfl (Nat.le_of_ble_eq_true rfl) (nxI (fun r151_ τ151 h => ?_))
      refine aw_iadd (pc := 154) dX10_addGames_154 ?_
      refine aw_dup2 (pc := 155) dX10_addGames_155 rfl rfl ?_
      refine aw_iald (pc := 156) (j := ((6 * r144_) + r151_).toNatClampNeg) dX10_addGames_156 nn_249 ki_249 ln_249 h.1 rfl ?_
      have h := h.2
      refine aw_aload_n (pc := 157) 0 dX10_addGames_157 rfl ?_
      refine aw_getI (pc := 158) 26 kcX10 dX10_addGames_158 lfX10_336 nn_233 ki_233 (by decide) rfl ?_
      refine aw_iadd (pc := 161) dX10_addGames_161 ?_
      refine aw_iast (pc := 162) (j := ((6 * r144_) + r151_).toNatClampNeg) (v := ((τ151 249 ((6 * r144_) + r151_).toNatClampNeg) + (τ151 233 26))) dX10_addGames_162 nn_249 ki_249 ln_249 h.1 rfl rfl ?_
      have h := h.2
      refine aw_tops (fun τ162 eτ162 => ?_)
      have h := h τ162 eτ162
      refine aw_aload_n (pc := 163) 0 dX10_addGames_163 rfl ?_
      refine aw_dup (pc := 164) dX10_addGames_164 rfl ?_
      refine aw_getI (pc := 165) 40 kcX10 dX10_addGames_165 lfX10_359 nn_233 ki_233 (by decide) rfl ?_
      refine aw_aload_n (pc := 168) 0 dX10_addGames_168 rfl ?_
      refine aw_getI (pc := 169) 26 kcX10 dX10_addGames_169 lfX10_336 nn_233 ki_233 (by decide) rfl ?_
      refine aw_iadd (pc := 172) dX10_addGames_172 ?_
      refine aw_put (pc := 173) 40 kcX10 dX10_addGames_173 lfX10_359 nn_233 ki_233 (by decide) rfl rfl rfl rfl ?_
      refine aw_tops (fun τ173 eτ173 => ?_)
      have h := h τ173 eτ173
      obtain ⟨v176, ev176⟩ : ∃ v : Int32, v = y2 + 1 := ⟨_, rfl⟩
      have h := h v176 ev176
      refine aw_iinc (pc := 176) 2 v176 [(2, .int v176), (0, .ref 233), (1, .int x1)] dX10_addGames_176 rfl (by rw [ev176]; rfl) (by decide) rfl ?_
      refine aw_goto (pc := 179) 2 dX10_addGames_179 (by decide) ?_
      refine aw_sub (L' := [(0, .ref 233), (1, .int x1), (2, .int v176)]) [1, 2, 0] rfl ?_
      exact ih v176  _ h
def wp_X10_addGames (x1 : Int32) (σ : Sg) (K : Sg → Prop) : Prop :=
  ∃ nf, b_X10_addGames_2 x1  K nf 0 σ
set_option maxRecDepth 20000 in
set_option maxHeartbeats 2000000 in
theorem ev_X10_addGames (l : Launch) (x1 : Int32) {σ : Sg} {K : Sg → Prop} (h : wp_X10_addGames x1 σ K) : Ev l yX10_addGames cX10_addGames 3 none 3 [.ref 233, .int x1] σ (qV K) := by
  refine ev_ov (by decide) (Nat.le_of_ble_eq_true rfl) ?_
  show AV l RX10 cX10_addGames 3 none 3 (qV K) 0 [(0, .ref 233), (1, .int x1)] [] σ
  refine aw_iconst (pc := 0) 0 dX10_addGames_0 (by decide) ?_
  refine aw_istore_n (pc := 1) (i := 2) [(2, .int 0), (0, .ref 233), (1, .int x1)] dX10_addGames_1 rfl (by decide) rfl ?_
  refine aw_sub (L' := [(0, .ref 233), (1, .int x1), (2, .int 0)]) [1, 2, 0] rfl ?_
  obtain ⟨nf, h⟩ := h
  exact bt_X10_addGames_2 l x1   nf 0  _ h
