def wp_X10_loser (x1 : Int32) (σ : Sg) (K : Int32 → Sg → Prop) : Prop :=
  wp_X10_isDecided x1 σ <| fun r2_ τ2 => (br (r2_ = 0) (K (-1) τ2) (wp_X10_games x1 τ2 <| fun r15_ τ15 => (wp_X10_wonOf x1 (r15_ - 1) τ15 <| fun r20_ τ20 => (wp_X10_ofTie x1 (3 - r20_) τ20 <| fun r24_ τ24 => (K r24_ τ24)))))
set_option maxRecDepth 20000 in
set_option maxHeartbeats 2000000 in
theorem ev_X10_loser (l : Launch) (x1 : Int32) {σ : Sg} {K : Int32 → Sg → Prop} (h : wp_X10_loser x1 σ K) : Ev l yX10_loser cX10_loser 2 (some .int) 3 [.ref 233, .int x1] σ (qI K) := by
  refine ev_ov (by decide) (Nat.le_of_ble_eq_true rfl) ?_
  show AV l RX10 cX10_loser 2 (some .int) 3 (qI K) 0 [(0, .ref 233), (1, .int x1)] [] σ
  refine aw_aload_n (pc := 0) 0 dX10_loser_0 rfl ?_
  refine aw_iload_n (pc := 1) 1 dX10_loser_1 rfl ?_
  refine aw_callV (pc := 2) (As := [.int x1]) (rest := []) kcX10 nn_233 ki_233 rfl (ev_X10_isDecided l x1 h) mfX10_isDecided dX10_loser_2 lmX10_261 ⟨Nat.le_refl _, Nat.le_refl _⟩ (by decide) rfl rfl (Nat.le_of_ble_eq_true rfl) (nxI (fun r2_ τ2 h => ?_))
  refine aw_if_eq (pc := 5) 30 dX10_loser_5 (by decide) (fun q => ?_) (fun q => ?_)
  · have h := h.1 q
    refine aw_iconst (pc := 30) (-1) dX10_loser_30 (by decide) ?_
    exact aw_iret (pc := 31) rfl dX10_loser_31 ⟨_, rfl, h⟩
  · have h := h.2 q
    refine aw_aload_n (pc := 8) 0 dX10_loser_8 rfl ?_
    refine aw_iload_n (pc := 9) 1 dX10_loser_9 rfl ?_
    refine aw_iconst (pc := 10) 3 dX10_loser_10 (by decide) ?_
    refine aw_aload_n (pc := 11) 0 dX10_loser_11 rfl ?_
    refine aw_iload_n (pc := 12) 1 dX10_loser_12 rfl ?_
    refine aw_aload_n (pc := 13) 0 dX10_loser_13 rfl ?_
    refine aw_iload_n (pc := 14) 1 dX10_loser_14 rfl ?_
    refine aw_callV (pc := 15) (As := [.int x1]) (rest := [.int x1, .ref 233, .int 3, .int x1, .ref 233]) kcX10 nn_233 ki_233 rfl (ev_X10_games l x1 h) mfX10_games dX10_loser_15 lmX10_255 ⟨Nat.le_refl _, Nat.le_refl _⟩ (by decide) rfl rfl (Nat.le_of_ble_eq_true rfl) (nxI (fun r15_ τ15 h => ?_))
    refine aw_iconst (pc := 18) 1 dX10_loser_18 (by decide) ?_
    refine aw_isub (pc := 19) dX10_loser_19 ?_
    refine aw_callV (pc := 20) (As := [.int x1, .int (r15_ - 1)]) (rest := [.int 3, .int x1, .ref 233]) kcX10 nn_233 ki_233 rfl (ev_X10_wonOf l x1 (r15_ - 1) h) mfX10_wonOf dX10_loser_20 lmX10_258 ⟨Nat.le_refl _, Nat.le_refl _⟩ (by decide) rfl rfl (Nat.le_of_ble_eq_true rfl) (nxI (fun r20_ τ20 h => ?_))
    refine aw_isub (pc := 23) dX10_loser_23 ?_
    refine aw_callV (pc := 24) (As := [.int x1, .int (3 - r20_)]) (rest := []) kcX10 nn_233 ki_233 rfl (ev_X10_ofTie l x1 (3 - r20_) h) mfX10_ofTie dX10_loser_24 lmX10_252 ⟨Nat.le_refl _, Nat.le_refl _⟩ (by decide) rfl rfl (Nat.le_of_ble_eq_true rfl) (nxI (fun r24_ τ24 h => ?_))
    refine aw_goto (pc := 27) 31 dX10_loser_27 (by decide) ?_
    exact aw_iret (pc := 31) rfl dX10_loser_31 ⟨_, rfl, h⟩
def b_X10_gets_18 (x1 : Int32) (x2 : Int32) (x3 : Int32)  (K : Int32 → Sg → Prop)  (σ : Sg) : Prop :=
  br (x3 = 2) (wp_X10_loser x1 σ <| fun r25_ τ25 => (br (r25_ = x2) (K 1 τ25) (K 0 τ25))) (K 0 σ)
set_option maxRecDepth 20000 in
set_option maxHeartbeats 2000000 in
theorem bt_X10_gets_18 (l : Launch) (x1 : Int32) (x2 : Int32) (x3 : Int32) {K : Int32 → Sg → Prop}     (σ : Sg) (h : b_X10_gets_18 x1 x2 x3  K  σ) : AV l RX10 cX10_gets 4 (some .boolean) 4 (qI K) 18 [(0, .ref 233), (1, .int x1), (2, .int x2), (3, .int x3)] [] σ := by
  refine aw_iload_n (pc := 18) 3 dX10_gets_18 rfl ?_
  refine aw_iconst (pc := 19) 2 dX10_gets_19 (by decide) ?_
  refine aw_icmp_ne (pc := 20) 36 dX10_gets_20 (by decide) (fun q => ?_) (fun q => ?_)
  · have h := h.2 q
    refine aw_iconst (pc := 36) 0 dX10_gets_36 (by decide) ?_
    exact aw_zret (pc := 37) rfl rfl dX10_gets_37 ⟨_, rfl, h⟩
  · have h := h.1 q
    refine aw_aload_n (pc := 23) 0 dX10_gets_23 rfl ?_
    refine aw_iload_n (pc := 24) 1 dX10_gets_24 rfl ?_
    refine aw_callV (pc := 25) (As := [.int x1]) (rest := []) kcX10 nn_233 ki_233 rfl (ev_X10_loser l x1 h) mfX10_loser dX10_gets_25 lmX10_369 ⟨Nat.le_refl _, Nat.le_refl _⟩ (by decide) rfl rfl (Nat.le_of_ble_eq_true rfl) (nxI (fun r25_ τ25 h => ?_))
    refine aw_iload_n (pc := 28) 2 dX10_gets_28 rfl ?_
    refine aw_icmp_ne (pc := 29) 36 dX10_gets_29 (by decide) (fun q => ?_) (fun q => ?_)
    · have h := h.2 q
      refine aw_iconst (pc := 36) 0 dX10_gets_36 (by decide) ?_
      exact aw_zret (pc := 37) rfl rfl dX10_gets_37 ⟨_, rfl, h⟩
    · have h := h.1 q
      refine aw_iconst (pc := 32) 1 dX10_gets_32 (by decide) ?_
      refine aw_goto (pc := 33) 37 dX10_gets_33 (by decide) ?_
      exact aw_zret (pc := 37) rfl rfl dX10_gets_37 ⟨_, rfl, h⟩
def wp_X10_gets (x1 : Int32) (x2 : Int32) (x3 : Int32) (σ : Sg) (K : Int32 → Sg → Prop) : Prop :=
  br (x3 = 1) (K 1 σ) (br (x3 = 0) (wp_X10_winner x1 σ <| fun r11_ τ11 => (br (r11_ = x2) (K 1 τ11) (b_X10_gets_18 x1 x2 x3  K  τ11))) (b_X10_gets_18 x1 x2 x3  K  σ))
set_option maxRecDepth 20000 in
set_option maxHeartbeats 2000000 in
theorem ev_X10_gets (l : Launch) (x1 : Int32) (x2 : Int32) (x3 : Int32) {σ : Sg} {K : Int32 → Sg → Prop} (h : wp_X10_gets x1 x2 x3 σ K) : Ev l yX10_gets cX10_gets 4 (some .boolean) 4 [.ref 233, .int x1, .int x2, .int x3] σ (qI K) := by
  refine ev_ov (by decide) (Nat.le_of_ble_eq_true rfl) ?_
  show AV l RX10 cX10_gets 4 (some .boolean) 4 (qI K) 0 [(0, .ref 233), (1, .int x1), (2, .int x2), (3, .int x3)] [] σ
  refine aw_iload_n (pc := 0) 3 dX10_gets_0 rfl ?_
  refine aw_iconst (pc := 1) 1 dX10_gets_1 (by decide) ?_
  refine aw_icmp_eq (pc := 2) 32 dX10_gets_2 (by decide) (fun q => ?_) (fun q => ?_)
  · have h := h.1 q
    refine aw_iconst (pc := 32) 1 dX10_gets_32 (by decide) ?_
    refine aw_goto (pc := 33) 37 dX10_gets_33 (by decide) ?_
    exact aw_zret (pc := 37) rfl rfl dX10_gets_37 ⟨_, rfl, h⟩
  · have h := h.2 q
    refine aw_iload_n (pc := 5) 3 dX10_gets_5 rfl ?_
    refine aw_if_ne (pc := 6) 18 dX10_gets_6 (by decide) (fun q => ?_) (fun q => ?_)
    · have h := h.2 q
      exact bt_X10_gets_18 l x1 x2 x3     _ h
    · have h := h.1 q
      refine aw_aload_n (pc := 9) 0 dX10_gets_9 rfl ?_
      refine aw_iload_n (pc := 10) 1 dX10_gets_10 rfl ?_
      refine aw_callV (pc := 11) (As := [.int x1]) (rest := []) kcX10 nn_233 ki_233 rfl (ev_X10_winner l x1 h) mfX10_winner dX10_gets_11 lmX10_268 ⟨Nat.le_refl _, Nat.le_refl _⟩ (by decide) rfl rfl (Nat.le_of_ble_eq_true rfl) (nxI (fun r11_ τ11 h => ?_))
      refine aw_iload_n (pc := 14) 2 dX10_gets_14 rfl ?_
      refine aw_icmp_eq (pc := 15) 32 dX10_gets_15 (by decide) (fun q => ?_) (fun q => ?_)
      · have h := h.1 q
        refine aw_iconst (pc := 32) 1 dX10_gets_32 (by decide) ?_
        refine aw_goto (pc := 33) 37 dX10_gets_33 (by decide) ?_
        exact aw_zret (pc := 37) rfl rfl dX10_gets_37 ⟨_, rfl, h⟩
      · have h := h.2 q
        exact bt_X10_gets_18 l x1 x2 x3     _ h
def b_X10_dealOut_162 (x1 : Int32) (x2 : Int32) (B88 : Int32 → Int32 → Int32 → Sg → Prop) (B102 : Int32 → Int32 → Int32 → Int32 → Sg → Prop) (K : Sg → Prop) (y3 : Int32) (y4 : Int32) (y6 : Int32) (y7 : Int32) (z0 : Int32) (z1 : Int32) (z2 : Int32) (σ : Sg) : Prop :=
  vp_in z2 12 ∧ (∀ τ163 : Sg, τ163 = up σ 246 z2.toNatClampNeg (z1 + z0) → (∀ v164 : Int32, v164 = y7 + 1 → (B102 y3 y4 y6 v164 τ163)))
set_option maxRecDepth 20000 in
set_option maxHeartbeats 2000000 in
theorem bt_X10_dealOut_162 (l : Launch) (x1 : Int32) (x2 : Int32) {K : Sg → Prop} (B88 : Int32 → Int32 → Int32 → Sg → Prop) (B102 : Int32 → Int32 → Int32 → Int32 → Sg → Prop) (hB88 : ∀ (y3 : Int32) (y4 : Int32) (y6 : Int32)  (τ : Sg), B88 y3 y4 y6 τ → AV l RX10 cX10_dealOut 8 none 5 (qV K) 88 [(0, .ref 233), (1, .int x1), (2, .int x2), (3, .int y3), (4, .int y4), (6, .int y6)] [] τ) (hB102 : ∀ (y3 : Int32) (y4 : Int32) (y6 : Int32) (y7 : Int32)  (τ : Sg), B102 y3 y4 y6 y7 τ → AV l RX10 cX10_dealOut 8 none 5 (qV K) 102 [(0, .ref 233), (1, .int x1), (2, .int x2), (3, .int y3), (4, .int y4), (6, .int y6), (7, .int y7)] [] τ) (y3 : Int32) (y4 : Int32) (y6 : Int32) (y7 : Int32) (z0 : Int32) (z1 : Int32) (z2 : Int32)  (σ : Sg) (h : b_X10_dealOut_162 x1 x2 B88 B102 K y3 y4 y6 y7 z0 z1 z2 σ) : AV l RX10 cX10_dealOut 8 none 5 (qV K) 162 [(0, .ref 233), (1, .int x1), (2, .int x2), (3, .int y3), (4, .int y4), (6, .int y6), (7, .int y7)] [.int z0, .int z1, .int z2, .ref 246] σ := by
  refine aw_iadd (pc := 162) dX10_dealOut_162 ?_
  refine aw_iast (pc := 163) (j := z2.toNatClampNeg) (v := (z1 + z0)) dX10_dealOut_163 nn_246 ki_246 ln_246 h.1 rfl rfl ?_
  have h := h.2
  refine aw_tops (fun τ163 eτ163 => ?_)
  have h := h τ163 eτ163
  obtain ⟨v164, ev164⟩ : ∃ v : Int32, v = y7 + 1 := ⟨_, rfl⟩
  have h := h v164 ev164
  refine aw_iinc (pc := 164) 6 v164 [(7, .int v164), (0, .ref 233), (1, .int x1), (2, .int x2), (3, .int y3), (4, .int y4), (6, .int y6)] dX10_dealOut_164 rfl (by rw [ev164]; rfl) (by decide) rfl ?_
  refine aw_goto (pc := 167) 102 dX10_dealOut_167 (by decide) ?_
  refine aw_sub (L' := [(0, .ref 233), (1, .int x1), (2, .int x2), (3, .int y3), (4, .int y4), (6, .int y6), (7, .int v164)]) [1, 2, 3, 4, 5, 6, 0] rfl ?_
  exact hB102 y3 y4 y6 v164  _ h
def b_X10_dealOut_102 (x1 : Int32) (x2 : Int32) (B88 : Int32 → Int32 → Int32 → Sg → Prop) (K : Sg → Prop) : Nat → Int32 → Int32 → Int32 → Int32 → Sg → Prop
  | 0, _, _, _, _, _ => False
  | n + 1, y3, y4, y6, y7, σ =>
  br (4 ≤ y7) (∀ v170 : Int32, v170 = y6 + 1 → (B88 y3 y4 v170 σ)) (wp_X10_isOf y6 x1 x2 σ <| fun r113_ τ113 => (br (r113_ = 0) (∀ v170 : Int32, v170 = y6 + 1 → (B88 y3 y4 v170 τ113)) (wp_X10_ofTie y6 y7 τ113 <| fun r128_ τ128 => (vp_in r128_ 12 ∧ (wp_X10_ofTie y6 y7 τ128 <| fun r141_ τ141 => (wp_X10_gets y6 r141_ y4 τ141 <| fun r146_ τ146 => (br (r146_ = 0) (b_X10_dealOut_162 x1 x2 B88 (fun y3' y4' y6' y7' τ => b_X10_dealOut_102 x1 x2 B88 K n y3' y4' y6' y7' τ) K y3 y4 y6 y7 0 (τ128 246 r128_.toNatClampNeg) r128_ τ146) (vp_in y3 24 ∧ (b_X10_dealOut_162 x1 x2 B88 (fun y3' y4' y6' y7' τ => b_X10_dealOut_102 x1 x2 B88 K n y3' y4' y6' y7' τ) K y3 y4 y6 y7 (τ146 251 y3.toNatClampNeg) (τ128 246 r128_.toNatClampNeg) r128_ τ146)))))))))
set_option maxRecDepth 20000 in
set_option maxHeartbeats 2000000 in
theorem bt_X10_dealOut_102 (l : Launch) (x1 : Int32) (x2 : Int32) {K : Sg → Prop} (B88 : Int32 → Int32 → Int32 → Sg → Prop) (hB88 : ∀ (y3 : Int32) (y4 : Int32) (y6 : Int32)  (τ : Sg), B88 y3 y4 y6 τ → AV l RX10 cX10_dealOut 8 none 5 (qV K) 88 [(0, .ref 233), (1, .int x1), (2, .int x2), (3, .int y3), (4, .int y4), (6, .int y6)] [] τ) : ∀ (n : Nat) (y3 : Int32) (y4 : Int32) (y6 : Int32) (y7 : Int32)  (σ : Sg), b_X10_dealOut_102 x1 x2 B88 K n y3 y4 y6 y7 σ → AV l RX10 cX10_dealOut 8 none 5 (qV K) 102 [(0, .ref 233), (1, .int x1), (2, .int x2), (3, .int y3), (4, .int y4), (6, .int y6), (7, .int y7)] [] σ := by
  intro n
  induction n with
  | zero => intro y3 y4 y6 y7 σ h; exact h.elim
  | succ n ih =>
    intro y3 y4 y6 y7 σ h
    refine aw_iload (pc := 102) 6 dX10_dealOut_102 rfl ?_
    refine aw_iconst (pc := 104) 4 dX10_dealOut_104 (by decide) ?_
    refine aw_icmp_ge (pc := 105) 170 dX10_dealOut_105 (by decide) (fun q => ?_) (fun q => ?_)
    · have h := h.1 q
      obtain ⟨v170, ev170⟩ : ∃ v : Int32, v = y6 + 1 := ⟨_, rfl⟩
      have h := h v170 ev170
      refine aw_iinc (pc := 170) 5 v170 [(6, .int v170), (0, .ref 233), (1, .int x1), (2, .int x2), (3, .int y3), (4, .int y4), (7, .int y7)] dX10_dealOut_170 rfl (by rw [ev170]; rfl) (by decide) rfl ?_
      refine aw_goto (pc := 173) 88 dX10_dealOut_173 (by decide) ?_
      refine aw_sub (L' := [(0, .ref 233), (1, .int x1), (2, .int x2), (3, .int y3), (4, .int y4), (6, .int v170)]) [1, 2, 3, 4, 5, 0] rfl ?_
      exact hB88 y3 y4 v170  _ h
    · have h := h.2 q
      refine aw_aload_n (pc := 108) 0 dX10_dealOut_108 rfl ?_
      refine aw_iload (pc := 109) 5 dX10_dealOut_109 rfl ?_
      refine aw_iload_n (pc := 111) 1 dX10_dealOut_111 rfl ?_
      refine aw_iload_n (pc := 112) 2 dX10_dealOut_112 rfl ?_
      refine aw_callV (pc := 113) (As := [.int y6, .int x1, .int x2]) (rest := []) kcX10 nn_233 ki_233 rfl (ev_X10_isOf l y6 x1 x2 h) mfX10_isOf dX10_dealOut_113 lmX10_264 ⟨Nat.le_refl _, Nat.le_refl _⟩ (by decide) rfl rfl (Nat.le_of_ble_eq_true rfl) (nxI (fun r113_ τ113 h => ?_))
      refine aw_if_eq (pc := 116) 170 dX10_dealOut_116 (by decide) (fun q => ?_) (fun q => ?_)
      · have h := h.1 q
        obtain ⟨v170, ev170⟩ : ∃ v : Int32, v = y6 + 1 := ⟨_, rfl⟩
        have h := h v170 ev170
        refine aw_iinc (pc := 170) 5 v170 [(6, .int v170), (0, .ref 233), (1, .int x1), (2, .int x2), (3, .int y3), (4, .int y4), (7, .int y7)] dX10_dealOut_170 rfl (by rw [ev170]; rfl) (by decide) rfl ?_
        refine aw_goto (pc := 173) 88 dX10_dealOut_173 (by decide) ?_
        refine aw_sub (L' := [(0, .ref 233), (1, .int x1), (2, .int x2), (3, .int y3), (4, .int y4), (6, .int v170)]) [1, 2, 3, 4, 5, 0] rfl ?_
        exact hB88 y3 y4 v170  _ h
      · have h := h.2 q
        refine aw_aload_n (pc := 119) 0 dX10_dealOut_119 rfl ?_
        refine aw_getR (pc := 120) 31 kcX10 dX10_dealOut_120 lfX10_52 nn_233 ki_233 (by decide) rfl rf_233_31 ?_
        refine aw_aload_n (pc := 123) 0 dX10_dealOut_123 rfl ?_
        refine aw_iload (pc := 124) 5 dX10_dealOut_124 rfl ?_
        refine aw_iload (pc := 126) 6 dX10_dealOut_126 rfl ?_
        refine aw_callV (pc := 128) (As := [.int y6, .int y7]) (rest := [.ref 246]) kcX10 nn_233 ki_233 rfl (ev_X10_ofTie l y6 y7 h) mfX10_ofTie dX10_dealOut_128 lmX10_252 ⟨Nat.le_refl _, Nat.le_refl _⟩ (by decide) rfl rfl (Nat.le_of_ble_eq_true rfl) (nxI (fun r128_ τ128 h => ?_))
        refine aw_dup2 (pc := 131) dX10_dealOut_131 rfl rfl ?_
        refine aw_iald (pc := 132) (j := r128_.toNatClampNeg) dX10_dealOut_132 nn_246 ki_246 ln_246 h.1 rfl ?_
        have h := h.2
        refine aw_aload_n (pc := 133) 0 dX10_dealOut_133 rfl ?_
        refine aw_iload (pc := 134) 5 dX10_dealOut_134 rfl ?_
        refine aw_aload_n (pc := 136) 0 dX10_dealOut_136 rfl ?_
        refine aw_iload (pc := 137) 5 dX10_dealOut_137 rfl ?_
        refine aw_iload (pc := 139) 6 dX10_dealOut_139 rfl ?_
        refine aw_callV (pc := 141) (As := [.int y6, .int y7]) (rest := [.int y6, .ref 233, .int (τ128 246 r128_.toNatClampNeg), .int r128_, .ref 246]) kcX10 nn_233 ki_233 rfl (ev_X10_ofTie l y6 y7 h) mfX10_ofTie dX10_dealOut_141 lmX10_252 ⟨Nat.le_refl _, Nat.le_refl _⟩ (by decide) rfl rfl (Nat.le_of_ble_eq_true rfl) (nxI (fun r141_ τ141 h => ?_))
        refine aw_iload (pc := 144) 4 dX10_dealOut_144 rfl ?_
        refine aw_callV (pc := 146) (As := [.int y6, .int r141_, .int y4]) (rest := [.int (τ128 246 r128_.toNatClampNeg), .int r128_, .ref 246]) kcX10 nn_233 ki_233 rfl (ev_X10_gets l y6 r141_ y4 h) mfX10_gets dX10_dealOut_146 lmX10_372 ⟨Nat.le_refl _, Nat.le_refl _⟩ (by decide) rfl rfl (Nat.le_of_ble_eq_true rfl) (nxI (fun r146_ τ146 h => ?_))
        refine aw_if_eq (pc := 149) 161 dX10_dealOut_149 (by decide) (fun q => ?_) (fun q => ?_)
        · have h := h.1 q
          refine aw_iconst (pc := 161) 0 dX10_dealOut_161 (by decide) ?_
          exact bt_X10_dealOut_162 l x1 x2 B88 (fun y3' y4' y6' y7' τ => b_X10_dealOut_102 x1 x2 B88 K n y3' y4' y6' y7' τ) hB88 (fun y3' y4' y6' y7' τ h => ih y3' y4' y6' y7' τ h) y3 y4 y6 y7 0 (τ128 246 r128_.toNatClampNeg) r128_  _ h
        · have h := h.2 q
          refine aw_aload_n (pc := 152) 0 dX10_dealOut_152 rfl ?_
          refine aw_getR (pc := 153) 36 kcX10 dX10_dealOut_153 lfX10_67 nn_233 ki_233 (by decide) rfl rf_233_36 ?_
          refine aw_iload_n (pc := 156) 3 dX10_dealOut_156 rfl ?_
          refine aw_iald (pc := 157) (j := y3.toNatClampNeg) dX10_dealOut_157 nn_251 ki_251 ln_251 h.1 rfl ?_
          have h := h.2
          refine aw_goto (pc := 158) 162 dX10_dealOut_158 (by decide) ?_
          exact bt_X10_dealOut_162 l x1 x2 B88 (fun y3' y4' y6' y7' τ => b_X10_dealOut_102 x1 x2 B88 K n y3' y4' y6' y7' τ) hB88 (fun y3' y4' y6' y7' τ h => ih y3' y4' y6' y7' τ h) y3 y4 y6 y7 (τ146 251 y3.toNatClampNeg) (τ128 246 r128_.toNatClampNeg) r128_  _ h
def b_X10_dealOut_88 (x1 : Int32) (x2 : Int32)  (K : Sg → Prop) : Nat → Int32 → Int32 → Int32 → Sg → Prop
  | 0, _, _, _, _ => False
  | n + 1, y3, y4, y6, σ =>
  br ((σ 236 0) ≤ y6) (K σ) (∃ nf, b_X10_dealOut_102 x1 x2 (fun y3' y4' y6' τ => b_X10_dealOut_88 x1 x2  K n y3' y4' y6' τ) K nf y3 y4 y6 2 σ)
set_option maxRecDepth 20000 in
set_option maxHeartbeats 2000000 in
theorem bt_X10_dealOut_88 (l : Launch) (x1 : Int32) (x2 : Int32) {K : Sg → Prop}   : ∀ (n : Nat) (y3 : Int32) (y4 : Int32) (y6 : Int32)  (σ : Sg), b_X10_dealOut_88 x1 x2  K n y3 y4 y6 σ → AV l RX10 cX10_dealOut 8 none 5 (qV K) 88 [(0, .ref 233), (1, .int x1), (2, .int x2), (3, .int y3), (4, .int y4), (6, .int y6)] [] σ := by
  intro n
  induction n with
  | zero => intro y3 y4 y6 σ h; exact h.elim
  | succ n ih =>
    intro y3 y4 y6 σ h
    refine aw_iload (pc := 88) 5 dX10_dealOut_88 rfl ?_
    refine aw_aload_n (pc := 90) 0 dX10_dealOut_90 rfl ?_
    refine aw_getR (pc := 91) 3 kcX10 dX10_dealOut_91 lfX10_16 nn_233 ki_233 (by decide) rfl rf_233_3 ?_
    refine aw_iconst (pc := 94) 0 dX10_dealOut_94 (by decide) ?_
    refine aw_iald (pc := 95) (j := 0) dX10_dealOut_95 nn_236 ki_236 ln_236 (show vp_in _ _ by unfold vp_in; decide) (by decide) ?_
    refine aw_icmp_ge (pc := 96) 176 dX10_dealOut_96 (by decide) (fun q => ?_) (fun q => ?_)
    · have h := h.1 q
      exact aw_vret (pc := 176) rfl dX10_dealOut_176 ⟨rfl, h⟩
    · have h := h.2 q
      refine aw_iconst (pc := 99) 2 dX10_dealOut_99 (by decide) ?_
      refine aw_istore (pc := 100) [(7, .int 2), (0, .ref 233), (1, .int x1), (2, .int x2), (3, .int y3), (4, .int y4), (6, .int y6)] dX10_dealOut_100 (by decide) rfl ?_
      refine aw_sub (L' := [(0, .ref 233), (1, .int x1), (2, .int x2), (3, .int y3), (4, .int y4), (6, .int y6), (7, .int 2)]) [1, 2, 3, 4, 5, 6, 0] rfl ?_
      obtain ⟨nf, h⟩ := h
      exact bt_X10_dealOut_102 l x1 x2 (fun y3' y4' y6' τ => b_X10_dealOut_88 x1 x2  K n y3' y4' y6' τ) (fun y3' y4' y6' τ h => ih y3' y4' y6' τ h) nf y3 y4 y6 2  _ h
def b_X10_dealOut_84 (x1 : Int32) (x2 : Int32)  (K : Sg → Prop) (y3 : Int32) (y4 : Int32) (z0 : Int32) (z1 : Int32) (σ : Sg) : Prop :=
  vp_in z1 24 ∧ (∀ τ84 : Sg, τ84 = up σ 251 z1.toNatClampNeg z0 → (∃ nf, b_X10_dealOut_88 x1 x2  K nf y3 y4 0 τ84))
set_option maxRecDepth 20000 in
set_option maxHeartbeats 2000000 in
theorem bt_X10_dealOut_84 (l : Launch) (x1 : Int32) (x2 : Int32) {K : Sg → Prop}   (y3 : Int32) (y4 : Int32) (z0 : Int32) (z1 : Int32)  (σ : Sg) (h : b_X10_dealOut_84 x1 x2  K y3 y4 z0 z1 σ) : AV l RX10 cX10_dealOut 8 none 5 (qV K) 84 [(0, .ref 233), (1, .int x1), (2, .int x2), (3, .int y3), (4, .int y4)] [.int z0, .int z1, .ref 251] σ := by
  refine aw_iast (pc := 84) (j := z1.toNatClampNeg) (v := z0) dX10_dealOut_84 nn_251 ki_251 ln_251 h.1 rfl rfl ?_
  have h := h.2
  refine aw_tops (fun τ84 eτ84 => ?_)
  have h := h τ84 eτ84
  refine aw_iconst (pc := 85) 0 dX10_dealOut_85 (by decide) ?_
  refine aw_istore (pc := 86) [(6, .int 0), (0, .ref 233), (1, .int x1), (2, .int x2), (3, .int y3), (4, .int y4)] dX10_dealOut_86 (by decide) rfl ?_
  refine aw_sub (L' := [(0, .ref 233), (1, .int x1), (2, .int x2), (3, .int y3), (4, .int y4), (6, .int 0)]) [1, 2, 3, 4, 5, 0] rfl ?_
  obtain ⟨nf, h⟩ := h
  exact bt_X10_dealOut_88 l x1 x2   nf y3 y4 0  _ h
def b_X10_dealOut_51 (x1 : Int32) (x2 : Int32)  (K : Sg → Prop) (y3 : Int32) (y4 : Int32) (z0 : Int32) (σ : Sg) : Prop :=
  vp_in y3 24 ∧ (∀ τ60 : Sg, τ60 = up σ 252 y3.toNatClampNeg z0 → (br (z0 = 0) (b_X10_dealOut_84 x1 x2  K y3 y4 0 y3 τ60) (vp_in y3 24 ∧ (¬ z0 = 0 ∧ (b_X10_dealOut_84 x1 x2  K y3 y4 ((τ60 249 y3.toNatClampNeg) / z0) y3 τ60)))))
set_option maxRecDepth 20000 in
set_option maxHeartbeats 2000000 in
theorem bt_X10_dealOut_51 (l : Launch) (x1 : Int32) (x2 : Int32) {K : Sg → Prop}   (y3 : Int32) (y4 : Int32) (z0 : Int32)  (σ : Sg) (h : b_X10_dealOut_51 x1 x2  K y3 y4 z0 σ) : AV l RX10 cX10_dealOut 8 none 5 (qV K) 51 [(0, .ref 233), (1, .int x1), (2, .int x2), (3, .int y3), (4, .int y4)] [.int z0] σ := by
  refine aw_istore (pc := 51) [(5, .int z0), (0, .ref 233), (1, .int x1), (2, .int x2), (3, .int y3), (4, .int y4)] dX10_dealOut_51 (by decide) rfl ?_
  refine aw_aload_n (pc := 53) 1 dX10_dealOut_53 rfl ?_
  refine aw_getR (pc := 54) 37 kcX10 dX10_dealOut_54 lfX10_70 nn_233 ki_233 (by decide) rfl rf_233_37 ?_
  refine aw_iload_n (pc := 57) 4 dX10_dealOut_57 rfl ?_
  refine aw_iload (pc := 58) 0 dX10_dealOut_58 rfl ?_
  refine aw_iast (pc := 60) (j := y3.toNatClampNeg) (v := z0) dX10_dealOut_60 nn_252 ki_252 ln_252 h.1 rfl rfl ?_
  have h := h.2
  refine aw_tops (fun τ60 eτ60 => ?_)
  have h := h τ60 eτ60
  refine aw_aload_n (pc := 61) 1 dX10_dealOut_61 rfl ?_
  refine aw_getR (pc := 62) 36 kcX10 dX10_dealOut_62 lfX10_67 nn_233 ki_233 (by decide) rfl rf_233_36 ?_
  refine aw_iload_n (pc := 65) 4 dX10_dealOut_65 rfl ?_
  refine aw_iload (pc := 66) 0 dX10_dealOut_66 rfl ?_
  refine aw_if_ne (pc := 68) 75 dX10_dealOut_68 (by decide) (fun q => ?_) (fun q => ?_)
  · have h := h.2 q
    refine aw_aload_n (pc := 75) 1 dX10_dealOut_75 rfl ?_
    refine aw_getR (pc := 76) 34 kcX10 dX10_dealOut_76 lfX10_61 nn_233 ki_233 (by decide) rfl rf_233_34 ?_
    refine aw_iload_n (pc := 79) 4 dX10_dealOut_79 rfl ?_
    refine aw_iald (pc := 80) (j := y3.toNatClampNeg) dX10_dealOut_80 nn_249 ki_249 ln_249 h.1 rfl ?_
    have h := h.2
    refine aw_iload (pc := 81) 0 dX10_dealOut_81 rfl ?_
    refine aw_idiv (pc := 83) dX10_dealOut_83 h.1 ?_
    have h := h.2
    refine aw_sub (L' := [(0, .ref 233), (1, .int x1), (2, .int x2), (3, .int y3), (4, .int y4)]) [1, 2, 3, 4, 5] rfl ?_
    exact bt_X10_dealOut_84 l x1 x2   y3 y4 ((τ60 249 y3.toNatClampNeg) / z0) y3  _ h
  · have h := h.1 q
    refine aw_iconst (pc := 71) 0 dX10_dealOut_71 (by decide) ?_
    refine aw_goto (pc := 72) 84 dX10_dealOut_72 (by decide) ?_
    refine aw_sub (L' := [(0, .ref 233), (1, .int x1), (2, .int x2), (3, .int y3), (4, .int y4)]) [1, 2, 3, 4, 5] rfl ?_
    exact bt_X10_dealOut_84 l x1 x2   y3 y4 0 y3  _ h
def wp_X10_dealOut (x1 : Int32) (x2 : Int32) (σ : Sg) (K : Sg → Prop) : Prop :=
  ∀ v6 : Int32, v6 = (6 * x1) + x2 → (wp_X10_ofCup x1 (11 + x2) σ <| fun r13_ τ13 => (br (r13_ = 3) (b_X10_dealOut_51 x1 x2  K v6 r13_ 0 τ13) (br (r13_ = 1) (wp_X10_tiesOf x1 x2 τ13 <| fun r38_ τ38 => (b_X10_dealOut_51 x1 x2  K v6 r13_ (2 * r38_) τ38)) (wp_X10_tiesOf x1 x2 τ13 <| fun r48_ τ48 => (b_X10_dealOut_51 x1 x2  K v6 r13_ r48_ τ48)))))
set_option maxRecDepth 20000 in
set_option maxHeartbeats 2000000 in
theorem ev_X10_dealOut (l : Launch) (x1 : Int32) (x2 : Int32) {σ : Sg} {K : Sg → Prop} (h : wp_X10_dealOut x1 x2 σ K) : Ev l yX10_dealOut cX10_dealOut 8 none 5 [.ref 233, .int x1, .int x2] σ (qV K) := by
  refine ev_ov (by decide) (Nat.le_of_ble_eq_true rfl) ?_
  show AV l RX10 cX10_dealOut 8 none 5 (qV K) 0 [(0, .ref 233), (1, .int x1), (2, .int x2)] [] σ
  refine aw_bipush (pc := 0) 6 dX10_dealOut_0 (by decide) ?_
  refine aw_iload_n (pc := 2) 1 dX10_dealOut_2 rfl ?_
  refine aw_imul (pc := 3) dX10_dealOut_3 ?_
  refine aw_iload_n (pc := 4) 2 dX10_dealOut_4 rfl ?_
  refine aw_iadd (pc := 5) dX10_dealOut_5 ?_
  refine aw_topi (fun v6 ev6 => ?_)
  have h := h v6 ev6
  refine aw_istore_n (pc := 6) (i := 3) [(3, .int v6), (0, .ref 233), (1, .int x1), (2, .int x2)] dX10_dealOut_6 rfl (by decide) rfl ?_
  refine aw_aload_n (pc := 7) 1 dX10_dealOut_7 rfl ?_
  refine aw_iload_n (pc := 8) 2 dX10_dealOut_8 rfl ?_
  refine aw_bipush (pc := 9) 11 dX10_dealOut_9 (by decide) ?_
  refine aw_iload_n (pc := 11) 3 dX10_dealOut_11 rfl ?_
  refine aw_iadd (pc := 12) dX10_dealOut_12 ?_
  refine aw_callV (pc := 13) (As := [.int x1, .int (11 + x2)]) (rest := []) kcX10 nn_233 ki_233 rfl (ev_X10_ofCup l x1 (11 + x2) h) mfX10_ofCup dX10_dealOut_13 lmX10_301 ⟨Nat.le_refl _, Nat.le_refl _⟩ (by decide) rfl rfl (Nat.le_of_ble_eq_true rfl) (nxI (fun r13_ τ13 h => ?_))
  refine aw_istore (pc := 16) [(4, .int r13_), (3, .int v6), (0, .ref 233), (1, .int x1), (2, .int x2)] dX10_dealOut_16 (by decide) rfl ?_
  refine aw_iload (pc := 18) 0 dX10_dealOut_18 rfl ?_
  refine aw_iconst (pc := 20) 3 dX10_dealOut_20 (by decide) ?_
  refine aw_icmp_ne (pc := 21) 28 dX10_dealOut_21 (by decide) (fun q => ?_) (fun q => ?_)
  · have h := h.2 q
    refine aw_iload (pc := 28) 0 dX10_dealOut_28 rfl ?_
    refine aw_iconst (pc := 30) 1 dX10_dealOut_30 (by decide) ?_
    refine aw_icmp_ne (pc := 31) 45 dX10_dealOut_31 (by decide) (fun q => ?_) (fun q => ?_)
    · have h := h.2 q
      refine aw_aload_n (pc := 45) 2 dX10_dealOut_45 rfl ?_
      refine aw_iload_n (pc := 46) 3 dX10_dealOut_46 rfl ?_
      refine aw_iload_n (pc := 47) 4 dX10_dealOut_47 rfl ?_
      refine aw_callV (pc := 48) (As := [.int x1, .int x2]) (rest := []) kcX10 nn_233 ki_233 rfl (ev_X10_tiesOf l x1 x2 h) mfX10_tiesOf dX10_dealOut_48 lmX10_304 ⟨Nat.le_refl _, Nat.le_refl _⟩ (by decide) rfl rfl (Nat.le_of_ble_eq_true rfl) (nxI (fun r48_ τ48 h => ?_))
      refine aw_sub (L' := [(0, .ref 233), (1, .int x1), (2, .int x2), (3, .int v6), (4, .int r13_)]) [2, 3, 4, 1, 0] rfl ?_
      exact bt_X10_dealOut_51 l x1 x2   v6 r13_ r48_  _ h
    · have h := h.1 q
      refine aw_iconst (pc := 34) 2 dX10_dealOut_34 (by decide) ?_
      refine aw_aload_n (pc := 35) 2 dX10_dealOut_35 rfl ?_
      refine aw_iload_n (pc := 36) 3 dX10_dealOut_36 rfl ?_
      refine aw_iload_n (pc := 37) 4 dX10_dealOut_37 rfl ?_
      refine aw_callV (pc := 38) (As := [.int x1, .int x2]) (rest := [.int 2]) kcX10 nn_233 ki_233 rfl (ev_X10_tiesOf l x1 x2 h) mfX10_tiesOf dX10_dealOut_38 lmX10_304 ⟨Nat.le_refl _, Nat.le_refl _⟩ (by decide) rfl rfl (Nat.le_of_ble_eq_true rfl) (nxI (fun r38_ τ38 h => ?_))
      refine aw_imul (pc := 41) dX10_dealOut_41 ?_
      refine aw_goto (pc := 42) 51 dX10_dealOut_42 (by decide) ?_
      refine aw_sub (L' := [(0, .ref 233), (1, .int x1), (2, .int x2), (3, .int v6), (4, .int r13_)]) [2, 3, 4, 1, 0] rfl ?_
      exact bt_X10_dealOut_51 l x1 x2   v6 r13_ (2 * r38_)  _ h
  · have h := h.1 q
    refine aw_iconst (pc := 24) 0 dX10_dealOut_24 (by decide) ?_
    refine aw_goto (pc := 25) 51 dX10_dealOut_25 (by decide) ?_
    refine aw_sub (L' := [(0, .ref 233), (1, .int x1), (2, .int x2), (3, .int v6), (4, .int r13_)]) [2, 3, 4, 1, 0] rfl ?_
    exact bt_X10_dealOut_51 l x1 x2   v6 r13_ 0  _ h
def b_X10_layPools_4 (x1 : Int32)  (K : Sg → Prop) : Nat → Int32 → Int32 → Sg → Prop
  | 0, _, _, _ => False
  | n + 1, y2, y3, σ =>
  br (6 ≤ y3) (vp_in x1 4 ∧ (∀ τ90 : Sg, τ90 = up σ 253 x1.toNatClampNeg y2 → (K τ90))) (∀ v16 : Int32, v16 = (6 * x1) + y3 → (vp_in v16 24 ∧ (∀ τ25 : Sg, τ25 = up σ 250 v16.toNatClampNeg y2 → (vp_in v16 24 ∧ (vp_in v16 24 ∧ (∀ τ36 : Sg, τ36 = up τ25 249 v16.toNatClampNeg ((τ25 249 v16.toNatClampNeg) + y2) → (wp_X10_isClosed x1 y3 τ36 <| fun r42_ τ42 => (br (r42_ = 0) (∀ v78 : Int32, v78 = y3 + 1 → (b_X10_layPools_4 x1  K n 0 v78 τ42)) (wp_X10_dealOut x1 y3 τ42 <| fun τ51 => (vp_in v16 24 ∧ (vp_in v16 24 ∧ (vp_in v16 24 ∧ (∀ v77 : Int32, v77 = (τ51 249 v16.toNatClampNeg) - ((τ51 251 v16.toNatClampNeg) * (τ51 252 v16.toNatClampNeg)) → (∀ v78 : Int32, v78 = y3 + 1 → (b_X10_layPools_4 x1  K n v77 v78 τ51)))))))))))))))
set_option maxRecDepth 20000 in
set_option maxHeartbeats 2000000 in
theorem bt_X10_layPools_4 (l : Launch) (x1 : Int32) {K : Sg → Prop}   : ∀ (n : Nat) (y2 : Int32) (y3 : Int32)  (σ : Sg), b_X10_layPools_4 x1  K n y2 y3 σ → AV l RX10 cX10_layPools 5 none 6 (qV K) 4 [(0, .ref 233), (1, .int x1), (2, .int y2), (3, .int y3)] [] σ := by
  intro n
  induction n with
  | zero => intro y2 y3 σ h; exact h.elim
  | succ n ih =>
    intro y2 y3 σ h
    refine aw_iload_n (pc := 4) 3 dX10_layPools_4 rfl ?_
    refine aw_bipush (pc := 5) 6 dX10_layPools_5 (by decide) ?_
    refine aw_icmp_ge (pc := 7) 84 dX10_layPools_7 (by decide) (fun q => ?_) (fun q => ?_)
    · have h := h.1 q
      refine aw_aload_n (pc := 84) 0 dX10_layPools_84 rfl ?_
      refine aw_getR (pc := 85) 38 kcX10 dX10_layPools_85 lfX10_73 nn_233 ki_233 (by decide) rfl rf_233_38 ?_
      refine aw_iload_n (pc := 88) 1 dX10_layPools_88 rfl ?_
      refine aw_iload_n (pc := 89) 2 dX10_layPools_89 rfl ?_
      refine aw_iast (pc := 90) (j := x1.toNatClampNeg) (v := y2) dX10_layPools_90 nn_253 ki_253 ln_253 h.1 rfl rfl ?_
      have h := h.2
      refine aw_tops (fun τ90 eτ90 => ?_)
      have h := h τ90 eτ90
      exact aw_vret (pc := 91) rfl dX10_layPools_91 ⟨rfl, h⟩
    · have h := h.2 q
      refine aw_bipush (pc := 10) 6 dX10_layPools_10 (by decide) ?_
      refine aw_iload_n (pc := 12) 1 dX10_layPools_12 rfl ?_
      refine aw_imul (pc := 13) dX10_layPools_13 ?_
      refine aw_iload_n (pc := 14) 3 dX10_layPools_14 rfl ?_
      refine aw_iadd (pc := 15) dX10_layPools_15 ?_
      refine aw_topi (fun v16 ev16 => ?_)
      have h := h v16 ev16
      refine aw_istore (pc := 16) [(4, .int v16), (0, .ref 233), (1, .int x1), (2, .int y2), (3, .int y3)] dX10_layPools_16 (by decide) rfl ?_
      refine aw_aload_n (pc := 18) 1 dX10_layPools_18 rfl ?_
      refine aw_getR (pc := 19) 35 kcX10 dX10_layPools_19 lfX10_64 nn_233 ki_233 (by decide) rfl rf_233_35 ?_
      refine aw_iload (pc := 22) 0 dX10_layPools_22 rfl ?_
      refine aw_iload_n (pc := 24) 3 dX10_layPools_24 rfl ?_
      refine aw_iast (pc := 25) (j := v16.toNatClampNeg) (v := y2) dX10_layPools_25 nn_250 ki_250 ln_250 h.1 rfl rfl ?_
      have h := h.2
      refine aw_tops (fun τ25 eτ25 => ?_)
      have h := h τ25 eτ25
      refine aw_aload_n (pc := 26) 1 dX10_layPools_26 rfl ?_
      refine aw_getR (pc := 27) 34 kcX10 dX10_layPools_27 lfX10_61 nn_233 ki_233 (by decide) rfl rf_233_34 ?_
      refine aw_iload (pc := 30) 0 dX10_layPools_30 rfl ?_
      refine aw_dup2 (pc := 32) dX10_layPools_32 rfl rfl ?_
      refine aw_iald (pc := 33) (j := v16.toNatClampNeg) dX10_layPools_33 nn_249 ki_249 ln_249 h.1 rfl ?_
      have h := h.2
      refine aw_iload_n (pc := 34) 3 dX10_layPools_34 rfl ?_
      refine aw_iadd (pc := 35) dX10_layPools_35 ?_
      refine aw_iast (pc := 36) (j := v16.toNatClampNeg) (v := ((τ25 249 v16.toNatClampNeg) + y2)) dX10_layPools_36 nn_249 ki_249 ln_249 h.1 rfl rfl ?_
      have h := h.2
      refine aw_tops (fun τ36 eτ36 => ?_)
      have h := h τ36 eτ36
      refine aw_iconst (pc := 37) 0 dX10_layPools_37 (by decide) ?_
      refine aw_istore_n (pc := 38) (i := 2) [(2, .int 0), (4, .int v16), (0, .ref 233), (1, .int x1), (3, .int y3)] dX10_layPools_38 rfl (by decide) rfl ?_
      refine aw_aload_n (pc := 39) 2 dX10_layPools_39 rfl ?_
      refine aw_iload_n (pc := 40) 3 dX10_layPools_40 rfl ?_
      refine aw_iload_n (pc := 41) 4 dX10_layPools_41 rfl ?_
      refine aw_callV (pc := 42) (As := [.int x1, .int y3]) (rest := []) kcX10 nn_233 ki_233 rfl (ev_X10_isClosed l x1 y3 h) mfX10_isClosed dX10_layPools_42 lmX10_271 ⟨Nat.le_refl _, Nat.le_refl _⟩ (by decide) rfl rfl (Nat.le_of_ble_eq_true rfl) (nxI (fun r42_ τ42 h => ?_))
      refine aw_if_eq (pc := 45) 78 dX10_layPools_45 (by decide) (fun q => ?_) (fun q => ?_)
      · have h := h.1 q
        obtain ⟨v78, ev78⟩ : ∃ v : Int32, v = y3 + 1 := ⟨_, rfl⟩
        have h := h v78 ev78
        refine aw_iinc (pc := 78) 4 v78 [(3, .int v78), (2, .int 0), (4, .int v16), (0, .ref 233), (1, .int x1)] dX10_layPools_78 rfl (by rw [ev78]; rfl) (by decide) rfl ?_
        refine aw_goto (pc := 81) 4 dX10_layPools_81 (by decide) ?_
        refine aw_sub (L' := [(0, .ref 233), (1, .int x1), (2, .int 0), (3, .int v78)]) [3, 4, 1, 0] rfl ?_
        exact ih 0 v78  _ h
      · have h := h.2 q
        refine aw_aload_n (pc := 48) 2 dX10_layPools_48 rfl ?_
        refine aw_iload_n (pc := 49) 3 dX10_layPools_49 rfl ?_
        refine aw_iload_n (pc := 50) 4 dX10_layPools_50 rfl ?_
        refine aw_callV (pc := 51) (As := [.int x1, .int y3]) (rest := []) kcX10 nn_233 ki_233 rfl (ev_X10_dealOut l x1 y3 h) mfX10_dealOut dX10_layPools_51 lmX10_375 ⟨Nat.le_refl _, Nat.le_refl _⟩ (by decide) rfl rfl (Nat.le_of_ble_eq_true rfl) (nxV (fun τ51 h => ?_))
        refine aw_aload_n (pc := 54) 2 dX10_layPools_54 rfl ?_
        refine aw_getR (pc := 55) 34 kcX10 dX10_layPools_55 lfX10_61 nn_233 ki_233 (by decide) rfl rf_233_34 ?_
        refine aw_iload (pc := 58) 1 dX10_layPools_58 rfl ?_
        refine aw_iald (pc := 60) (j := v16.toNatClampNeg) dX10_layPools_60 nn_249 ki_249 ln_249 h.1 rfl ?_
        have h := h.2
        refine aw_aload_n (pc := 61) 2 dX10_layPools_61 rfl ?_
        refine aw_getR (pc := 62) 36 kcX10 dX10_layPools_62 lfX10_67 nn_233 ki_233 (by decide) rfl rf_233_36 ?_
        refine aw_iload (pc := 65) 1 dX10_layPools_65 rfl ?_
        refine aw_iald (pc := 67) (j := v16.toNatClampNeg) dX10_layPools_67 nn_251 ki_251 ln_251 h.1 rfl ?_
        have h := h.2
        refine aw_aload_n (pc := 68) 2 dX10_layPools_68 rfl ?_
        refine aw_getR (pc := 69) 37 kcX10 dX10_layPools_69 lfX10_70 nn_233 ki_233 (by decide) rfl rf_233_37 ?_
        refine aw_iload (pc := 72) 1 dX10_layPools_72 rfl ?_
        refine aw_iald (pc := 74) (j := v16.toNatClampNeg) dX10_layPools_74 nn_252 ki_252 ln_252 h.1 rfl ?_
        have h := h.2
        refine aw_imul (pc := 75) dX10_layPools_75 ?_
        refine aw_isub (pc := 76) dX10_layPools_76 ?_
        refine aw_topi (fun v77 ev77 => ?_)
        have h := h v77 ev77
        refine aw_istore_n (pc := 77) (i := 2) [(2, .int v77), (4, .int v16), (0, .ref 233), (1, .int x1), (3, .int y3)] dX10_layPools_77 rfl (by decide) rfl ?_
        obtain ⟨v78, ev78⟩ : ∃ v : Int32, v = y3 + 1 := ⟨_, rfl⟩
        have h := h v78 ev78
        refine aw_iinc (pc := 78) 4 v78 [(3, .int v78), (2, .int v77), (4, .int v16), (0, .ref 233), (1, .int x1)] dX10_layPools_78 rfl (by rw [ev78]; rfl) (by decide) rfl ?_
        refine aw_goto (pc := 81) 4 dX10_layPools_81 (by decide) ?_
        refine aw_sub (L' := [(0, .ref 233), (1, .int x1), (2, .int v77), (3, .int v78)]) [3, 4, 1, 0] rfl ?_
        exact ih v77 v78  _ h
def wp_X10_layPools (x1 : Int32) (σ : Sg) (K : Sg → Prop) : Prop :=
  ∃ nf, b_X10_layPools_4 x1  K nf 0 0 σ
set_option maxRecDepth 20000 in
set_option maxHeartbeats 2000000 in
theorem ev_X10_layPools (l : Launch) (x1 : Int32) {σ : Sg} {K : Sg → Prop} (h : wp_X10_layPools x1 σ K) : Ev l yX10_layPools cX10_layPools 5 none 6 [.ref 233, .int x1] σ (qV K) := by
  refine ev_ov (by decide) (Nat.le_of_ble_eq_true rfl) ?_
  show AV l RX10 cX10_layPools 5 none 6 (qV K) 0 [(0, .ref 233), (1, .int x1)] [] σ
  refine aw_iconst (pc := 0) 0 dX10_layPools_0 (by decide) ?_
  refine aw_istore_n (pc := 1) (i := 2) [(2, .int 0), (0, .ref 233), (1, .int x1)] dX10_layPools_1 rfl (by decide) rfl ?_
  refine aw_iconst (pc := 2) 0 dX10_layPools_2 (by decide) ?_
  refine aw_istore_n (pc := 3) (i := 3) [(3, .int 0), (2, .int 0), (0, .ref 233), (1, .int x1)] dX10_layPools_3 rfl (by decide) rfl ?_
  refine aw_sub (L' := [(0, .ref 233), (1, .int x1), (2, .int 0), (3, .int 0)]) [2, 3, 1, 0] rfl ?_
  obtain ⟨nf, h⟩ := h
  exact bt_X10_layPools_4 l x1   nf 0 0  _ h
def b_X10_allKept_4   (K : Int32 → Sg → Prop) : Nat → Int32 → Int32 → Sg → Prop
  | 0, _, _, _ => False
  | n + 1, y1, y2, σ =>
  br ((σ 234 1) ≤ y2) (K y1 σ) (vp_in y2 4 ∧ (∀ v22 : Int32, v22 = y1 + (σ 253 y2.toNatClampNeg) → (∀ v23 : Int32, v23 = y2 + 1 → (b_X10_allKept_4   K n v22 v23 σ))))
set_option maxRecDepth 20000 in
set_option maxHeartbeats 2000000 in
theorem bt_X10_allKept_4 (l : Launch)  {K : Int32 → Sg → Prop}   : ∀ (n : Nat) (y1 : Int32) (y2 : Int32)  (σ : Sg), b_X10_allKept_4   K n y1 y2 σ → AV l RX10 cX10_allKept 3 (some .int) 0 (qI K) 4 [(0, .ref 233), (1, .int y1), (2, .int y2)] [] σ := by
  intro n
  induction n with
  | zero => intro y1 y2 σ h; exact h.elim
  | succ n ih =>
    intro y1 y2 σ h
    refine aw_iload_n (pc := 4) 2 dX10_allKept_4 rfl ?_
    refine aw_aload_n (pc := 5) 0 dX10_allKept_5 rfl ?_
    refine aw_getR (pc := 6) 1 kcX10 dX10_allKept_6 lfX10_7 nn_233 ki_233 (by decide) rfl rf_233_1 ?_
    refine aw_iconst (pc := 9) 1 dX10_allKept_9 (by decide) ?_
    refine aw_iald (pc := 10) (j := 1) dX10_allKept_10 nn_234 ki_234 ln_234 (show vp_in _ _ by unfold vp_in; decide) (by decide) ?_
    refine aw_icmp_ge (pc := 11) 29 dX10_allKept_11 (by decide) (fun q => ?_) (fun q => ?_)
    · have h := h.1 q
      refine aw_iload_n (pc := 29) 1 dX10_allKept_29 rfl ?_
      exact aw_iret (pc := 30) rfl dX10_allKept_30 ⟨_, rfl, h⟩
    · have h := h.2 q
      refine aw_iload_n (pc := 14) 1 dX10_allKept_14 rfl ?_
      refine aw_aload_n (pc := 15) 0 dX10_allKept_15 rfl ?_
      refine aw_getR (pc := 16) 38 kcX10 dX10_allKept_16 lfX10_73 nn_233 ki_233 (by decide) rfl rf_233_38 ?_
      refine aw_iload_n (pc := 19) 2 dX10_allKept_19 rfl ?_
      refine aw_iald (pc := 20) (j := y2.toNatClampNeg) dX10_allKept_20 nn_253 ki_253 ln_253 h.1 rfl ?_
      have h := h.2
      refine aw_iadd (pc := 21) dX10_allKept_21 ?_
      refine aw_topi (fun v22 ev22 => ?_)
      have h := h v22 ev22
      refine aw_istore_n (pc := 22) (i := 1) [(1, .int v22), (0, .ref 233), (2, .int y2)] dX10_allKept_22 rfl (by decide) rfl ?_
      obtain ⟨v23, ev23⟩ : ∃ v : Int32, v = y2 + 1 := ⟨_, rfl⟩
      have h := h v23 ev23
      refine aw_iinc (pc := 23) 2 v23 [(2, .int v23), (1, .int v22), (0, .ref 233)] dX10_allKept_23 rfl (by rw [ev23]; rfl) (by decide) rfl ?_
      refine aw_goto (pc := 26) 4 dX10_allKept_26 (by decide) ?_
      refine aw_sub (L' := [(0, .ref 233), (1, .int v22), (2, .int v23)]) [2, 1, 0] rfl ?_
      exact ih v22 v23  _ h
def wp_X10_allKept  (σ : Sg) (K : Int32 → Sg → Prop) : Prop :=
  ∃ nf, b_X10_allKept_4   K nf 0 0 σ
set_option maxRecDepth 20000 in
set_option maxHeartbeats 2000000 in
theorem ev_X10_allKept (l : Launch)  {σ : Sg} {K : Int32 → Sg → Prop} (h : wp_X10_allKept  σ K) : Ev l yX10_allKept cX10_allKept 3 (some .int) 0 [.ref 233] σ (qI K) := by
  refine ev_ov (by decide) (Nat.le_of_ble_eq_true rfl) ?_
  show AV l RX10 cX10_allKept 3 (some .int) 0 (qI K) 0 [(0, .ref 233)] [] σ
  refine aw_iconst (pc := 0) 0 dX10_allKept_0 (by decide) ?_
  refine aw_istore_n (pc := 1) (i := 1) [(1, .int 0), (0, .ref 233)] dX10_allKept_1 rfl (by decide) rfl ?_
  refine aw_iconst (pc := 2) 0 dX10_allKept_2 (by decide) ?_
  refine aw_istore_n (pc := 3) (i := 2) [(2, .int 0), (1, .int 0), (0, .ref 233)] dX10_allKept_3 rfl (by decide) rfl ?_
  refine aw_sub (L' := [(0, .ref 233), (1, .int 0), (2, .int 0)]) [2, 1, 0] rfl ?_
  obtain ⟨nf, h⟩ := h
  exact bt_X10_allKept_4 l    nf 0 0  _ h
def wp_X10_has (x1 : Int32) (σ : Sg) (K : Int32 → Sg → Prop) : Prop :=
  vp_in x1 12 ∧ (vp_in x1 12 ∧ (vp_in x1 12 ∧ (vp_in x1 12 ∧ (K ((((σ 243 x1.toNatClampNeg) + (σ 244 x1.toNatClampNeg)) + (σ 245 x1.toNatClampNeg)) + (σ 246 x1.toNatClampNeg)) σ))))
set_option maxRecDepth 20000 in
set_option maxHeartbeats 2000000 in
theorem ev_X10_has (l : Launch) (x1 : Int32) {σ : Sg} {K : Int32 → Sg → Prop} (h : wp_X10_has x1 σ K) : Ev l yX10_has cX10_has 2 (some .int) 0 [.ref 233, .int x1] σ (qI K) := by
  refine ev_ov (by decide) (Nat.le_of_ble_eq_true rfl) ?_
  show AV l RX10 cX10_has 2 (some .int) 0 (qI K) 0 [(0, .ref 233), (1, .int x1)] [] σ
  refine aw_aload_n (pc := 0) 0 dX10_has_0 rfl ?_
  refine aw_getR (pc := 1) 28 kcX10 dX10_has_1 lfX10_43 nn_233 ki_233 (by decide) rfl rf_233_28 ?_
  refine aw_iload_n (pc := 4) 1 dX10_has_4 rfl ?_
  refine aw_iald (pc := 5) (j := x1.toNatClampNeg) dX10_has_5 nn_243 ki_243 ln_243 h.1 rfl ?_
  have h := h.2
  refine aw_aload_n (pc := 6) 0 dX10_has_6 rfl ?_
  refine aw_getR (pc := 7) 29 kcX10 dX10_has_7 lfX10_46 nn_233 ki_233 (by decide) rfl rf_233_29 ?_
  refine aw_iload_n (pc := 10) 1 dX10_has_10 rfl ?_
  refine aw_iald (pc := 11) (j := x1.toNatClampNeg) dX10_has_11 nn_244 ki_244 ln_244 h.1 rfl ?_
  have h := h.2
  refine aw_iadd (pc := 12) dX10_has_12 ?_
  refine aw_aload_n (pc := 13) 0 dX10_has_13 rfl ?_
  refine aw_getR (pc := 14) 30 kcX10 dX10_has_14 lfX10_49 nn_233 ki_233 (by decide) rfl rf_233_30 ?_
  refine aw_iload_n (pc := 17) 1 dX10_has_17 rfl ?_
  refine aw_iald (pc := 18) (j := x1.toNatClampNeg) dX10_has_18 nn_245 ki_245 ln_245 h.1 rfl ?_
  have h := h.2
  refine aw_iadd (pc := 19) dX10_has_19 ?_
  refine aw_aload_n (pc := 20) 0 dX10_has_20 rfl ?_
  refine aw_getR (pc := 21) 31 kcX10 dX10_has_21 lfX10_52 nn_233 ki_233 (by decide) rfl rf_233_31 ?_
  refine aw_iload_n (pc := 24) 1 dX10_has_24 rfl ?_
  refine aw_iald (pc := 25) (j := x1.toNatClampNeg) dX10_has_25 nn_246 ki_246 ln_246 h.1 rfl ?_
  have h := h.2
  refine aw_iadd (pc := 26) dX10_has_26 ?_
  exact aw_iret (pc := 27) rfl dX10_has_27 ⟨_, rfl, h⟩
def wp_X10_lacks (x1 : Int32) (σ : Sg) (K : Int32 → Sg → Prop) : Prop :=
  wp_X10_ofClub x1 2 σ <| fun r3_ τ3 => (wp_X10_has x1 τ3 <| fun r8_ τ8 => (br (r3_ ≤ r8_) (K 0 τ8) (wp_X10_ofClub x1 2 τ8 <| fun r17_ τ17 => (wp_X10_has x1 τ17 <| fun r22_ τ22 => (K (r17_ - r22_) τ22)))))
set_option maxRecDepth 20000 in
set_option maxHeartbeats 2000000 in
theorem ev_X10_lacks (l : Launch) (x1 : Int32) {σ : Sg} {K : Int32 → Sg → Prop} (h : wp_X10_lacks x1 σ K) : Ev l yX10_lacks cX10_lacks 2 (some .int) 1 [.ref 233, .int x1] σ (qI K) := by
  refine ev_ov (by decide) (Nat.le_of_ble_eq_true rfl) ?_
  show AV l RX10 cX10_lacks 2 (some .int) 1 (qI K) 0 [(0, .ref 233), (1, .int x1)] [] σ
  refine aw_aload_n (pc := 0) 0 dX10_lacks_0 rfl ?_
  refine aw_iload_n (pc := 1) 1 dX10_lacks_1 rfl ?_
  refine aw_iconst (pc := 2) 2 dX10_lacks_2 (by decide) ?_
  refine aw_callV (pc := 3) (As := [.int x1, .int 2]) (rest := []) kcX10 nn_233 ki_233 rfl (ev_X10_ofClub l x1 2 h) mfX10_ofClub dX10_lacks_3 lmX10_345 ⟨Nat.le_refl _, Nat.le_refl _⟩ (by decide) rfl rfl (Nat.le_of_ble_eq_true rfl) (nxI (fun r3_ τ3 h => ?_))
  refine aw_aload_n (pc := 6) 0 dX10_lacks_6 rfl ?_
  refine aw_iload_n (pc := 7) 1 dX10_lacks_7 rfl ?_
  refine aw_callV (pc := 8) (As := [.int x1]) (rest := [.int r3_]) kcX10 nn_233 ki_233 rfl (ev_X10_has l x1 h) mfX10_has dX10_lacks_8 lmX10_378 ⟨Nat.le_refl _, Nat.le_refl _⟩ (by decide) rfl rfl (Nat.le_of_ble_eq_true rfl) (nxI (fun r8_ τ8 h => ?_))
  refine aw_icmp_le (pc := 11) 29 dX10_lacks_11 (by decide) (fun q => ?_) (fun q => ?_)
  · have h := h.1 q
    refine aw_iconst (pc := 29) 0 dX10_lacks_29 (by decide) ?_
    exact aw_iret (pc := 30) rfl dX10_lacks_30 ⟨_, rfl, h⟩
  · have h := h.2 q
    refine aw_aload_n (pc := 14) 0 dX10_lacks_14 rfl ?_
    refine aw_iload_n (pc := 15) 1 dX10_lacks_15 rfl ?_
    refine aw_iconst (pc := 16) 2 dX10_lacks_16 (by decide) ?_
    refine aw_callV (pc := 17) (As := [.int x1, .int 2]) (rest := []) kcX10 nn_233 ki_233 rfl (ev_X10_ofClub l x1 2 h) mfX10_ofClub dX10_lacks_17 lmX10_345 ⟨Nat.le_refl _, Nat.le_refl _⟩ (by decide) rfl rfl (Nat.le_of_ble_eq_true rfl) (nxI (fun r17_ τ17 h => ?_))
    refine aw_aload_n (pc := 20) 0 dX10_lacks_20 rfl ?_
    refine aw_iload_n (pc := 21) 1 dX10_lacks_21 rfl ?_
    refine aw_callV (pc := 22) (As := [.int x1]) (rest := [.int r17_]) kcX10 nn_233 ki_233 rfl (ev_X10_has l x1 h) mfX10_has dX10_lacks_22 lmX10_378 ⟨Nat.le_refl _, Nat.le_refl _⟩ (by decide) rfl rfl (Nat.le_of_ble_eq_true rfl) (nxI (fun r22_ τ22 h => ?_))
    refine aw_isub (pc := 25) dX10_lacks_25 ?_
    refine aw_goto (pc := 26) 30 dX10_lacks_26 (by decide) ?_
    exact aw_iret (pc := 30) rfl dX10_lacks_30 ⟨_, rfl, h⟩
def b_X10_top_109  (B15 : Int32 → Int32 → Sg → Prop) (K : Sg → Prop) (y1 : Int32) (y3 : Int32) (σ : Sg) : Prop :=
  br (y3 = (-1)) (B15 y1 0 σ) (br (y1 ≤ 0) (B15 y1 0 σ) (B15 y1 1 σ))
set_option maxRecDepth 20000 in
set_option maxHeartbeats 2000000 in
theorem bt_X10_top_109 (l : Launch)  {K : Sg → Prop} (B15 : Int32 → Int32 → Sg → Prop) (hB15 : ∀ (y1 : Int32) (y2 : Int32)  (τ : Sg), B15 y1 y2 τ → AV l RX10 cX10_top 5 none 2 (qV K) 15 [(0, .ref 233), (1, .int y1), (2, .int y2)] [] τ) (y1 : Int32) (y3 : Int32)  (σ : Sg) (h : b_X10_top_109  B15 K y1 y3 σ) : AV l RX10 cX10_top 5 none 2 (qV K) 109 [(0, .ref 233), (1, .int y1), (3, .int y3)] [] σ := by
  refine aw_iload_n (pc := 109) 2 dX10_top_109 rfl ?_
  refine aw_iconst (pc := 110) (-1) dX10_top_110 (by decide) ?_
  refine aw_icmp_eq (pc := 111) 122 dX10_top_111 (by decide) (fun q => ?_) (fun q => ?_)
  · have h := h.1 q
    refine aw_iconst (pc := 122) 0 dX10_top_122 (by decide) ?_
    refine aw_istore_n (pc := 123) (i := 2) [(2, .int 0), (0, .ref 233), (1, .int y1), (3, .int y3)] dX10_top_123 rfl (by decide) rfl ?_
    refine aw_goto (pc := 124) 15 dX10_top_124 (by decide) ?_
    refine aw_sub (L' := [(0, .ref 233), (1, .int y1), (2, .int 0)]) [1, 2, 0] rfl ?_
    exact hB15 y1 0  _ h
  · have h := h.2 q
    refine aw_iload_n (pc := 114) 1 dX10_top_114 rfl ?_
    refine aw_if_le (pc := 115) 122 dX10_top_115 (by decide) (fun q => ?_) (fun q => ?_)
    · have h := h.1 q
      refine aw_iconst (pc := 122) 0 dX10_top_122 (by decide) ?_
      refine aw_istore_n (pc := 123) (i := 2) [(2, .int 0), (0, .ref 233), (1, .int y1), (3, .int y3)] dX10_top_123 rfl (by decide) rfl ?_
      refine aw_goto (pc := 124) 15 dX10_top_124 (by decide) ?_
      refine aw_sub (L' := [(0, .ref 233), (1, .int y1), (2, .int 0)]) [1, 2, 0] rfl ?_
      exact hB15 y1 0  _ h
    · have h := h.2 q
      refine aw_iconst (pc := 118) 1 dX10_top_118 (by decide) ?_
      refine aw_goto (pc := 119) 123 dX10_top_119 (by decide) ?_
      refine aw_istore_n (pc := 123) (i := 2) [(2, .int 1), (0, .ref 233), (1, .int y1), (3, .int y3)] dX10_top_123 rfl (by decide) rfl ?_
      refine aw_goto (pc := 124) 15 dX10_top_124 (by decide) ?_
      refine aw_sub (L' := [(0, .ref 233), (1, .int y1), (2, .int 1)]) [1, 2, 0] rfl ?_
      exact hB15 y1 1  _ h
def b_X10_top_24  (B15 : Int32 → Int32 → Sg → Prop) (K : Sg → Prop) : Nat → Int32 → Int32 → Int32 → Sg → Prop
  | 0, _, _, _, _ => False
  | n + 1, y1, y3, y4, σ =>
  wp_X10_clubs  σ <| fun r27_ τ27 => (br (r27_ ≤ y4) (br (y3 = (-1)) (b_X10_top_109  B15 K y1 y3 τ27) (wp_X10_lacks y3 τ27 <| fun r93_ τ93 => (wp_X10_less y1 r93_ τ93 <| fun r96_ τ96 => (vp_in y3 12 ∧ (∀ τ99 : Sg, τ99 = up τ96 254 y3.toNatClampNeg r96_ → (vp_in y3 12 ∧ (∀ v108 : Int32, v108 = y1 - (τ99 254 y3.toNatClampNeg) → (b_X10_top_109  B15 K v108 y3 τ99)))))))) (wp_X10_lacks y4 τ27 <| fun r36_ τ36 => (br (r36_ ≤ 0) (∀ v74 : Int32, v74 = y4 + 1 → (b_X10_top_24  B15 K n y1 y3 v74 τ36)) (vp_in y4 12 ∧ (br ((τ36 254 y4.toNatClampNeg) = 0) (br (y3 = (-1)) (∀ v74 : Int32, v74 = y4 + 1 → (b_X10_top_24  B15 K n y1 y4 v74 τ36)) (wp_X10_lacks y4 τ36 <| fun r60_ τ60 => (wp_X10_lacks y3 τ60 <| fun r65_ τ65 => (br (r65_ ≤ r60_) (∀ v74 : Int32, v74 = y4 + 1 → (b_X10_top_24  B15 K n y1 y3 v74 τ65)) (∀ v74 : Int32, v74 = y4 + 1 → (b_X10_top_24  B15 K n y1 y4 v74 τ65)))))) (∀ v74 : Int32, v74 = y4 + 1 → (b_X10_top_24  B15 K n y1 y3 v74 τ36)))))))
set_option maxRecDepth 20000 in
set_option maxHeartbeats 2000000 in
theorem bt_X10_top_24 (l : Launch)  {K : Sg → Prop} (B15 : Int32 → Int32 → Sg → Prop) (hB15 : ∀ (y1 : Int32) (y2 : Int32)  (τ : Sg), B15 y1 y2 τ → AV l RX10 cX10_top 5 none 2 (qV K) 15 [(0, .ref 233), (1, .int y1), (2, .int y2)] [] τ) : ∀ (n : Nat) (y1 : Int32) (y3 : Int32) (y4 : Int32)  (σ : Sg), b_X10_top_24  B15 K n y1 y3 y4 σ → AV l RX10 cX10_top 5 none 2 (qV K) 24 [(0, .ref 233), (1, .int y1), (3, .int y3), (4, .int y4)] [] σ := by
  intro n
  induction n with
  | zero => intro y1 y3 y4 σ h; exact h.elim
  | succ n ih =>
    intro y1 y3 y4 σ h
    refine aw_iload (pc := 24) 3 dX10_top_24 rfl ?_
    refine aw_aload_n (pc := 26) 0 dX10_top_26 rfl ?_
    refine aw_callV (pc := 27) (As := []) (rest := [.int y4]) kcX10 nn_233 ki_233 rfl (ev_X10_clubs l  h) mfX10_clubs dX10_top_27 lmX10_384 ⟨Nat.le_refl _, Nat.le_refl _⟩ (by decide) rfl rfl (Nat.le_of_ble_eq_true rfl) (nxI (fun r27_ τ27 h => ?_))
    refine aw_icmp_ge (pc := 30) 80 dX10_top_30 (by decide) (fun q => ?_) (fun q => ?_)
    · have h := h.1 q
      refine aw_iload_n (pc := 80) 2 dX10_top_80 rfl ?_
      refine aw_iconst (pc := 81) (-1) dX10_top_81 (by decide) ?_
      refine aw_icmp_eq (pc := 82) 109 dX10_top_82 (by decide) (fun q => ?_) (fun q => ?_)
      · have h := h.1 q
        refine aw_sub (L' := [(0, .ref 233), (1, .int y1), (3, .int y3)]) [0, 1, 2] rfl ?_
        exact bt_X10_top_109 l  B15 hB15 y1 y3  _ h
      · have h := h.2 q
        refine aw_aload_n (pc := 85) 0 dX10_top_85 rfl ?_
        refine aw_getR (pc := 86) 39 kcX10 dX10_top_86 lfX10_76 nn_233 ki_233 (by decide) rfl rf_233_39 ?_
        refine aw_iload_n (pc := 89) 2 dX10_top_89 rfl ?_
        refine aw_iload_n (pc := 90) 1 dX10_top_90 rfl ?_
        refine aw_aload_n (pc := 91) 0 dX10_top_91 rfl ?_
        refine aw_iload_n (pc := 92) 2 dX10_top_92 rfl ?_
        refine aw_callV (pc := 93) (As := [.int y3]) (rest := [.int y1, .int y3, .ref 254]) kcX10 nn_233 ki_233 rfl (ev_X10_lacks l y3 h) mfX10_lacks dX10_top_93 lmX10_387 ⟨Nat.le_refl _, Nat.le_refl _⟩ (by decide) rfl rfl (Nat.le_of_ble_eq_true rfl) (nxI (fun r93_ τ93 h => ?_))
        refine aw_callS (pc := 96) (As := [.int y1, .int r93_]) (rest := [.int y3, .ref 254]) (ev_X10_less l y1 r93_ h) mfX10_less dX10_top_96 lmX10_318 ⟨Nat.le_refl _, Nat.le_refl _⟩ (by decide) rfl rfl (Nat.le_of_ble_eq_true rfl) (nxI (fun r96_ τ96 h => ?_))
        refine aw_iast (pc := 99) (j := y3.toNatClampNeg) (v := r96_) dX10_top_99 nn_254 ki_254 ln_254 h.1 rfl rfl ?_
        have h := h.2
        refine aw_tops (fun τ99 eτ99 => ?_)
        have h := h τ99 eτ99
        refine aw_iload_n (pc := 100) 1 dX10_top_100 rfl ?_
        refine aw_aload_n (pc := 101) 0 dX10_top_101 rfl ?_
        refine aw_getR (pc := 102) 39 kcX10 dX10_top_102 lfX10_76 nn_233 ki_233 (by decide) rfl rf_233_39 ?_
        refine aw_iload_n (pc := 105) 2 dX10_top_105 rfl ?_
        refine aw_iald (pc := 106) (j := y3.toNatClampNeg) dX10_top_106 nn_254 ki_254 ln_254 h.1 rfl ?_
        have h := h.2
        refine aw_isub (pc := 107) dX10_top_107 ?_
        refine aw_topi (fun v108 ev108 => ?_)
        have h := h v108 ev108
        refine aw_istore_n (pc := 108) (i := 1) [(1, .int v108), (0, .ref 233), (3, .int y3), (4, .int y4)] dX10_top_108 rfl (by decide) rfl ?_
        refine aw_sub (L' := [(0, .ref 233), (1, .int v108), (3, .int y3)]) [1, 0, 2] rfl ?_
        exact bt_X10_top_109 l  B15 hB15 v108 y3  _ h
    · have h := h.2 q
      refine aw_aload_n (pc := 33) 0 dX10_top_33 rfl ?_
      refine aw_iload (pc := 34) 3 dX10_top_34 rfl ?_
      refine aw_callV (pc := 36) (As := [.int y4]) (rest := []) kcX10 nn_233 ki_233 rfl (ev_X10_lacks l y4 h) mfX10_lacks dX10_top_36 lmX10_387 ⟨Nat.le_refl _, Nat.le_refl _⟩ (by decide) rfl rfl (Nat.le_of_ble_eq_true rfl) (nxI (fun r36_ τ36 h => ?_))
      refine aw_if_le (pc := 39) 74 dX10_top_39 (by decide) (fun q => ?_) (fun q => ?_)
      · have h := h.1 q
        obtain ⟨v74, ev74⟩ : ∃ v : Int32, v = y4 + 1 := ⟨_, rfl⟩
        have h := h v74 ev74
        refine aw_iinc (pc := 74) 3 v74 [(4, .int v74), (0, .ref 233), (1, .int y1), (3, .int y3)] dX10_top_74 rfl (by rw [ev74]; rfl) (by decide) rfl ?_
        refine aw_goto (pc := 77) 24 dX10_top_77 (by decide) ?_
        refine aw_sub (L' := [(0, .ref 233), (1, .int y1), (3, .int y3), (4, .int v74)]) [1, 2, 3, 0] rfl ?_
        exact ih y1 y3 v74  _ h
      · have h := h.2 q
        refine aw_aload_n (pc := 42) 0 dX10_top_42 rfl ?_
        refine aw_getR (pc := 43) 39 kcX10 dX10_top_43 lfX10_76 nn_233 ki_233 (by decide) rfl rf_233_39 ?_
        refine aw_iload (pc := 46) 3 dX10_top_46 rfl ?_
        refine aw_iald (pc := 48) (j := y4.toNatClampNeg) dX10_top_48 nn_254 ki_254 ln_254 h.1 rfl ?_
        have h := h.2
        refine aw_if_ne (pc := 49) 74 dX10_top_49 (by decide) (fun q => ?_) (fun q => ?_)
        · have h := h.2 q
          obtain ⟨v74, ev74⟩ : ∃ v : Int32, v = y4 + 1 := ⟨_, rfl⟩
          have h := h v74 ev74
          refine aw_iinc (pc := 74) 3 v74 [(4, .int v74), (0, .ref 233), (1, .int y1), (3, .int y3)] dX10_top_74 rfl (by rw [ev74]; rfl) (by decide) rfl ?_
          refine aw_goto (pc := 77) 24 dX10_top_77 (by decide) ?_
          refine aw_sub (L' := [(0, .ref 233), (1, .int y1), (3, .int y3), (4, .int v74)]) [1, 2, 3, 0] rfl ?_
          exact ih y1 y3 v74  _ h
        · have h := h.1 q
          refine aw_iload_n (pc := 52) 2 dX10_top_52 rfl ?_
          refine aw_iconst (pc := 53) (-1) dX10_top_53 (by decide) ?_
          refine aw_icmp_eq (pc := 54) 71 dX10_top_54 (by decide) (fun q => ?_) (fun q => ?_)
          · have h := h.1 q
            refine aw_iload (pc := 71) 3 dX10_top_71 rfl ?_
            refine aw_istore_n (pc := 73) (i := 3) [(3, .int y4), (0, .ref 233), (1, .int y1), (4, .int y4)] dX10_top_73 rfl (by decide) rfl ?_
            obtain ⟨v74, ev74⟩ : ∃ v : Int32, v = y4 + 1 := ⟨_, rfl⟩
            have h := h v74 ev74
            refine aw_iinc (pc := 74) 3 v74 [(4, .int v74), (3, .int y4), (0, .ref 233), (1, .int y1)] dX10_top_74 rfl (by rw [ev74]; rfl) (by decide) rfl ?_
            refine aw_goto (pc := 77) 24 dX10_top_77 (by decide) ?_
            refine aw_sub (L' := [(0, .ref 233), (1, .int y1), (3, .int y4), (4, .int v74)]) [2, 3, 1, 0] rfl ?_
            exact ih y1 y4 v74  _ h
          · have h := h.2 q
            refine aw_aload_n (pc := 57) 0 dX10_top_57 rfl ?_
            refine aw_iload (pc := 58) 3 dX10_top_58 rfl ?_
            refine aw_callV (pc := 60) (As := [.int y4]) (rest := []) kcX10 nn_233 ki_233 rfl (ev_X10_lacks l y4 h) mfX10_lacks dX10_top_60 lmX10_387 ⟨Nat.le_refl _, Nat.le_refl _⟩ (by decide) rfl rfl (Nat.le_of_ble_eq_true rfl) (nxI (fun r60_ τ60 h => ?_))
            refine aw_aload_n (pc := 63) 0 dX10_top_63 rfl ?_
            refine aw_iload_n (pc := 64) 2 dX10_top_64 rfl ?_
            refine aw_callV (pc := 65) (As := [.int y3]) (rest := [.int r60_]) kcX10 nn_233 ki_233 rfl (ev_X10_lacks l y3 h) mfX10_lacks dX10_top_65 lmX10_387 ⟨Nat.le_refl _, Nat.le_refl _⟩ (by decide) rfl rfl (Nat.le_of_ble_eq_true rfl) (nxI (fun r65_ τ65 h => ?_))
            refine aw_icmp_ge (pc := 68) 74 dX10_top_68 (by decide) (fun q => ?_) (fun q => ?_)
            · have h := h.1 q
              obtain ⟨v74, ev74⟩ : ∃ v : Int32, v = y4 + 1 := ⟨_, rfl⟩
              have h := h v74 ev74
              refine aw_iinc (pc := 74) 3 v74 [(4, .int v74), (0, .ref 233), (1, .int y1), (3, .int y3)] dX10_top_74 rfl (by rw [ev74]; rfl) (by decide) rfl ?_
              refine aw_goto (pc := 77) 24 dX10_top_77 (by decide) ?_
              refine aw_sub (L' := [(0, .ref 233), (1, .int y1), (3, .int y3), (4, .int v74)]) [1, 2, 3, 0] rfl ?_
              exact ih y1 y3 v74  _ h
            · have h := h.2 q
              refine aw_iload (pc := 71) 3 dX10_top_71 rfl ?_
              refine aw_istore_n (pc := 73) (i := 3) [(3, .int y4), (0, .ref 233), (1, .int y1), (4, .int y4)] dX10_top_73 rfl (by decide) rfl ?_
              obtain ⟨v74, ev74⟩ : ∃ v : Int32, v = y4 + 1 := ⟨_, rfl⟩
              have h := h v74 ev74
              refine aw_iinc (pc := 74) 3 v74 [(4, .int v74), (3, .int y4), (0, .ref 233), (1, .int y1)] dX10_top_74 rfl (by rw [ev74]; rfl) (by decide) rfl ?_
              refine aw_goto (pc := 77) 24 dX10_top_77 (by decide) ?_
              refine aw_sub (L' := [(0, .ref 233), (1, .int y1), (3, .int y4), (4, .int v74)]) [2, 3, 1, 0] rfl ?_
              exact ih y1 y4 v74  _ h
def b_X10_top_15   (K : Sg → Prop) : Nat → Int32 → Int32 → Sg → Prop
  | 0, _, _, _ => False
  | n + 1, y1, y2, σ =>
  br (y2 = 0) (K σ) (∃ nf, b_X10_top_24  (fun y1' y2' τ => b_X10_top_15   K n y1' y2' τ) K nf y1 (-1) 0 σ)
set_option maxRecDepth 20000 in
set_option maxHeartbeats 2000000 in
theorem bt_X10_top_15 (l : Launch)  {K : Sg → Prop}   : ∀ (n : Nat) (y1 : Int32) (y2 : Int32)  (σ : Sg), b_X10_top_15   K n y1 y2 σ → AV l RX10 cX10_top 5 none 2 (qV K) 15 [(0, .ref 233), (1, .int y1), (2, .int y2)] [] σ := by
  intro n
  induction n with
  | zero => intro y1 y2 σ h; exact h.elim
  | succ n ih =>
    intro y1 y2 σ h
    refine aw_iload_n (pc := 15) 2 dX10_top_15 rfl ?_
    refine aw_if_eq (pc := 16) 127 dX10_top_16 (by decide) (fun q => ?_) (fun q => ?_)
    · have h := h.1 q
      exact aw_vret (pc := 127) rfl dX10_top_127 ⟨rfl, h⟩
    · have h := h.2 q
      refine aw_iconst (pc := 19) (-1) dX10_top_19 (by decide) ?_
      refine aw_istore_n (pc := 20) (i := 3) [(3, .int (-1)), (0, .ref 233), (1, .int y1), (2, .int y2)] dX10_top_20 rfl (by decide) rfl ?_
      refine aw_iconst (pc := 21) 0 dX10_top_21 (by decide) ?_
      refine aw_istore (pc := 22) [(4, .int 0), (3, .int (-1)), (0, .ref 233), (1, .int y1), (2, .int y2)] dX10_top_22 (by decide) rfl ?_
      refine aw_sub (L' := [(0, .ref 233), (1, .int y1), (3, .int (-1)), (4, .int 0)]) [2, 3, 1, 0] rfl ?_
      obtain ⟨nf, h⟩ := h
      exact bt_X10_top_24 l  (fun y1' y2' τ => b_X10_top_15   K n y1' y2' τ) (fun y1' y2' τ h => ih y1' y2' τ h) nf y1 (-1) 0  _ h
def wp_X10_top  (σ : Sg) (K : Sg → Prop) : Prop :=
  wp_X10_allKept  σ <| fun r1_ τ1 => (br (r1_ ≤ 0) (∃ nf, b_X10_top_15   K nf r1_ 0 τ1) (∃ nf, b_X10_top_15   K nf r1_ 1 τ1))
set_option maxRecDepth 20000 in
set_option maxHeartbeats 2000000 in
theorem ev_X10_top (l : Launch)  {σ : Sg} {K : Sg → Prop} (h : wp_X10_top  σ K) : Ev l yX10_top cX10_top 5 none 2 [.ref 233] σ (qV K) := by
  refine ev_ov (by decide) (Nat.le_of_ble_eq_true rfl) ?_
  show AV l RX10 cX10_top 5 none 2 (qV K) 0 [(0, .ref 233)] [] σ
  refine aw_aload_n (pc := 0) 0 dX10_top_0 rfl ?_
  refine aw_callV (pc := 1) (As := []) (rest := []) kcX10 nn_233 ki_233 rfl (ev_X10_allKept l  h) mfX10_allKept dX10_top_1 lmX10_381 ⟨Nat.le_refl _, Nat.le_refl _⟩ (by decide) rfl rfl (Nat.le_of_ble_eq_true rfl) (nxI (fun r1_ τ1 h => ?_))
  refine aw_istore_n (pc := 4) (i := 1) [(1, .int r1_), (0, .ref 233)] dX10_top_4 rfl (by decide) rfl ?_
  refine aw_iload_n (pc := 5) 0 dX10_top_5 rfl ?_
  refine aw_if_le (pc := 6) 13 dX10_top_6 (by decide) (fun q => ?_) (fun q => ?_)
  · have h := h.1 q
    refine aw_iconst (pc := 13) 0 dX10_top_13 (by decide) ?_
    refine aw_istore_n (pc := 14) (i := 2) [(2, .int 0), (1, .int r1_), (0, .ref 233)] dX10_top_14 rfl (by decide) rfl ?_
    refine aw_sub (L' := [(0, .ref 233), (1, .int r1_), (2, .int 0)]) [2, 1, 0] rfl ?_
    obtain ⟨nf, h⟩ := h
    exact bt_X10_top_15 l    nf r1_ 0  _ h
  · have h := h.2 q
    refine aw_iconst (pc := 9) 1 dX10_top_9 (by decide) ?_
    refine aw_goto (pc := 10) 14 dX10_top_10 (by decide) ?_
    refine aw_istore_n (pc := 14) (i := 2) [(2, .int 1), (1, .int r1_), (0, .ref 233)] dX10_top_14 rfl (by decide) rfl ?_
    refine aw_sub (L' := [(0, .ref 233), (1, .int r1_), (2, .int 1)]) [2, 1, 0] rfl ?_
    obtain ⟨nf, h⟩ := h
    exact bt_X10_top_15 l    nf r1_ 1  _ h
def b_X10_layAll_29   (K : Sg → Prop) : Nat → Int32 → Sg → Prop
  | 0, _, _ => False
  | n + 1, y1, σ =>
  br ((σ 234 1) ≤ y1) (wp_X10_top  σ <| fun τ51 => (K τ51)) (wp_X10_layPools y1 σ <| fun τ41 => (∀ v44 : Int32, v44 = y1 + 1 → (b_X10_layAll_29   K n v44 τ41)))
set_option maxRecDepth 20000 in
set_option maxHeartbeats 2000000 in
theorem bt_X10_layAll_29 (l : Launch)  {K : Sg → Prop}   : ∀ (n : Nat) (y1 : Int32)  (σ : Sg), b_X10_layAll_29   K n y1 σ → AV l RX10 cX10_layAll 2 none 7 (qV K) 29 [(0, .ref 233), (1, .int y1)] [] σ := by
  intro n
  induction n with
  | zero => intro y1 σ h; exact h.elim
  | succ n ih =>
    intro y1 σ h
    refine aw_iload_n (pc := 29) 1 dX10_layAll_29 rfl ?_
    refine aw_aload_n (pc := 30) 0 dX10_layAll_30 rfl ?_
    refine aw_getR (pc := 31) 1 kcX10 dX10_layAll_31 lfX10_7 nn_233 ki_233 (by decide) rfl rf_233_1 ?_
    refine aw_iconst (pc := 34) 1 dX10_layAll_34 (by decide) ?_
    refine aw_iald (pc := 35) (j := 1) dX10_layAll_35 nn_234 ki_234 ln_234 (show vp_in _ _ by unfold vp_in; decide) (by decide) ?_
    refine aw_icmp_ge (pc := 36) 50 dX10_layAll_36 (by decide) (fun q => ?_) (fun q => ?_)
    · have h := h.1 q
      refine aw_aload_n (pc := 50) 0 dX10_layAll_50 rfl ?_
      refine aw_callV (pc := 51) (As := []) (rest := []) kcX10 nn_233 ki_233 rfl (ev_X10_top l  h) mfX10_top dX10_layAll_51 lmX10_399 ⟨Nat.le_refl _, Nat.le_refl _⟩ (by decide) rfl rfl (Nat.le_of_ble_eq_true rfl) (nxV (fun τ51 h => ?_))
      exact aw_vret (pc := 54) rfl dX10_layAll_54 ⟨rfl, h⟩
    · have h := h.2 q
      refine aw_aload_n (pc := 39) 0 dX10_layAll_39 rfl ?_
      refine aw_iload_n (pc := 40) 1 dX10_layAll_40 rfl ?_
      refine aw_callV (pc := 41) (As := [.int y1]) (rest := []) kcX10 nn_233 ki_233 rfl (ev_X10_layPools l y1 h) mfX10_layPools dX10_layAll_41 lmX10_396 ⟨Nat.le_refl _, Nat.le_refl _⟩ (by decide) rfl rfl (Nat.le_of_ble_eq_true rfl) (nxV (fun τ41 h => ?_))
      obtain ⟨v44, ev44⟩ : ∃ v : Int32, v = y1 + 1 := ⟨_, rfl⟩
      have h := h v44 ev44
      refine aw_iinc (pc := 44) 1 v44 [(1, .int v44), (0, .ref 233)] dX10_layAll_44 rfl (by rw [ev44]; rfl) (by decide) rfl ?_
      refine aw_goto (pc := 47) 29 dX10_layAll_47 (by decide) ?_
      refine aw_sub (L' := [(0, .ref 233), (1, .int v44)]) [1, 0] rfl ?_
      exact ih v44  _ h
def b_X10_layAll_6   (K : Sg → Prop) : Nat → Int32 → Sg → Prop
  | 0, _, _ => False
  | n + 1, y1, σ =>
  br ((σ 236 0) ≤ y1) (∃ nf, b_X10_layAll_29   K nf 0 σ) (wp_X10_addGames y1 σ <| fun τ18 => (∀ v21 : Int32, v21 = y1 + 1 → (b_X10_layAll_6   K n v21 τ18)))
set_option maxRecDepth 20000 in
set_option maxHeartbeats 2000000 in
theorem bt_X10_layAll_6 (l : Launch)  {K : Sg → Prop}   : ∀ (n : Nat) (y1 : Int32)  (σ : Sg), b_X10_layAll_6   K n y1 σ → AV l RX10 cX10_layAll 2 none 7 (qV K) 6 [(0, .ref 233), (1, .int y1)] [] σ := by
  intro n
  induction n with
  | zero => intro y1 σ h; exact h.elim
  | succ n ih =>
    intro y1 σ h
    refine aw_iload_n (pc := 6) 1 dX10_layAll_6 rfl ?_
    refine aw_aload_n (pc := 7) 0 dX10_layAll_7 rfl ?_
    refine aw_getR (pc := 8) 3 kcX10 dX10_layAll_8 lfX10_16 nn_233 ki_233 (by decide) rfl rf_233_3 ?_
    refine aw_iconst (pc := 11) 0 dX10_layAll_11 (by decide) ?_
    refine aw_iald (pc := 12) (j := 0) dX10_layAll_12 nn_236 ki_236 ln_236 (show vp_in _ _ by unfold vp_in; decide) (by decide) ?_
    refine aw_icmp_ge (pc := 13) 27 dX10_layAll_13 (by decide) (fun q => ?_) (fun q => ?_)
    · have h := h.1 q
      refine aw_iconst (pc := 27) 0 dX10_layAll_27 (by decide) ?_
      refine aw_istore_n (pc := 28) (i := 1) [(1, .int 0), (0, .ref 233)] dX10_layAll_28 rfl (by decide) rfl ?_
      refine aw_sub (L' := [(0, .ref 233), (1, .int 0)]) [1, 0] rfl ?_
      obtain ⟨nf, h⟩ := h
      exact bt_X10_layAll_29 l    nf 0  _ h
    · have h := h.2 q
      refine aw_aload_n (pc := 16) 0 dX10_layAll_16 rfl ?_
      refine aw_iload_n (pc := 17) 1 dX10_layAll_17 rfl ?_
      refine aw_callV (pc := 18) (As := [.int y1]) (rest := []) kcX10 nn_233 ki_233 rfl (ev_X10_addGames l y1 h) mfX10_addGames dX10_layAll_18 lmX10_393 ⟨Nat.le_refl _, Nat.le_refl _⟩ (by decide) rfl rfl (Nat.le_of_ble_eq_true rfl) (nxV (fun τ18 h => ?_))
      obtain ⟨v21, ev21⟩ : ∃ v : Int32, v = y1 + 1 := ⟨_, rfl⟩
      have h := h v21 ev21
      refine aw_iinc (pc := 21) 1 v21 [(1, .int v21), (0, .ref 233)] dX10_layAll_21 rfl (by rw [ev21]; rfl) (by decide) rfl ?_
      refine aw_goto (pc := 24) 6 dX10_layAll_24 (by decide) ?_
      refine aw_sub (L' := [(0, .ref 233), (1, .int v21)]) [1, 0] rfl ?_
      exact ih v21  _ h
def wp_X10_layAll  (σ : Sg) (K : Sg → Prop) : Prop :=
  wp_X10_begin  σ <| fun τ1 => (∃ nf, b_X10_layAll_6   K nf 0 τ1)
set_option maxRecDepth 20000 in
set_option maxHeartbeats 2000000 in
theorem ev_X10_layAll (l : Launch)  {σ : Sg} {K : Sg → Prop} (h : wp_X10_layAll  σ K) : Ev l yX10_layAll cX10_layAll 2 none 7 [.ref 233] σ (qV K) := by
  refine ev_ov (by decide) (Nat.le_of_ble_eq_true rfl) ?_
  show AV l RX10 cX10_layAll 2 none 7 (qV K) 0 [(0, .ref 233)] [] σ
  refine aw_aload_n (pc := 0) 0 dX10_layAll_0 rfl ?_
  refine aw_callV (pc := 1) (As := []) (rest := []) kcX10 nn_233 ki_233 rfl (ev_X10_begin l  h) mfX10_begin dX10_layAll_1 lmX10_390 ⟨Nat.le_refl _, Nat.le_refl _⟩ (by decide) rfl rfl (Nat.le_of_ble_eq_true rfl) (nxV (fun τ1 h => ?_))
  refine aw_iconst (pc := 4) 0 dX10_layAll_4 (by decide) ?_
  refine aw_istore_n (pc := 5) (i := 1) [(1, .int 0), (0, .ref 233)] dX10_layAll_5 rfl (by decide) rfl ?_
  refine aw_sub (L' := [(0, .ref 233), (1, .int 0)]) [1, 0] rfl ?_
  obtain ⟨nf, h⟩ := h
  exact bt_X10_layAll_6 l    nf 0  _ h
def wp_X10_doClose (x1 : Int32) (x2 : Int32) (σ : Sg) (K : Int32 → Sg → Prop) : Prop :=
  wp_X10_isCup x1 σ <| fun r2_ τ2 => (br (r2_ = 0) (K (-1) τ2) (wp_X10_isRound x2 τ2 <| fun r9_ τ9 => (br (r9_ = 0) (K (-1) τ9) (wp_X10_isDone x1 x2 τ9 <| fun r20_ τ20 => (br (r20_ = 0) (K (-2) τ20) (vp_in ((391 + (6 * x1)) + x2) 415 ∧ (∀ τ44 : Sg, τ44 = up τ20 236 ((391 + (6 * x1)) + x2).toNatClampNeg 1 → (wp_X10_layAll  τ44 <| fun τ46 => (vp_in ((6 * x1) + x2) 24 ∧ (K (τ46 251 ((6 * x1) + x2).toNatClampNeg) τ46))))))))))
set_option maxRecDepth 20000 in
set_option maxHeartbeats 2000000 in
theorem ev_X10_doClose (l : Launch) (x1 : Int32) (x2 : Int32) {σ : Sg} {K : Int32 → Sg → Prop} (h : wp_X10_doClose x1 x2 σ K) : Ev l yX10_doClose cX10_doClose 3 (some .int) 8 [.ref 233, .int x1, .int x2] σ (qI K) := by
  refine ev_ov (by decide) (Nat.le_of_ble_eq_true rfl) ?_
  show AV l RX10 cX10_doClose 3 (some .int) 8 (qI K) 0 [(0, .ref 233), (1, .int x1), (2, .int x2)] [] σ
  refine aw_aload_n (pc := 0) 0 dX10_doClose_0 rfl ?_
  refine aw_iload_n (pc := 1) 1 dX10_doClose_1 rfl ?_
  refine aw_callV (pc := 2) (As := [.int x1]) (rest := []) kcX10 nn_233 ki_233 rfl (ev_X10_isCup l x1 h) mfX10_isCup dX10_doClose_2 lmX10_278 ⟨Nat.le_refl _, Nat.le_refl _⟩ (by decide) rfl rfl (Nat.le_of_ble_eq_true rfl) (nxI (fun r2_ τ2 h => ?_))
  refine aw_if_eq (pc := 5) 15 dX10_doClose_5 (by decide) (fun q => ?_) (fun q => ?_)
  · have h := h.1 q
    refine aw_iconst (pc := 15) (-1) dX10_doClose_15 (by decide) ?_
    exact aw_iret (pc := 16) rfl dX10_doClose_16 ⟨_, rfl, h⟩
  · have h := h.2 q
    refine aw_iload_n (pc := 8) 2 dX10_doClose_8 rfl ?_
    refine aw_callS (pc := 9) (As := [.int x2]) (rest := []) (ev_X10_isRound l x2 h) mfX10_isRound dX10_doClose_9 lmX10_281 ⟨Nat.le_refl _, Nat.le_refl _⟩ (by decide) rfl rfl (Nat.le_of_ble_eq_true rfl) (nxI (fun r9_ τ9 h => ?_))
    refine aw_if_ne (pc := 12) 17 dX10_doClose_12 (by decide) (fun q => ?_) (fun q => ?_)
    · have h := h.2 q
      refine aw_aload_n (pc := 17) 0 dX10_doClose_17 rfl ?_
      refine aw_iload_n (pc := 18) 1 dX10_doClose_18 rfl ?_
      refine aw_iload_n (pc := 19) 2 dX10_doClose_19 rfl ?_
      refine aw_callV (pc := 20) (As := [.int x1, .int x2]) (rest := []) kcX10 nn_233 ki_233 rfl (ev_X10_isDone l x1 x2 h) mfX10_isDone dX10_doClose_20 lmX10_307 ⟨Nat.le_refl _, Nat.le_refl _⟩ (by decide) rfl rfl (Nat.le_of_ble_eq_true rfl) (nxI (fun r20_ τ20 h => ?_))
      refine aw_if_ne (pc := 23) 29 dX10_doClose_23 (by decide) (fun q => ?_) (fun q => ?_)
      · have h := h.2 q
        refine aw_aload_n (pc := 29) 0 dX10_doClose_29 rfl ?_
        refine aw_getR (pc := 30) 3 kcX10 dX10_doClose_30 lfX10_16 nn_233 ki_233 (by decide) rfl rf_233_3 ?_
        refine aw_sipush (pc := 33) 391 dX10_doClose_33 (by decide) ?_
        refine aw_bipush (pc := 36) 6 dX10_doClose_36 (by decide) ?_
        refine aw_iload_n (pc := 38) 1 dX10_doClose_38 rfl ?_
        refine aw_imul (pc := 39) dX10_doClose_39 ?_
        refine aw_iadd (pc := 40) dX10_doClose_40 ?_
        refine aw_iload_n (pc := 41) 2 dX10_doClose_41 rfl ?_
        refine aw_iadd (pc := 42) dX10_doClose_42 ?_
        refine aw_iconst (pc := 43) 1 dX10_doClose_43 (by decide) ?_
        refine aw_iast (pc := 44) (j := ((391 + (6 * x1)) + x2).toNatClampNeg) (v := 1) dX10_doClose_44 nn_236 ki_236 ln_236 h.1 rfl rfl ?_
        have h := h.2
        refine aw_tops (fun τ44 eτ44 => ?_)
        have h := h τ44 eτ44
        refine aw_aload_n (pc := 45) 0 dX10_doClose_45 rfl ?_
        refine aw_callV (pc := 46) (As := []) (rest := []) kcX10 nn_233 ki_233 rfl (ev_X10_layAll l  h) mfX10_layAll dX10_doClose_46 lmX10_310 ⟨Nat.le_refl _, Nat.le_refl _⟩ (by decide) rfl rfl (Nat.le_of_ble_eq_true rfl) (nxV (fun τ46 h => ?_))
        refine aw_aload_n (pc := 49) 0 dX10_doClose_49 rfl ?_
        refine aw_getR (pc := 50) 36 kcX10 dX10_doClose_50 lfX10_67 nn_233 ki_233 (by decide) rfl rf_233_36 ?_
        refine aw_bipush (pc := 53) 6 dX10_doClose_53 (by decide) ?_
        refine aw_iload_n (pc := 55) 1 dX10_doClose_55 rfl ?_
        refine aw_imul (pc := 56) dX10_doClose_56 ?_
        refine aw_iload_n (pc := 57) 2 dX10_doClose_57 rfl ?_
        refine aw_iadd (pc := 58) dX10_doClose_58 ?_
        refine aw_iald (pc := 59) (j := ((6 * x1) + x2).toNatClampNeg) dX10_doClose_59 nn_251 ki_251 ln_251 h.1 rfl ?_
        have h := h.2
        exact aw_iret (pc := 60) rfl dX10_doClose_60 ⟨_, rfl, h⟩
      · have h := h.1 q
        refine aw_bipush (pc := 26) (-2) dX10_doClose_26 (by decide) ?_
        exact aw_iret (pc := 28) rfl dX10_doClose_28 ⟨_, rfl, h⟩
    · have h := h.1 q
      refine aw_iconst (pc := 15) (-1) dX10_doClose_15 (by decide) ?_
      exact aw_iret (pc := 16) rfl dX10_doClose_16 ⟨_, rfl, h⟩
def wp_X10_doDeed (x1 : Int32) (σ : Sg) (K : Int32 → Sg → Prop) : Prop :=
  vp_in x1 500 ∧ (∀ v6 : Int32, v6 = σ 241 x1.toNatClampNeg → (br (v6 = 0) (vp_in (x1 + 1) 500 ∧ (vp_in (x1 + 2) 500 ∧ (vp_in (x1 + 3) 500 ∧ (vp_in (x1 + 4) 500 ∧ (wp_X10_doTie (σ 241 (x1 + 1).toNatClampNeg) (σ 241 (x1 + 2).toNatClampNeg) (σ 241 (x1 + 3).toNatClampNeg) (σ 241 (x1 + 4).toNatClampNeg) σ <| fun r44_ τ44 => (K r44_ τ44)))))) (br (v6 = 1) (vp_in (x1 + 1) 500 ∧ (vp_in (x1 + 2) 500 ∧ (vp_in (x1 + 3) 500 ∧ (wp_X10_doPlay (σ 241 (x1 + 1).toNatClampNeg) (σ 241 (x1 + 2).toNatClampNeg) (σ 241 (x1 + 3).toNatClampNeg) σ <| fun r80_ τ80 => (K r80_ τ80))))) (vp_in (x1 + 1) 500 ∧ (vp_in (x1 + 2) 500 ∧ (wp_X10_doClose (σ 241 (x1 + 1).toNatClampNeg) (σ 241 (x1 + 2).toNatClampNeg) σ <| fun r103_ τ103 => (K r103_ τ103)))))))
set_option maxRecDepth 20000 in
set_option maxHeartbeats 2000000 in
theorem ev_X10_doDeed (l : Launch) (x1 : Int32) {σ : Sg} {K : Int32 → Sg → Prop} (h : wp_X10_doDeed x1 σ K) : Ev l yX10_doDeed cX10_doDeed 3 (some .int) 9 [.ref 233, .int x1] σ (qI K) := by
  refine ev_ov (by decide) (Nat.le_of_ble_eq_true rfl) ?_
  show AV l RX10 cX10_doDeed 3 (some .int) 9 (qI K) 0 [(0, .ref 233), (1, .int x1)] [] σ
  refine aw_aload_n (pc := 0) 0 dX10_doDeed_0 rfl ?_
  refine aw_getR (pc := 1) 14 kcX10 dX10_doDeed_1 lfX10_37 nn_233 ki_233 (by decide) rfl rf_233_14 ?_
  refine aw_iload_n (pc := 4) 1 dX10_doDeed_4 rfl ?_
  refine aw_iald (pc := 5) (j := x1.toNatClampNeg) dX10_doDeed_5 nn_241 ki_241 ln_241 h.1 rfl ?_
  have h := h.2
  refine aw_topi (fun v6 ev6 => ?_)
  have h := h v6 ev6
  refine aw_istore_n (pc := 6) (i := 2) [(2, .int v6), (0, .ref 233), (1, .int x1)] dX10_doDeed_6 rfl (by decide) rfl ?_
  refine aw_iload_n (pc := 7) 0 dX10_doDeed_7 rfl ?_
  refine aw_if_ne (pc := 8) 50 dX10_doDeed_8 (by decide) (fun q => ?_) (fun q => ?_)
  · have h := h.2 q
    refine aw_iload_n (pc := 50) 0 dX10_doDeed_50 rfl ?_
    refine aw_iconst (pc := 51) 1 dX10_doDeed_51 (by decide) ?_
    refine aw_icmp_ne (pc := 52) 86 dX10_doDeed_52 (by decide) (fun q => ?_) (fun q => ?_)
    · have h := h.2 q
      refine aw_aload_n (pc := 86) 1 dX10_doDeed_86 rfl ?_
      refine aw_aload_n (pc := 87) 1 dX10_doDeed_87 rfl ?_
      refine aw_getR (pc := 88) 14 kcX10 dX10_doDeed_88 lfX10_37 nn_233 ki_233 (by decide) rfl rf_233_14 ?_
      refine aw_iload_n (pc := 91) 2 dX10_doDeed_91 rfl ?_
      refine aw_iconst (pc := 92) 1 dX10_doDeed_92 (by decide) ?_
      refine aw_iadd (pc := 93) dX10_doDeed_93 ?_
      refine aw_iald (pc := 94) (j := (x1 + 1).toNatClampNeg) dX10_doDeed_94 nn_241 ki_241 ln_241 h.1 rfl ?_
      have h := h.2
      refine aw_aload_n (pc := 95) 1 dX10_doDeed_95 rfl ?_
      refine aw_getR (pc := 96) 14 kcX10 dX10_doDeed_96 lfX10_37 nn_233 ki_233 (by decide) rfl rf_233_14 ?_
      refine aw_iload_n (pc := 99) 2 dX10_doDeed_99 rfl ?_
      refine aw_iconst (pc := 100) 2 dX10_doDeed_100 (by decide) ?_
      refine aw_iadd (pc := 101) dX10_doDeed_101 ?_
      refine aw_iald (pc := 102) (j := (x1 + 2).toNatClampNeg) dX10_doDeed_102 nn_241 ki_241 ln_241 h.1 rfl ?_
      have h := h.2
      refine aw_callV (pc := 103) (As := [.int (σ 241 (x1 + 1).toNatClampNeg), .int (σ 241 (x1 + 2).toNatClampNeg)]) (rest := []) kcX10 nn_233 ki_233 rfl (ev_X10_doClose l (σ 241 (x1 + 1).toNatClampNeg) (σ 241 (x1 + 2).toNatClampNeg) h) mfX10_doClose dX10_doDeed_103 lmX10_226 ⟨Nat.le_refl _, Nat.le_refl _⟩ (by decide) rfl rfl (Nat.le_of_ble_eq_true rfl) (nxI (fun r103_ τ103 h => ?_))
      exact aw_iret (pc := 106) rfl dX10_doDeed_106 ⟨_, rfl, h⟩
    · have h := h.1 q
      refine aw_aload_n (pc := 55) 1 dX10_doDeed_55 rfl ?_
      refine aw_aload_n (pc := 56) 1 dX10_doDeed_56 rfl ?_
      refine aw_getR (pc := 57) 14 kcX10 dX10_doDeed_57 lfX10_37 nn_233 ki_233 (by decide) rfl rf_233_14 ?_
      refine aw_iload_n (pc := 60) 2 dX10_doDeed_60 rfl ?_
      refine aw_iconst (pc := 61) 1 dX10_doDeed_61 (by decide) ?_
      refine aw_iadd (pc := 62) dX10_doDeed_62 ?_
      refine aw_iald (pc := 63) (j := (x1 + 1).toNatClampNeg) dX10_doDeed_63 nn_241 ki_241 ln_241 h.1 rfl ?_
      have h := h.2
      refine aw_aload_n (pc := 64) 1 dX10_doDeed_64 rfl ?_
      refine aw_getR (pc := 65) 14 kcX10 dX10_doDeed_65 lfX10_37 nn_233 ki_233 (by decide) rfl rf_233_14 ?_
      refine aw_iload_n (pc := 68) 2 dX10_doDeed_68 rfl ?_
      refine aw_iconst (pc := 69) 2 dX10_doDeed_69 (by decide) ?_
      refine aw_iadd (pc := 70) dX10_doDeed_70 ?_
      refine aw_iald (pc := 71) (j := (x1 + 2).toNatClampNeg) dX10_doDeed_71 nn_241 ki_241 ln_241 h.1 rfl ?_
      have h := h.2
      refine aw_aload_n (pc := 72) 1 dX10_doDeed_72 rfl ?_
      refine aw_getR (pc := 73) 14 kcX10 dX10_doDeed_73 lfX10_37 nn_233 ki_233 (by decide) rfl rf_233_14 ?_
      refine aw_iload_n (pc := 76) 2 dX10_doDeed_76 rfl ?_
      refine aw_iconst (pc := 77) 3 dX10_doDeed_77 (by decide) ?_
      refine aw_iadd (pc := 78) dX10_doDeed_78 ?_
      refine aw_iald (pc := 79) (j := (x1 + 3).toNatClampNeg) dX10_doDeed_79 nn_241 ki_241 ln_241 h.1 rfl ?_
      have h := h.2
      refine aw_callV (pc := 80) (As := [.int (σ 241 (x1 + 1).toNatClampNeg), .int (σ 241 (x1 + 2).toNatClampNeg), .int (σ 241 (x1 + 3).toNatClampNeg)]) (rest := []) kcX10 nn_233 ki_233 rfl (ev_X10_doPlay l (σ 241 (x1 + 1).toNatClampNeg) (σ 241 (x1 + 2).toNatClampNeg) (σ 241 (x1 + 3).toNatClampNeg) h) mfX10_doPlay dX10_doDeed_80 lmX10_222 ⟨Nat.le_refl _, Nat.le_refl _⟩ (by decide) rfl rfl (Nat.le_of_ble_eq_true rfl) (nxI (fun r80_ τ80 h => ?_))
      refine aw_goto (pc := 83) 106 dX10_doDeed_83 (by decide) ?_
      exact aw_iret (pc := 106) rfl dX10_doDeed_106 ⟨_, rfl, h⟩
  · have h := h.1 q
    refine aw_aload_n (pc := 11) 1 dX10_doDeed_11 rfl ?_
    refine aw_aload_n (pc := 12) 1 dX10_doDeed_12 rfl ?_
    refine aw_getR (pc := 13) 14 kcX10 dX10_doDeed_13 lfX10_37 nn_233 ki_233 (by decide) rfl rf_233_14 ?_
    refine aw_iload_n (pc := 16) 2 dX10_doDeed_16 rfl ?_
    refine aw_iconst (pc := 17) 1 dX10_doDeed_17 (by decide) ?_
    refine aw_iadd (pc := 18) dX10_doDeed_18 ?_
    refine aw_iald (pc := 19) (j := (x1 + 1).toNatClampNeg) dX10_doDeed_19 nn_241 ki_241 ln_241 h.1 rfl ?_
    have h := h.2
    refine aw_aload_n (pc := 20) 1 dX10_doDeed_20 rfl ?_
    refine aw_getR (pc := 21) 14 kcX10 dX10_doDeed_21 lfX10_37 nn_233 ki_233 (by decide) rfl rf_233_14 ?_
    refine aw_iload_n (pc := 24) 2 dX10_doDeed_24 rfl ?_
    refine aw_iconst (pc := 25) 2 dX10_doDeed_25 (by decide) ?_
    refine aw_iadd (pc := 26) dX10_doDeed_26 ?_
    refine aw_iald (pc := 27) (j := (x1 + 2).toNatClampNeg) dX10_doDeed_27 nn_241 ki_241 ln_241 h.1 rfl ?_
    have h := h.2
    refine aw_aload_n (pc := 28) 1 dX10_doDeed_28 rfl ?_
    refine aw_getR (pc := 29) 14 kcX10 dX10_doDeed_29 lfX10_37 nn_233 ki_233 (by decide) rfl rf_233_14 ?_
    refine aw_iload_n (pc := 32) 2 dX10_doDeed_32 rfl ?_
    refine aw_iconst (pc := 33) 3 dX10_doDeed_33 (by decide) ?_
    refine aw_iadd (pc := 34) dX10_doDeed_34 ?_
    refine aw_iald (pc := 35) (j := (x1 + 3).toNatClampNeg) dX10_doDeed_35 nn_241 ki_241 ln_241 h.1 rfl ?_
    have h := h.2
    refine aw_aload_n (pc := 36) 1 dX10_doDeed_36 rfl ?_
    refine aw_getR (pc := 37) 14 kcX10 dX10_doDeed_37 lfX10_37 nn_233 ki_233 (by decide) rfl rf_233_14 ?_
    refine aw_iload_n (pc := 40) 2 dX10_doDeed_40 rfl ?_
    refine aw_iconst (pc := 41) 4 dX10_doDeed_41 (by decide) ?_
    refine aw_iadd (pc := 42) dX10_doDeed_42 ?_
    refine aw_iald (pc := 43) (j := (x1 + 4).toNatClampNeg) dX10_doDeed_43 nn_241 ki_241 ln_241 h.1 rfl ?_
    have h := h.2
    refine aw_callV (pc := 44) (As := [.int (σ 241 (x1 + 1).toNatClampNeg), .int (σ 241 (x1 + 2).toNatClampNeg), .int (σ 241 (x1 + 3).toNatClampNeg), .int (σ 241 (x1 + 4).toNatClampNeg)]) (rest := []) kcX10 nn_233 ki_233 rfl (ev_X10_doTie l (σ 241 (x1 + 1).toNatClampNeg) (σ 241 (x1 + 2).toNatClampNeg) (σ 241 (x1 + 3).toNatClampNeg) (σ 241 (x1 + 4).toNatClampNeg) h) mfX10_doTie dX10_doDeed_44 lmX10_218 ⟨Nat.le_refl _, Nat.le_refl _⟩ (by decide) rfl rfl (Nat.le_of_ble_eq_true rfl) (nxI (fun r44_ τ44 h => ?_))
    refine aw_goto (pc := 47) 106 dX10_doDeed_47 (by decide) ?_
    exact aw_iret (pc := 106) rfl dX10_doDeed_106 ⟨_, rfl, h⟩
def b_X10_prepare_52   (K : Sg → Prop)  (σ : Sg) : Prop :=
  wp_X10_remember  σ <| fun τ53 => (K τ53)
set_option maxRecDepth 20000 in
set_option maxHeartbeats 2000000 in
theorem bt_X10_prepare_52 (l : Launch)  {K : Sg → Prop}     (σ : Sg) (h : b_X10_prepare_52   K  σ) : AV l RX10 cX10_prepare 2 none 1 (qV K) 52 [(0, .ref 233)] [] σ := by
  refine aw_aload_n (pc := 52) 0 dX10_prepare_52 rfl ?_
  refine aw_callV (pc := 53) (As := []) (rest := []) kcX10 nn_233 ki_233 rfl (ev_X10_remember l  h) mfX10_remember dX10_prepare_53 lmX10_249 ⟨Nat.le_refl _, Nat.le_refl _⟩ (by decide) rfl rfl (Nat.le_of_ble_eq_true rfl) (nxV (fun τ53 h => ?_))
  exact aw_vret (pc := 56) rfl dX10_prepare_56 ⟨rfl, h⟩
def b_X10_prepare_20   (K : Sg → Prop) : Nat → Int32 → Sg → Prop
  | 0, _, _ => False
  | n + 1, y1, σ =>
  br (415 ≤ y1) (b_X10_prepare_52   K  σ) (br ((σ 233 17) = 0) (b_X10_prepare_52   K  σ) (vp_in y1 4980 ∧ (vp_in y1 415 ∧ (∀ τ45 : Sg, τ45 = up σ 242 y1.toNatClampNeg (σ 237 y1.toNatClampNeg) → (∀ v46 : Int32, v46 = y1 + 1 → (b_X10_prepare_20   K n v46 τ45))))))
set_option maxRecDepth 20000 in
set_option maxHeartbeats 2000000 in
theorem bt_X10_prepare_20 (l : Launch)  {K : Sg → Prop}   : ∀ (n : Nat) (y1 : Int32)  (σ : Sg), b_X10_prepare_20   K n y1 σ → AV l RX10 cX10_prepare 2 none 1 (qV K) 20 [(0, .ref 233), (1, .int y1)] [] σ := by
  intro n
  induction n with
  | zero => intro y1 σ h; exact h.elim
  | succ n ih =>
    intro y1 σ h
    refine aw_iload_n (pc := 20) 1 dX10_prepare_20 rfl ?_
    refine aw_sipush (pc := 21) 415 dX10_prepare_21 (by decide) ?_
    refine aw_icmp_ge (pc := 24) 52 dX10_prepare_24 (by decide) (fun q => ?_) (fun q => ?_)
    · have h := h.1 q
      refine aw_sub (L' := [(0, .ref 233)]) [0] rfl ?_
      exact bt_X10_prepare_52 l      _ h
    · have h := h.2 q
      refine aw_aload_n (pc := 27) 0 dX10_prepare_27 rfl ?_
      refine aw_getI (pc := 28) 17 kcX10 dX10_prepare_28 lfX10_246 nn_233 ki_233 (by decide) rfl ?_
      refine aw_if_eq (pc := 31) 52 dX10_prepare_31 (by decide) (fun q => ?_) (fun q => ?_)
      · have h := h.1 q
        refine aw_sub (L' := [(0, .ref 233)]) [0] rfl ?_
        exact bt_X10_prepare_52 l      _ h
      · have h := h.2 q
        refine aw_aload_n (pc := 34) 0 dX10_prepare_34 rfl ?_
        refine aw_getR (pc := 35) 16 kcX10 dX10_prepare_35 lfX10_40 nn_233 ki_233 (by decide) rfl rf_233_16 ?_
        refine aw_iload_n (pc := 38) 1 dX10_prepare_38 rfl ?_
        refine aw_aload_n (pc := 39) 0 dX10_prepare_39 rfl ?_
        refine aw_getR (pc := 40) 4 kcX10 dX10_prepare_40 lfX10_19 nn_233 ki_233 (by decide) rfl rf_233_4 ?_
        refine aw_iload_n (pc := 43) 1 dX10_prepare_43 rfl ?_
        refine aw_iald (pc := 44) (j := y1.toNatClampNeg) dX10_prepare_44 nn_237 ki_237 ln_237 h.1 rfl ?_
        have h := h.2
        refine aw_iast (pc := 45) (j := y1.toNatClampNeg) (v := (σ 237 y1.toNatClampNeg)) dX10_prepare_45 nn_242 ki_242 ln_242 h.1 rfl rfl ?_
        have h := h.2
        refine aw_tops (fun τ45 eτ45 => ?_)
        have h := h τ45 eτ45
        obtain ⟨v46, ev46⟩ : ∃ v : Int32, v = y1 + 1 := ⟨_, rfl⟩
        have h := h v46 ev46
        refine aw_iinc (pc := 46) 1 v46 [(1, .int v46), (0, .ref 233)] dX10_prepare_46 rfl (by rw [ev46]; rfl) (by decide) rfl ?_
        refine aw_goto (pc := 49) 20 dX10_prepare_49 (by decide) ?_
        refine aw_sub (L' := [(0, .ref 233), (1, .int v46)]) [1, 0] rfl ?_
        exact ih v46  _ h
def b_X10_prepare_15   (K : Sg → Prop) (z0 : Int32) (σ : Sg) : Prop :=
  isZ z0 ∧ (∀ τ15 : Sg, τ15 = up σ 233 17 z0 → (∃ nf, b_X10_prepare_20   K nf 0 τ15))
set_option maxRecDepth 20000 in
set_option maxHeartbeats 2000000 in
theorem bt_X10_prepare_15 (l : Launch)  {K : Sg → Prop}   (z0 : Int32)  (σ : Sg) (h : b_X10_prepare_15   K z0 σ) : AV l RX10 cX10_prepare 2 none 1 (qV K) 15 [(0, .ref 233)] [.int z0, .ref 233] σ := by
  refine aw_put (pc := 15) 17 kcX10 dX10_prepare_15 lfX10_246 nn_233 ki_233 (by decide) rfl rfl (isZ_n h.1) (isZ_f h.1) ?_
  have h := h.2
  refine aw_tops (fun τ15 eτ15 => ?_)
  have h := h τ15 eτ15
  refine aw_iconst (pc := 18) 0 dX10_prepare_18 (by decide) ?_
  refine aw_istore_n (pc := 19) (i := 1) [(1, .int 0), (0, .ref 233)] dX10_prepare_19 rfl (by decide) rfl ?_
  refine aw_sub (L' := [(0, .ref 233), (1, .int 0)]) [1, 0] rfl ?_
  obtain ⟨nf, h⟩ := h
  exact bt_X10_prepare_20 l    nf 0  _ h
def wp_X10_prepare  (σ : Sg) (K : Sg → Prop) : Prop :=
  br ((σ 233 5) = 12) (b_X10_prepare_15   K 1 σ) (b_X10_prepare_15   K 0 σ)
set_option maxRecDepth 20000 in
set_option maxHeartbeats 2000000 in
theorem ev_X10_prepare (l : Launch)  {σ : Sg} {K : Sg → Prop} (h : wp_X10_prepare  σ K) : Ev l yX10_prepare cX10_prepare 2 none 1 [.ref 233] σ (qV K) := by
  refine ev_ov (by decide) (Nat.le_of_ble_eq_true rfl) ?_
  show AV l RX10 cX10_prepare 2 none 1 (qV K) 0 [(0, .ref 233)] [] σ
  refine aw_aload_n (pc := 0) 0 dX10_prepare_0 rfl ?_
  refine aw_aload_n (pc := 1) 0 dX10_prepare_1 rfl ?_
  refine aw_getI (pc := 2) 5 kcX10 dX10_prepare_2 lfX10_100 nn_233 ki_233 (by decide) rfl ?_
  refine aw_bipush (pc := 5) 12 dX10_prepare_5 (by decide) ?_
  refine aw_icmp_ne (pc := 7) 14 dX10_prepare_7 (by decide) (fun q => ?_) (fun q => ?_)
  · have h := h.2 q
    refine aw_iconst (pc := 14) 0 dX10_prepare_14 (by decide) ?_
    exact bt_X10_prepare_15 l    0  _ h
  · have h := h.1 q
    refine aw_iconst (pc := 10) 1 dX10_prepare_10 (by decide) ?_
    refine aw_goto (pc := 11) 15 dX10_prepare_11 (by decide) ?_
    exact bt_X10_prepare_15 l    1  _ h
def b_X10_forgetIf_54 (x1 : Int32)  (K : Sg → Prop) : Nat → Int32 → Sg → Prop
  | 0, _, _ => False
  | n + 1, y2, σ =>
  br (415 ≤ y2) (∀ τ82 : Sg, τ82 = up σ 233 5 12 → (K τ82)) (vp_in y2 415 ∧ (vp_in y2 4980 ∧ (∀ τ72 : Sg, τ72 = up σ 237 y2.toNatClampNeg (σ 242 y2.toNatClampNeg) → (∀ v73 : Int32, v73 = y2 + 1 → (b_X10_forgetIf_54 x1  K n v73 τ72)))))
set_option maxRecDepth 20000 in
set_option maxHeartbeats 2000000 in
theorem bt_X10_forgetIf_54 (l : Launch) (x1 : Int32) {K : Sg → Prop}   : ∀ (n : Nat) (y2 : Int32)  (σ : Sg), b_X10_forgetIf_54 x1  K n y2 σ → AV l RX10 cX10_forgetIf 3 none 0 (qV K) 54 [(0, .ref 233), (2, .int y2)] [] σ := by
  intro n
  induction n with
  | zero => intro y2 σ h; exact h.elim
  | succ n ih =>
    intro y2 σ h
    refine aw_iload_n (pc := 54) 1 dX10_forgetIf_54 rfl ?_
    refine aw_sipush (pc := 55) 415 dX10_forgetIf_55 (by decide) ?_
    refine aw_icmp_ge (pc := 58) 79 dX10_forgetIf_58 (by decide) (fun q => ?_) (fun q => ?_)
    · have h := h.1 q
      refine aw_aload_n (pc := 79) 0 dX10_forgetIf_79 rfl ?_
      refine aw_bipush (pc := 80) 12 dX10_forgetIf_80 (by decide) ?_
      refine aw_put (pc := 82) 5 kcX10 dX10_forgetIf_82 lfX10_100 nn_233 ki_233 (by decide) rfl rfl rfl rfl ?_
      refine aw_tops (fun τ82 eτ82 => ?_)
      have h := h τ82 eτ82
      exact aw_vret (pc := 85) rfl dX10_forgetIf_85 ⟨rfl, h⟩
    · have h := h.2 q
      refine aw_aload_n (pc := 61) 0 dX10_forgetIf_61 rfl ?_
      refine aw_getR (pc := 62) 4 kcX10 dX10_forgetIf_62 lfX10_19 nn_233 ki_233 (by decide) rfl rf_233_4 ?_
      refine aw_iload_n (pc := 65) 1 dX10_forgetIf_65 rfl ?_
      refine aw_aload_n (pc := 66) 0 dX10_forgetIf_66 rfl ?_
      refine aw_getR (pc := 67) 16 kcX10 dX10_forgetIf_67 lfX10_40 nn_233 ki_233 (by decide) rfl rf_233_16 ?_
      refine aw_iload_n (pc := 70) 1 dX10_forgetIf_70 rfl ?_
      refine aw_iald (pc := 71) (j := y2.toNatClampNeg) dX10_forgetIf_71 nn_242 ki_242 ln_242 h.1 rfl ?_
      have h := h.2
      refine aw_iast (pc := 72) (j := y2.toNatClampNeg) (v := (σ 242 y2.toNatClampNeg)) dX10_forgetIf_72 nn_237 ki_237 ln_237 h.1 rfl rfl ?_
      have h := h.2
      refine aw_tops (fun τ72 eτ72 => ?_)
      have h := h τ72 eτ72
      obtain ⟨v73, ev73⟩ : ∃ v : Int32, v = y2 + 1 := ⟨_, rfl⟩
      have h := h v73 ev73
      refine aw_iinc (pc := 73) 1 v73 [(2, .int v73), (0, .ref 233)] dX10_forgetIf_73 rfl (by rw [ev73]; rfl) (by decide) rfl ?_
      refine aw_goto (pc := 76) 54 dX10_forgetIf_76 (by decide) ?_
      refine aw_sub (L' := [(0, .ref 233), (2, .int v73)]) [1, 0] rfl ?_
      exact ih v73  _ h
def b_X10_forgetIf_26 (x1 : Int32)  (K : Sg → Prop) : Nat → Int32 → Sg → Prop
  | 0, _, _ => False
  | n + 1, y2, σ =>
  br (y2 < 0) (∃ nf, b_X10_forgetIf_54 x1  K nf 0 σ) (vp_in y2 4980 ∧ (vp_in (y2 + 415) 4980 ∧ (∀ τ45 : Sg, τ45 = up σ 237 (y2 + 415).toNatClampNeg (σ 237 y2.toNatClampNeg) → (∀ v46 : Int32, v46 = y2 + (-1) → (b_X10_forgetIf_26 x1  K n v46 τ45)))))
set_option maxRecDepth 20000 in
set_option maxHeartbeats 2000000 in
theorem bt_X10_forgetIf_26 (l : Launch) (x1 : Int32) {K : Sg → Prop}   : ∀ (n : Nat) (y2 : Int32)  (σ : Sg), b_X10_forgetIf_26 x1  K n y2 σ → AV l RX10 cX10_forgetIf 3 none 0 (qV K) 26 [(0, .ref 233), (2, .int y2)] [] σ := by
  intro n
  induction n with
  | zero => intro y2 σ h; exact h.elim
  | succ n ih =>
    intro y2 σ h
    refine aw_iload_n (pc := 26) 1 dX10_forgetIf_26 rfl ?_
    refine aw_if_lt (pc := 27) 52 dX10_forgetIf_27 (by decide) (fun q => ?_) (fun q => ?_)
    · have h := h.1 q
      refine aw_iconst (pc := 52) 0 dX10_forgetIf_52 (by decide) ?_
      refine aw_istore_n (pc := 53) (i := 2) [(2, .int 0), (0, .ref 233)] dX10_forgetIf_53 rfl (by decide) rfl ?_
      refine aw_sub (L' := [(0, .ref 233), (2, .int 0)]) [1, 0] rfl ?_
      obtain ⟨nf, h⟩ := h
      exact bt_X10_forgetIf_54 l x1   nf 0  _ h
    · have h := h.2 q
      refine aw_aload_n (pc := 30) 0 dX10_forgetIf_30 rfl ?_
      refine aw_getR (pc := 31) 4 kcX10 dX10_forgetIf_31 lfX10_19 nn_233 ki_233 (by decide) rfl rf_233_4 ?_
      refine aw_iload_n (pc := 34) 1 dX10_forgetIf_34 rfl ?_
      refine aw_sipush (pc := 35) 415 dX10_forgetIf_35 (by decide) ?_
      refine aw_iadd (pc := 38) dX10_forgetIf_38 ?_
      refine aw_aload_n (pc := 39) 0 dX10_forgetIf_39 rfl ?_
      refine aw_getR (pc := 40) 4 kcX10 dX10_forgetIf_40 lfX10_19 nn_233 ki_233 (by decide) rfl rf_233_4 ?_
      refine aw_iload_n (pc := 43) 1 dX10_forgetIf_43 rfl ?_
      refine aw_iald (pc := 44) (j := y2.toNatClampNeg) dX10_forgetIf_44 nn_237 ki_237 ln_237 h.1 rfl ?_
      have h := h.2
      refine aw_iast (pc := 45) (j := (y2 + 415).toNatClampNeg) (v := (σ 237 y2.toNatClampNeg)) dX10_forgetIf_45 nn_237 ki_237 ln_237 h.1 rfl rfl ?_
      have h := h.2
      refine aw_tops (fun τ45 eτ45 => ?_)
      have h := h τ45 eτ45
      obtain ⟨v46, ev46⟩ : ∃ v : Int32, v = y2 + (-1) := ⟨_, rfl⟩
      have h := h v46 ev46
      refine aw_iinc (pc := 46) 1 v46 [(2, .int v46), (0, .ref 233)] dX10_forgetIf_46 rfl (by rw [ev46]; rfl) (by decide) rfl ?_
      refine aw_goto (pc := 49) 26 dX10_forgetIf_49 (by decide) ?_
      refine aw_sub (L' := [(0, .ref 233), (2, .int v46)]) [1, 0] rfl ?_
      exact ih v46  _ h
def wp_X10_forgetIf (x1 : Int32) (σ : Sg) (K : Sg → Prop) : Prop :=
  br (x1 = 0) (K σ) (∀ τ12 : Sg, τ12 = up σ 233 5 ((σ 233 5) - 1) → (br ((τ12 233 17) = 0) (K τ12) (∃ nf, b_X10_forgetIf_26 x1  K nf 4564 τ12)))
set_option maxRecDepth 20000 in
set_option maxHeartbeats 2000000 in
theorem ev_X10_forgetIf (l : Launch) (x1 : Int32) {σ : Sg} {K : Sg → Prop} (h : wp_X10_forgetIf x1 σ K) : Ev l yX10_forgetIf cX10_forgetIf 3 none 0 [.ref 233, .int x1] σ (qV K) := by
  refine ev_ov (by decide) (Nat.le_of_ble_eq_true rfl) ?_
  show AV l RX10 cX10_forgetIf 3 none 0 (qV K) 0 [(0, .ref 233), (1, .int x1)] [] σ
  refine aw_iload_n (pc := 0) 1 dX10_forgetIf_0 rfl ?_
  refine aw_if_ne (pc := 1) 5 dX10_forgetIf_1 (by decide) (fun q => ?_) (fun q => ?_)
  · have h := h.2 q
    refine aw_aload_n (pc := 5) 0 dX10_forgetIf_5 rfl ?_
    refine aw_dup (pc := 6) dX10_forgetIf_6 rfl ?_
    refine aw_getI (pc := 7) 5 kcX10 dX10_forgetIf_7 lfX10_100 nn_233 ki_233 (by decide) rfl ?_
    refine aw_iconst (pc := 10) 1 dX10_forgetIf_10 (by decide) ?_
    refine aw_isub (pc := 11) dX10_forgetIf_11 ?_
    refine aw_put (pc := 12) 5 kcX10 dX10_forgetIf_12 lfX10_100 nn_233 ki_233 (by decide) rfl rfl rfl rfl ?_
    refine aw_tops (fun τ12 eτ12 => ?_)
    have h := h τ12 eτ12
    refine aw_aload_n (pc := 15) 0 dX10_forgetIf_15 rfl ?_
    refine aw_getI (pc := 16) 17 kcX10 dX10_forgetIf_16 lfX10_246 nn_233 ki_233 (by decide) rfl ?_
    refine aw_if_eq (pc := 19) 85 dX10_forgetIf_19 (by decide) (fun q => ?_) (fun q => ?_)
    · have h := h.1 q
      exact aw_vret (pc := 85) rfl dX10_forgetIf_85 ⟨rfl, h⟩
    · have h := h.2 q
      refine aw_sipush (pc := 22) 4564 dX10_forgetIf_22 (by decide) ?_
      refine aw_istore_n (pc := 25) (i := 2) [(2, .int 4564), (0, .ref 233), (1, .int x1)] dX10_forgetIf_25 rfl (by decide) rfl ?_
      refine aw_sub (L' := [(0, .ref 233), (2, .int 4564)]) [1, 0] rfl ?_
      obtain ⟨nf, h⟩ := h
      exact bt_X10_forgetIf_26 l x1   nf 4564  _ h
  · have h := h.1 q
    exact aw_vret (pc := 4) rfl dX10_forgetIf_4 ⟨rfl, h⟩
def b_X10_deeds_118   (K : Int32 → Sg → Prop) (y1 : Int32) (z0 : Int32) (σ : Sg) : Prop :=
  wp_X10_forgetIf z0 σ <| fun τ118 => (K y1 τ118)
set_option maxRecDepth 20000 in
set_option maxHeartbeats 2000000 in
theorem bt_X10_deeds_118 (l : Launch)  {K : Int32 → Sg → Prop}   (y1 : Int32) (z0 : Int32)  (σ : Sg) (h : b_X10_deeds_118   K y1 z0 σ) : AV l RX10 cX10_deeds 2 (some .int) 10 (qI K) 118 [(1, .int y1)] [.int z0, .ref 233] σ := by
  refine aw_callV (pc := 118) (As := [.int z0]) (rest := []) kcX10 nn_233 ki_233 rfl (ev_X10_forgetIf l z0 h) mfX10_forgetIf dX10_deeds_118 lmX10_242 ⟨Nat.le_refl _, Nat.le_refl _⟩ (by decide) rfl rfl (Nat.le_of_ble_eq_true rfl) (nxV (fun τ118 h => ?_))
  refine aw_iload_n (pc := 121) 0 dX10_deeds_121 rfl ?_
  exact aw_iret (pc := 122) rfl dX10_deeds_122 ⟨_, rfl, h⟩
def b_X10_deeds_108   (K : Int32 → Sg → Prop) (y1 : Int32) (σ : Sg) : Prop :=
  br (y1 = 0) (b_X10_deeds_118   K y1 1 σ) (b_X10_deeds_118   K y1 0 σ)
set_option maxRecDepth 20000 in
set_option maxHeartbeats 2000000 in
theorem bt_X10_deeds_108 (l : Launch)  {K : Int32 → Sg → Prop}   (y1 : Int32)  (σ : Sg) (h : b_X10_deeds_108   K y1 σ) : AV l RX10 cX10_deeds 2 (some .int) 10 (qI K) 108 [(0, .ref 233), (1, .int y1)] [] σ := by
  refine aw_aload_n (pc := 108) 0 dX10_deeds_108 rfl ?_
  refine aw_iload_n (pc := 109) 1 dX10_deeds_109 rfl ?_
  refine aw_if_ne (pc := 110) 117 dX10_deeds_110 (by decide) (fun q => ?_) (fun q => ?_)
  · have h := h.2 q
    refine aw_iconst (pc := 117) 0 dX10_deeds_117 (by decide) ?_
    refine aw_sub (L' := [(1, .int y1)]) [1] rfl ?_
    exact bt_X10_deeds_118 l    y1 0  _ h
  · have h := h.1 q
    refine aw_iconst (pc := 113) 1 dX10_deeds_113 (by decide) ?_
    refine aw_goto (pc := 114) 118 dX10_deeds_114 (by decide) ?_
    refine aw_sub (L' := [(1, .int y1)]) [1] rfl ?_
    exact bt_X10_deeds_118 l    y1 1  _ h
def b_X10_deeds_84   (K : Int32 → Sg → Prop) : Nat → Int32 → Sg → Prop
  | 0, _, _ => False
  | n + 1, y1, σ =>
  br ((σ 233 15) ≤ y1) (b_X10_deeds_108   K y1 σ) (wp_X10_doDeed (5 * y1) σ <| fun r96_ τ96 => (br (r96_ < 0) (b_X10_deeds_108   K y1 τ96) (∀ v102 : Int32, v102 = y1 + 1 → (b_X10_deeds_84   K n v102 τ96))))
set_option maxRecDepth 20000 in
set_option maxHeartbeats 2000000 in
theorem bt_X10_deeds_84 (l : Launch)  {K : Int32 → Sg → Prop}   : ∀ (n : Nat) (y1 : Int32)  (σ : Sg), b_X10_deeds_84   K n y1 σ → AV l RX10 cX10_deeds 2 (some .int) 10 (qI K) 84 [(0, .ref 233), (1, .int y1)] [] σ := by
  intro n
  induction n with
  | zero => intro y1 σ h; exact h.elim
  | succ n ih =>
    intro y1 σ h
    refine aw_iload_n (pc := 84) 1 dX10_deeds_84 rfl ?_
    refine aw_aload_n (pc := 85) 0 dX10_deeds_85 rfl ?_
    refine aw_getI (pc := 86) 15 kcX10 dX10_deeds_86 lfX10_206 nn_233 ki_233 (by decide) rfl ?_
    refine aw_icmp_ge (pc := 89) 108 dX10_deeds_89 (by decide) (fun q => ?_) (fun q => ?_)
    · have h := h.1 q
      exact bt_X10_deeds_108 l    y1  _ h
    · have h := h.2 q
      refine aw_aload_n (pc := 92) 0 dX10_deeds_92 rfl ?_
      refine aw_iconst (pc := 93) 5 dX10_deeds_93 (by decide) ?_
      refine aw_iload_n (pc := 94) 1 dX10_deeds_94 rfl ?_
      refine aw_imul (pc := 95) dX10_deeds_95 ?_
      refine aw_callV (pc := 96) (As := [.int (5 * y1)]) (rest := []) kcX10 nn_233 ki_233 rfl (ev_X10_doDeed l (5 * y1) h) mfX10_doDeed dX10_deeds_96 lmX10_238 ⟨Nat.le_refl _, Nat.le_refl _⟩ (by decide) rfl rfl (Nat.le_of_ble_eq_true rfl) (nxI (fun r96_ τ96 h => ?_))
      refine aw_if_lt (pc := 99) 108 dX10_deeds_99 (by decide) (fun q => ?_) (fun q => ?_)
      · have h := h.1 q
        exact bt_X10_deeds_108 l    y1  _ h
      · have h := h.2 q
        obtain ⟨v102, ev102⟩ : ∃ v : Int32, v = y1 + 1 := ⟨_, rfl⟩
        have h := h v102 ev102
        refine aw_iinc (pc := 102) 1 v102 [(1, .int v102), (0, .ref 233)] dX10_deeds_102 rfl (by rw [ev102]; rfl) (by decide) rfl ?_
        refine aw_goto (pc := 105) 84 dX10_deeds_105 (by decide) ?_
        refine aw_sub (L' := [(0, .ref 233), (1, .int v102)]) [1, 0] rfl ?_
        exact ih v102  _ h
def b_X10_deeds_57   (K : Int32 → Sg → Prop)  (σ : Sg) : Prop :=
  ∀ τ59 : Sg, τ59 = up σ 233 9 0 → (br ((τ59 233 13) = 0) (K (-1) τ59) (wp_X10_isTold  τ59 <| fun r70_ τ70 => (br (r70_ = 0) (K (-1) τ70) (wp_X10_prepare  τ70 <| fun τ79 => (∃ nf, b_X10_deeds_84   K nf 0 τ79)))))
set_option maxRecDepth 20000 in
set_option maxHeartbeats 2000000 in
theorem bt_X10_deeds_57 (l : Launch)  {K : Int32 → Sg → Prop}     (σ : Sg) (h : b_X10_deeds_57   K  σ) : AV l RX10 cX10_deeds 2 (some .int) 10 (qI K) 57 [(0, .ref 233)] [] σ := by
  refine aw_aload_n (pc := 57) 0 dX10_deeds_57 rfl ?_
  refine aw_iconst (pc := 58) 0 dX10_deeds_58 (by decide) ?_
  refine aw_put (pc := 59) 9 kcX10 dX10_deeds_59 lfX10_103 nn_233 ki_233 (by decide) rfl rfl rfl rfl ?_
  refine aw_tops (fun τ59 eτ59 => ?_)
  have h := h τ59 eτ59
  refine aw_aload_n (pc := 62) 0 dX10_deeds_62 rfl ?_
  refine aw_getI (pc := 63) 13 kcX10 dX10_deeds_63 lfX10_112 nn_233 ki_233 (by decide) rfl ?_
  refine aw_if_eq (pc := 66) 76 dX10_deeds_66 (by decide) (fun q => ?_) (fun q => ?_)
  · have h := h.1 q
    refine aw_iconst (pc := 76) (-1) dX10_deeds_76 (by decide) ?_
    exact aw_iret (pc := 77) rfl dX10_deeds_77 ⟨_, rfl, h⟩
  · have h := h.2 q
    refine aw_aload_n (pc := 69) 0 dX10_deeds_69 rfl ?_
    refine aw_callV (pc := 70) (As := []) (rest := []) kcX10 nn_233 ki_233 rfl (ev_X10_isTold l  h) mfX10_isTold dX10_deeds_70 lmX10_232 ⟨Nat.le_refl _, Nat.le_refl _⟩ (by decide) rfl rfl (Nat.le_of_ble_eq_true rfl) (nxI (fun r70_ τ70 h => ?_))
    refine aw_if_ne (pc := 73) 78 dX10_deeds_73 (by decide) (fun q => ?_) (fun q => ?_)
    · have h := h.2 q
      refine aw_aload_n (pc := 78) 0 dX10_deeds_78 rfl ?_
      refine aw_callV (pc := 79) (As := []) (rest := []) kcX10 nn_233 ki_233 rfl (ev_X10_prepare l  h) mfX10_prepare dX10_deeds_79 lmX10_235 ⟨Nat.le_refl _, Nat.le_refl _⟩ (by decide) rfl rfl (Nat.le_of_ble_eq_true rfl) (nxV (fun τ79 h => ?_))
      refine aw_iconst (pc := 82) 0 dX10_deeds_82 (by decide) ?_
      refine aw_istore_n (pc := 83) (i := 1) [(1, .int 0), (0, .ref 233)] dX10_deeds_83 rfl (by decide) rfl ?_
      refine aw_sub (L' := [(0, .ref 233), (1, .int 0)]) [1, 0] rfl ?_
      obtain ⟨nf, h⟩ := h
      exact bt_X10_deeds_84 l    nf 0  _ h
    · have h := h.1 q
      refine aw_iconst (pc := 76) (-1) dX10_deeds_76 (by decide) ?_
      exact aw_iret (pc := 77) rfl dX10_deeds_77 ⟨_, rfl, h⟩
def b_X10_deeds_18   (K : Int32 → Sg → Prop) : Nat → Sg → Prop
  | 0, _ => False
  | n + 1, σ =>
  wp_X10_takes 59 σ <| fun r21_ τ21 => (br (r21_ = 0) (br ((τ21 233 13) = 0) (b_X10_deeds_57   K  τ21) (wp_X10_isEnd  τ21 <| fun r42_ τ42 => (br (r42_ = 0) (wp_X10_wrong 1 (τ42 233 10) τ42 <| fun τ54 => (b_X10_deeds_57   K  τ54)) (b_X10_deeds_57   K  τ42)))) (wp_X10_readDeed  τ21 <| fun τ28 => (b_X10_deeds_18   K n  τ28)))
set_option maxRecDepth 20000 in
set_option maxHeartbeats 2000000 in
theorem bt_X10_deeds_18 (l : Launch)  {K : Int32 → Sg → Prop}   : ∀ (n : Nat)   (σ : Sg), b_X10_deeds_18   K n  σ → AV l RX10 cX10_deeds 2 (some .int) 10 (qI K) 18 [(0, .ref 233)] [] σ := by
  intro n
  induction n with
  | zero => intro  σ h; exact h.elim
  | succ n ih =>
    intro  σ h
    refine aw_aload_n (pc := 18) 0 dX10_deeds_18 rfl ?_
    refine aw_bipush (pc := 19) 59 dX10_deeds_19 (by decide) ?_
    refine aw_callV (pc := 21) (As := [.int 59]) (rest := []) kcX10 nn_233 ki_233 rfl (ev_X10_takes l 59 h) mfX10_takes dX10_deeds_21 lmX10_194 ⟨Nat.le_refl _, Nat.le_refl _⟩ (by decide) rfl rfl (Nat.le_of_ble_eq_true rfl) (nxI (fun r21_ τ21 h => ?_))
    refine aw_if_eq (pc := 24) 34 dX10_deeds_24 (by decide) (fun q => ?_) (fun q => ?_)
    · have h := h.1 q
      refine aw_aload_n (pc := 34) 0 dX10_deeds_34 rfl ?_
      refine aw_getI (pc := 35) 13 kcX10 dX10_deeds_35 lfX10_112 nn_233 ki_233 (by decide) rfl ?_
      refine aw_if_eq (pc := 38) 57 dX10_deeds_38 (by decide) (fun q => ?_) (fun q => ?_)
      · have h := h.1 q
        exact bt_X10_deeds_57 l      _ h
      · have h := h.2 q
        refine aw_aload_n (pc := 41) 0 dX10_deeds_41 rfl ?_
        refine aw_callV (pc := 42) (As := []) (rest := []) kcX10 nn_233 ki_233 rfl (ev_X10_isEnd l  h) mfX10_isEnd dX10_deeds_42 lmX10_198 ⟨Nat.le_refl _, Nat.le_refl _⟩ (by decide) rfl rfl (Nat.le_of_ble_eq_true rfl) (nxI (fun r42_ τ42 h => ?_))
        refine aw_if_ne (pc := 45) 57 dX10_deeds_45 (by decide) (fun q => ?_) (fun q => ?_)
        · have h := h.2 q
          exact bt_X10_deeds_57 l      _ h
        · have h := h.1 q
          refine aw_aload_n (pc := 48) 0 dX10_deeds_48 rfl ?_
          refine aw_iconst (pc := 49) 1 dX10_deeds_49 (by decide) ?_
          refine aw_aload_n (pc := 50) 0 dX10_deeds_50 rfl ?_
          refine aw_getI (pc := 51) 10 kcX10 dX10_deeds_51 lfX10_109 nn_233 ki_233 (by decide) rfl ?_
          refine aw_callV (pc := 54) (As := [.int 1, .int (τ42 233 10)]) (rest := []) kcX10 nn_233 ki_233 rfl (ev_X10_wrong l 1 (τ42 233 10) h) mfX10_wrong dX10_deeds_54 lmX10_141 ⟨Nat.le_refl _, Nat.le_refl _⟩ (by decide) rfl rfl (Nat.le_of_ble_eq_true rfl) (nxV (fun τ54 h => ?_))
          exact bt_X10_deeds_57 l      _ h
    · have h := h.2 q
      refine aw_aload_n (pc := 27) 0 dX10_deeds_27 rfl ?_
      refine aw_callV (pc := 28) (As := []) (rest := []) kcX10 nn_233 ki_233 rfl (ev_X10_readDeed l  h) mfX10_readDeed dX10_deeds_28 lmX10_229 ⟨Nat.le_refl _, Nat.le_refl _⟩ (by decide) rfl rfl (Nat.le_of_ble_eq_true rfl) (nxV (fun τ28 h => ?_))
      refine aw_goto (pc := 31) 18 dX10_deeds_31 (by decide) ?_
      exact ih   _ h
def wp_X10_deeds  (σ : Sg) (K : Int32 → Sg → Prop) : Prop :=
  ∀ τ2 : Sg, τ2 = up σ 233 0 0 → (wp_X10_beginText  τ2 <| fun τ6 => (∀ τ11 : Sg, τ11 = up τ6 233 15 0 → (wp_X10_readDeed  τ11 <| fun τ15 => (∃ nf, b_X10_deeds_18   K nf  τ15))))
set_option maxRecDepth 20000 in
set_option maxHeartbeats 2000000 in
theorem ev_X10_deeds (l : Launch)  {σ : Sg} {K : Int32 → Sg → Prop} (h : wp_X10_deeds  σ K) : Ev l yX10_deeds cX10_deeds 2 (some .int) 10 [.ref 233] σ (qI K) := by
  refine ev_ov (by decide) (Nat.le_of_ble_eq_true rfl) ?_
  show AV l RX10 cX10_deeds 2 (some .int) 10 (qI K) 0 [(0, .ref 233)] [] σ
  refine aw_aload_n (pc := 0) 0 dX10_deeds_0 rfl ?_
  refine aw_iconst (pc := 1) 0 dX10_deeds_1 (by decide) ?_
  refine aw_put (pc := 2) 0 kcX10 dX10_deeds_2 lfX10_91 nn_233 ki_233 (by decide) rfl rfl rfl rfl ?_
  refine aw_tops (fun τ2 eτ2 => ?_)
  have h := h τ2 eτ2
  refine aw_aload_n (pc := 5) 0 dX10_deeds_5 rfl ?_
  refine aw_callV (pc := 6) (As := []) (rest := []) kcX10 nn_233 ki_233 rfl (ev_X10_beginText l  h) mfX10_beginText dX10_deeds_6 lmX10_188 ⟨Nat.le_refl _, Nat.le_refl _⟩ (by decide) rfl rfl (Nat.le_of_ble_eq_true rfl) (nxV (fun τ6 h => ?_))
  refine aw_aload_n (pc := 9) 0 dX10_deeds_9 rfl ?_
  refine aw_iconst (pc := 10) 0 dX10_deeds_10 (by decide) ?_
  refine aw_put (pc := 11) 15 kcX10 dX10_deeds_11 lfX10_206 nn_233 ki_233 (by decide) rfl rfl rfl rfl ?_
  refine aw_tops (fun τ11 eτ11 => ?_)
  have h := h τ11 eτ11
  refine aw_aload_n (pc := 14) 0 dX10_deeds_14 rfl ?_
  refine aw_callV (pc := 15) (As := []) (rest := []) kcX10 nn_233 ki_233 rfl (ev_X10_readDeed l  h) mfX10_readDeed dX10_deeds_15 lmX10_229 ⟨Nat.le_refl _, Nat.le_refl _⟩ (by decide) rfl rfl (Nat.le_of_ble_eq_true rfl) (nxV (fun τ15 h => ?_))
  obtain ⟨nf, h⟩ := h
  exact bt_X10_deeds_18 l    nf   _ h
def b_X10_told_10 (x1 : Int32)  (K : Int32 → Sg → Prop) (z0 : Int32) (σ : Sg) : Prop :=
  wp_X10_forgetIf z0 σ <| fun τ10 => (K x1 τ10)
set_option maxRecDepth 20000 in
set_option maxHeartbeats 2000000 in
theorem bt_X10_told_10 (l : Launch) (x1 : Int32) {K : Int32 → Sg → Prop}   (z0 : Int32)  (σ : Sg) (h : b_X10_told_10 x1  K z0 σ) : AV l RX10 cX10_told 2 (some .int) 1 (qI K) 10 [(1, .int x1)] [.int z0, .ref 233] σ := by
  refine aw_callV (pc := 10) (As := [.int z0]) (rest := []) kcX10 nn_233 ki_233 rfl (ev_X10_forgetIf l z0 h) mfX10_forgetIf dX10_told_10 lmX10_242 ⟨Nat.le_refl _, Nat.le_refl _⟩ (by decide) rfl rfl (Nat.le_of_ble_eq_true rfl) (nxV (fun τ10 h => ?_))
  refine aw_iload_n (pc := 13) 0 dX10_told_13 rfl ?_
  exact aw_iret (pc := 14) rfl dX10_told_14 ⟨_, rfl, h⟩
def wp_X10_told (x1 : Int32) (σ : Sg) (K : Int32 → Sg → Prop) : Prop :=
  br (0 ≤ x1) (b_X10_told_10 x1  K 0 σ) (b_X10_told_10 x1  K 1 σ)
set_option maxRecDepth 20000 in
set_option maxHeartbeats 2000000 in
theorem ev_X10_told (l : Launch) (x1 : Int32) {σ : Sg} {K : Int32 → Sg → Prop} (h : wp_X10_told x1 σ K) : Ev l yX10_told cX10_told 2 (some .int) 1 [.ref 233, .int x1] σ (qI K) := by
  refine ev_ov (by decide) (Nat.le_of_ble_eq_true rfl) ?_
  show AV l RX10 cX10_told 2 (some .int) 1 (qI K) 0 [(0, .ref 233), (1, .int x1)] [] σ
  refine aw_aload_n (pc := 0) 0 dX10_told_0 rfl ?_
  refine aw_iload_n (pc := 1) 1 dX10_told_1 rfl ?_
  refine aw_if_ge (pc := 2) 9 dX10_told_2 (by decide) (fun q => ?_) (fun q => ?_)
  · have h := h.1 q
    refine aw_iconst (pc := 9) 0 dX10_told_9 (by decide) ?_
    refine aw_sub (L' := [(1, .int x1)]) [1] rfl ?_
    exact bt_X10_told_10 l x1   0  _ h
  · have h := h.2 q
    refine aw_iconst (pc := 5) 1 dX10_told_5 (by decide) ?_
    refine aw_goto (pc := 6) 10 dX10_told_6 (by decide) ?_
    refine aw_sub (L' := [(1, .int x1)]) [1] rfl ?_
    exact bt_X10_told_10 l x1   1  _ h
def wp_X10_tie (x1 : Int32) (x2 : Int32) (x3 : Int32) (x4 : Int32) (σ : Sg) (K : Int32 → Sg → Prop) : Prop :=
  ∀ τ2 : Sg, τ2 = up σ 233 0 0 → (wp_X10_prepare  τ2 <| fun τ6 => (wp_X10_doTie x1 x2 x3 x4 τ6 <| fun r16_ τ16 => (wp_X10_told r16_ τ16 <| fun r19_ τ19 => (K r19_ τ19))))
set_option maxRecDepth 20000 in
set_option maxHeartbeats 2000000 in
theorem ev_X10_tie (l : Launch) (x1 : Int32) (x2 : Int32) (x3 : Int32) (x4 : Int32) {σ : Sg} {K : Int32 → Sg → Prop} (h : wp_X10_tie x1 x2 x3 x4 σ K) : Ev l yX10_tie cX10_tie 5 (some .int) 7 [.ref 233, .int x1, .int x2, .int x3, .int x4] σ (qI K) := by
  refine ev_ov (by decide) (Nat.le_of_ble_eq_true rfl) ?_
  show AV l RX10 cX10_tie 5 (some .int) 7 (qI K) 0 [(0, .ref 233), (1, .int x1), (2, .int x2), (3, .int x3), (4, .int x4)] [] σ
  refine aw_aload_n (pc := 0) 0 dX10_tie_0 rfl ?_
  refine aw_iconst (pc := 1) 0 dX10_tie_1 (by decide) ?_
  refine aw_put (pc := 2) 0 kcX10 dX10_tie_2 lfX10_91 nn_233 ki_233 (by decide) rfl rfl rfl rfl ?_
  refine aw_tops (fun τ2 eτ2 => ?_)
  have h := h τ2 eτ2
  refine aw_aload_n (pc := 5) 0 dX10_tie_5 rfl ?_
  refine aw_callV (pc := 6) (As := []) (rest := []) kcX10 nn_233 ki_233 rfl (ev_X10_prepare l  h) mfX10_prepare dX10_tie_6 lmX10_235 ⟨Nat.le_refl _, Nat.le_refl _⟩ (by decide) rfl rfl (Nat.le_of_ble_eq_true rfl) (nxV (fun τ6 h => ?_))
  refine aw_aload_n (pc := 9) 0 dX10_tie_9 rfl ?_
  refine aw_aload_n (pc := 10) 0 dX10_tie_10 rfl ?_
  refine aw_iload_n (pc := 11) 1 dX10_tie_11 rfl ?_
  refine aw_iload_n (pc := 12) 2 dX10_tie_12 rfl ?_
  refine aw_iload_n (pc := 13) 3 dX10_tie_13 rfl ?_
  refine aw_iload (pc := 14) 4 dX10_tie_14 rfl ?_
  refine aw_callV (pc := 16) (As := [.int x1, .int x2, .int x3, .int x4]) (rest := [.ref 233]) kcX10 nn_233 ki_233 rfl (ev_X10_doTie l x1 x2 x3 x4 h) mfX10_doTie dX10_tie_16 lmX10_218 ⟨Nat.le_refl _, Nat.le_refl _⟩ (by decide) rfl rfl (Nat.le_of_ble_eq_true rfl) (nxI (fun r16_ τ16 h => ?_))
  refine aw_callV (pc := 19) (As := [.int r16_]) (rest := []) kcX10 nn_233 ki_233 rfl (ev_X10_told l r16_ h) mfX10_told dX10_tie_19 lmX10_313 ⟨Nat.le_refl _, Nat.le_refl _⟩ (by decide) rfl rfl (Nat.le_of_ble_eq_true rfl) (nxI (fun r19_ τ19 h => ?_))
  exact aw_iret (pc := 22) rfl dX10_tie_22 ⟨_, rfl, h⟩
def wp_X10_play (x1 : Int32) (x2 : Int32) (x3 : Int32) (σ : Sg) (K : Int32 → Sg → Prop) : Prop :=
  ∀ τ2 : Sg, τ2 = up σ 233 0 0 → (wp_X10_prepare  τ2 <| fun τ6 => (wp_X10_doPlay x1 x2 x3 τ6 <| fun r14_ τ14 => (wp_X10_told r14_ τ14 <| fun r17_ τ17 => (K r17_ τ17))))
set_option maxRecDepth 20000 in
set_option maxHeartbeats 2000000 in
theorem ev_X10_play (l : Launch) (x1 : Int32) (x2 : Int32) (x3 : Int32) {σ : Sg} {K : Int32 → Sg → Prop} (h : wp_X10_play x1 x2 x3 σ K) : Ev l yX10_play cX10_play 4 (some .int) 4 [.ref 233, .int x1, .int x2, .int x3] σ (qI K) := by
  refine ev_ov (by decide) (Nat.le_of_ble_eq_true rfl) ?_
  show AV l RX10 cX10_play 4 (some .int) 4 (qI K) 0 [(0, .ref 233), (1, .int x1), (2, .int x2), (3, .int x3)] [] σ
  refine aw_aload_n (pc := 0) 0 dX10_play_0 rfl ?_
  refine aw_iconst (pc := 1) 0 dX10_play_1 (by decide) ?_
  refine aw_put (pc := 2) 0 kcX10 dX10_play_2 lfX10_91 nn_233 ki_233 (by decide) rfl rfl rfl rfl ?_
  refine aw_tops (fun τ2 eτ2 => ?_)
  have h := h τ2 eτ2
  refine aw_aload_n (pc := 5) 0 dX10_play_5 rfl ?_
  refine aw_callV (pc := 6) (As := []) (rest := []) kcX10 nn_233 ki_233 rfl (ev_X10_prepare l  h) mfX10_prepare dX10_play_6 lmX10_235 ⟨Nat.le_refl _, Nat.le_refl _⟩ (by decide) rfl rfl (Nat.le_of_ble_eq_true rfl) (nxV (fun τ6 h => ?_))
  refine aw_aload_n (pc := 9) 0 dX10_play_9 rfl ?_
  refine aw_aload_n (pc := 10) 0 dX10_play_10 rfl ?_
  refine aw_iload_n (pc := 11) 1 dX10_play_11 rfl ?_
  refine aw_iload_n (pc := 12) 2 dX10_play_12 rfl ?_
  refine aw_iload_n (pc := 13) 3 dX10_play_13 rfl ?_
  refine aw_callV (pc := 14) (As := [.int x1, .int x2, .int x3]) (rest := [.ref 233]) kcX10 nn_233 ki_233 rfl (ev_X10_doPlay l x1 x2 x3 h) mfX10_doPlay dX10_play_14 lmX10_222 ⟨Nat.le_refl _, Nat.le_refl _⟩ (by decide) rfl rfl (Nat.le_of_ble_eq_true rfl) (nxI (fun r14_ τ14 h => ?_))
  refine aw_callV (pc := 17) (As := [.int r14_]) (rest := []) kcX10 nn_233 ki_233 rfl (ev_X10_told l r14_ h) mfX10_told dX10_play_17 lmX10_313 ⟨Nat.le_refl _, Nat.le_refl _⟩ (by decide) rfl rfl (Nat.le_of_ble_eq_true rfl) (nxI (fun r17_ τ17 h => ?_))
  exact aw_iret (pc := 20) rfl dX10_play_20 ⟨_, rfl, h⟩
def wp_X10_close (x1 : Int32) (x2 : Int32) (σ : Sg) (K : Int32 → Sg → Prop) : Prop :=
  ∀ τ2 : Sg, τ2 = up σ 233 0 0 → (wp_X10_prepare  τ2 <| fun τ6 => (wp_X10_doClose x1 x2 τ6 <| fun r13_ τ13 => (wp_X10_told r13_ τ13 <| fun r16_ τ16 => (K r16_ τ16))))
set_option maxRecDepth 20000 in
set_option maxHeartbeats 2000000 in
theorem ev_X10_close (l : Launch) (x1 : Int32) (x2 : Int32) {σ : Sg} {K : Int32 → Sg → Prop} (h : wp_X10_close x1 x2 σ K) : Ev l yX10_close cX10_close 3 (some .int) 9 [.ref 233, .int x1, .int x2] σ (qI K) := by
  refine ev_ov (by decide) (Nat.le_of_ble_eq_true rfl) ?_
  show AV l RX10 cX10_close 3 (some .int) 9 (qI K) 0 [(0, .ref 233), (1, .int x1), (2, .int x2)] [] σ
  refine aw_aload_n (pc := 0) 0 dX10_close_0 rfl ?_
  refine aw_iconst (pc := 1) 0 dX10_close_1 (by decide) ?_
  refine aw_put (pc := 2) 0 kcX10 dX10_close_2 lfX10_91 nn_233 ki_233 (by decide) rfl rfl rfl rfl ?_
  refine aw_tops (fun τ2 eτ2 => ?_)
  have h := h τ2 eτ2
  refine aw_aload_n (pc := 5) 0 dX10_close_5 rfl ?_
  refine aw_callV (pc := 6) (As := []) (rest := []) kcX10 nn_233 ki_233 rfl (ev_X10_prepare l  h) mfX10_prepare dX10_close_6 lmX10_235 ⟨Nat.le_refl _, Nat.le_refl _⟩ (by decide) rfl rfl (Nat.le_of_ble_eq_true rfl) (nxV (fun τ6 h => ?_))
  refine aw_aload_n (pc := 9) 0 dX10_close_9 rfl ?_
  refine aw_aload_n (pc := 10) 0 dX10_close_10 rfl ?_
  refine aw_iload_n (pc := 11) 1 dX10_close_11 rfl ?_
  refine aw_iload_n (pc := 12) 2 dX10_close_12 rfl ?_
  refine aw_callV (pc := 13) (As := [.int x1, .int x2]) (rest := [.ref 233]) kcX10 nn_233 ki_233 rfl (ev_X10_doClose l x1 x2 h) mfX10_doClose dX10_close_13 lmX10_226 ⟨Nat.le_refl _, Nat.le_refl _⟩ (by decide) rfl rfl (Nat.le_of_ble_eq_true rfl) (nxI (fun r13_ τ13 h => ?_))
  refine aw_callV (pc := 16) (As := [.int r13_]) (rest := []) kcX10 nn_233 ki_233 rfl (ev_X10_told l r13_ h) mfX10_told dX10_close_16 lmX10_313 ⟨Nat.le_refl _, Nat.le_refl _⟩ (by decide) rfl rfl (Nat.le_of_ble_eq_true rfl) (nxI (fun r16_ τ16 h => ?_))
  exact aw_iret (pc := 19) rfl dX10_close_19 ⟨_, rfl, h⟩
def b_X10_undo_36   (K : Int32 → Sg → Prop) : Nat → Int32 → Sg → Prop
  | 0, _, _ => False
  | n + 1, y1, σ =>
  br (415 ≤ y1) (K (σ 233 5) σ) (vp_in ((415 * (σ 233 5)) + y1) 4980 ∧ (vp_in y1 415 ∧ (∀ τ63 : Sg, τ63 = up σ 236 y1.toNatClampNeg (σ 237 ((415 * (σ 233 5)) + y1).toNatClampNeg) → (∀ v64 : Int32, v64 = y1 + 1 → (b_X10_undo_36   K n v64 τ63)))))
set_option maxRecDepth 20000 in
set_option maxHeartbeats 2000000 in
theorem bt_X10_undo_36 (l : Launch)  {K : Int32 → Sg → Prop}   : ∀ (n : Nat) (y1 : Int32)  (σ : Sg), b_X10_undo_36   K n y1 σ → AV l RX10 cX10_undo 2 (some .int) 1 (qI K) 36 [(0, .ref 233), (1, .int y1)] [] σ := by
  intro n
  induction n with
  | zero => intro y1 σ h; exact h.elim
  | succ n ih =>
    intro y1 σ h
    refine aw_iload_n (pc := 36) 1 dX10_undo_36 rfl ?_
    refine aw_sipush (pc := 37) 415 dX10_undo_37 (by decide) ?_
    refine aw_icmp_ge (pc := 40) 70 dX10_undo_40 (by decide) (fun q => ?_) (fun q => ?_)
    · have h := h.1 q
      refine aw_aload_n (pc := 70) 0 dX10_undo_70 rfl ?_
      refine aw_getI (pc := 71) 5 kcX10 dX10_undo_71 lfX10_100 nn_233 ki_233 (by decide) rfl ?_
      exact aw_iret (pc := 74) rfl dX10_undo_74 ⟨_, rfl, h⟩
    · have h := h.2 q
      refine aw_aload_n (pc := 43) 0 dX10_undo_43 rfl ?_
      refine aw_getR (pc := 44) 3 kcX10 dX10_undo_44 lfX10_16 nn_233 ki_233 (by decide) rfl rf_233_3 ?_
      refine aw_iload_n (pc := 47) 1 dX10_undo_47 rfl ?_
      refine aw_aload_n (pc := 48) 0 dX10_undo_48 rfl ?_
      refine aw_getR (pc := 49) 4 kcX10 dX10_undo_49 lfX10_19 nn_233 ki_233 (by decide) rfl rf_233_4 ?_
      refine aw_sipush (pc := 52) 415 dX10_undo_52 (by decide) ?_
      refine aw_aload_n (pc := 55) 0 dX10_undo_55 rfl ?_
      refine aw_getI (pc := 56) 5 kcX10 dX10_undo_56 lfX10_100 nn_233 ki_233 (by decide) rfl ?_
      refine aw_imul (pc := 59) dX10_undo_59 ?_
      refine aw_iload_n (pc := 60) 1 dX10_undo_60 rfl ?_
      refine aw_iadd (pc := 61) dX10_undo_61 ?_
      refine aw_iald (pc := 62) (j := ((415 * (σ 233 5)) + y1).toNatClampNeg) dX10_undo_62 nn_237 ki_237 ln_237 h.1 rfl ?_
      have h := h.2
      refine aw_iast (pc := 63) (j := y1.toNatClampNeg) (v := (σ 237 ((415 * (σ 233 5)) + y1).toNatClampNeg)) dX10_undo_63 nn_236 ki_236 ln_236 h.1 rfl rfl ?_
      have h := h.2
      refine aw_tops (fun τ63 eτ63 => ?_)
      have h := h τ63 eτ63
      obtain ⟨v64, ev64⟩ : ∃ v : Int32, v = y1 + 1 := ⟨_, rfl⟩
      have h := h v64 ev64
      refine aw_iinc (pc := 64) 1 v64 [(1, .int v64), (0, .ref 233)] dX10_undo_64 rfl (by rw [ev64]; rfl) (by decide) rfl ?_
      refine aw_goto (pc := 67) 36 dX10_undo_67 (by decide) ?_
      refine aw_sub (L' := [(0, .ref 233), (1, .int v64)]) [1, 0] rfl ?_
      exact ih v64  _ h
def wp_X10_undo  (σ : Sg) (K : Int32 → Sg → Prop) : Prop :=
  ∀ τ2 : Sg, τ2 = up σ 233 0 0 → (wp_X10_isTold  τ2 <| fun r6_ τ6 => (br (r6_ = 0) (K (-1) τ6) (br ((τ6 233 5) = 0) (K (-2) τ6) (∀ τ31 : Sg, τ31 = up τ6 233 5 ((τ6 233 5) - 1) → (∃ nf, b_X10_undo_36   K nf 0 τ31)))))
set_option maxRecDepth 20000 in
set_option maxHeartbeats 2000000 in
theorem ev_X10_undo (l : Launch)  {σ : Sg} {K : Int32 → Sg → Prop} (h : wp_X10_undo  σ K) : Ev l yX10_undo cX10_undo 2 (some .int) 1 [.ref 233] σ (qI K) := by
  refine ev_ov (by decide) (Nat.le_of_ble_eq_true rfl) ?_
  show AV l RX10 cX10_undo 2 (some .int) 1 (qI K) 0 [(0, .ref 233)] [] σ
  refine aw_aload_n (pc := 0) 0 dX10_undo_0 rfl ?_
  refine aw_iconst (pc := 1) 0 dX10_undo_1 (by decide) ?_
  refine aw_put (pc := 2) 0 kcX10 dX10_undo_2 lfX10_91 nn_233 ki_233 (by decide) rfl rfl rfl rfl ?_
  refine aw_tops (fun τ2 eτ2 => ?_)
  have h := h τ2 eτ2
  refine aw_aload_n (pc := 5) 0 dX10_undo_5 rfl ?_
  refine aw_callV (pc := 6) (As := []) (rest := []) kcX10 nn_233 ki_233 rfl (ev_X10_isTold l  h) mfX10_isTold dX10_undo_6 lmX10_232 ⟨Nat.le_refl _, Nat.le_refl _⟩ (by decide) rfl rfl (Nat.le_of_ble_eq_true rfl) (nxI (fun r6_ τ6 h => ?_))
  refine aw_if_ne (pc := 9) 14 dX10_undo_9 (by decide) (fun q => ?_) (fun q => ?_)
  · have h := h.2 q
    refine aw_aload_n (pc := 14) 0 dX10_undo_14 rfl ?_
    refine aw_getI (pc := 15) 5 kcX10 dX10_undo_15 lfX10_100 nn_233 ki_233 (by decide) rfl ?_
    refine aw_if_ne (pc := 18) 24 dX10_undo_18 (by decide) (fun q => ?_) (fun q => ?_)
    · have h := h.2 q
      refine aw_aload_n (pc := 24) 0 dX10_undo_24 rfl ?_
      refine aw_dup (pc := 25) dX10_undo_25 rfl ?_
      refine aw_getI (pc := 26) 5 kcX10 dX10_undo_26 lfX10_100 nn_233 ki_233 (by decide) rfl ?_
      refine aw_iconst (pc := 29) 1 dX10_undo_29 (by decide) ?_
      refine aw_isub (pc := 30) dX10_undo_30 ?_
      refine aw_put (pc := 31) 5 kcX10 dX10_undo_31 lfX10_100 nn_233 ki_233 (by decide) rfl rfl rfl rfl ?_
      refine aw_tops (fun τ31 eτ31 => ?_)
      have h := h τ31 eτ31
      refine aw_iconst (pc := 34) 0 dX10_undo_34 (by decide) ?_
      refine aw_istore_n (pc := 35) (i := 1) [(1, .int 0), (0, .ref 233)] dX10_undo_35 rfl (by decide) rfl ?_
      refine aw_sub (L' := [(0, .ref 233), (1, .int 0)]) [1, 0] rfl ?_
      obtain ⟨nf, h⟩ := h
      exact bt_X10_undo_36 l    nf 0  _ h
    · have h := h.1 q
      refine aw_bipush (pc := 21) (-2) dX10_undo_21 (by decide) ?_
      exact aw_iret (pc := 23) rfl dX10_undo_23 ⟨_, rfl, h⟩
  · have h := h.1 q
    refine aw_iconst (pc := 12) (-1) dX10_undo_12 (by decide) ?_
    exact aw_iret (pc := 13) rfl dX10_undo_13 ⟨_, rfl, h⟩
def b_X10_keep_26 (x1 : Int32)  (K : Int32 → Sg → Prop) : Nat → Int32 → Sg → Prop
  | 0, _, _ => False
  | n + 1, y2, σ =>
  br (415 ≤ y2) (vp_in x1 2 ∧ (∀ τ63 : Sg, τ63 = up σ 239 x1.toNatClampNeg 1 → (K 1 τ63))) (vp_in y2 415 ∧ (vp_in ((415 * x1) + y2) 830 ∧ (∀ τ50 : Sg, τ50 = up σ 238 ((415 * x1) + y2).toNatClampNeg (σ 236 y2.toNatClampNeg) → (∀ v51 : Int32, v51 = y2 + 1 → (b_X10_keep_26 x1  K n v51 τ50)))))
set_option maxRecDepth 20000 in
set_option maxHeartbeats 2000000 in
theorem bt_X10_keep_26 (l : Launch) (x1 : Int32) {K : Int32 → Sg → Prop}   : ∀ (n : Nat) (y2 : Int32)  (σ : Sg), b_X10_keep_26 x1  K n y2 σ → AV l RX10 cX10_keep 3 (some .boolean) 1 (qI K) 26 [(0, .ref 233), (1, .int x1), (2, .int y2)] [] σ := by
  intro n
  induction n with
  | zero => intro y2 σ h; exact h.elim
  | succ n ih =>
    intro y2 σ h
    refine aw_iload_n (pc := 26) 2 dX10_keep_26 rfl ?_
    refine aw_sipush (pc := 27) 415 dX10_keep_27 (by decide) ?_
    refine aw_icmp_ge (pc := 30) 57 dX10_keep_30 (by decide) (fun q => ?_) (fun q => ?_)
    · have h := h.1 q
      refine aw_aload_n (pc := 57) 0 dX10_keep_57 rfl ?_
      refine aw_getR (pc := 58) 7 kcX10 dX10_keep_58 lfX10_25 nn_233 ki_233 (by decide) rfl rf_233_7 ?_
      refine aw_iload_n (pc := 61) 1 dX10_keep_61 rfl ?_
      refine aw_iconst (pc := 62) 1 dX10_keep_62 (by decide) ?_
      refine aw_zast (pc := 63) (j := x1.toNatClampNeg) (v := 1) dX10_keep_63 nn_239 ki_239 ln_239 h.1 rfl rfl ?_
      have h := h.2
      refine aw_tops (fun τ63 eτ63 => ?_)
      have h := h τ63 eτ63
      refine aw_iconst (pc := 64) 1 dX10_keep_64 (by decide) ?_
      exact aw_zret (pc := 65) rfl rfl dX10_keep_65 ⟨_, rfl, h⟩
    · have h := h.2 q
      refine aw_aload_n (pc := 33) 0 dX10_keep_33 rfl ?_
      refine aw_getR (pc := 34) 6 kcX10 dX10_keep_34 lfX10_22 nn_233 ki_233 (by decide) rfl rf_233_6 ?_
      refine aw_sipush (pc := 37) 415 dX10_keep_37 (by decide) ?_
      refine aw_iload_n (pc := 40) 1 dX10_keep_40 rfl ?_
      refine aw_imul (pc := 41) dX10_keep_41 ?_
      refine aw_iload_n (pc := 42) 2 dX10_keep_42 rfl ?_
      refine aw_iadd (pc := 43) dX10_keep_43 ?_
      refine aw_aload_n (pc := 44) 0 dX10_keep_44 rfl ?_
      refine aw_getR (pc := 45) 3 kcX10 dX10_keep_45 lfX10_16 nn_233 ki_233 (by decide) rfl rf_233_3 ?_
      refine aw_iload_n (pc := 48) 2 dX10_keep_48 rfl ?_
      refine aw_iald (pc := 49) (j := y2.toNatClampNeg) dX10_keep_49 nn_236 ki_236 ln_236 h.1 rfl ?_
      have h := h.2
      refine aw_iast (pc := 50) (j := ((415 * x1) + y2).toNatClampNeg) (v := (σ 236 y2.toNatClampNeg)) dX10_keep_50 nn_238 ki_238 ln_238 h.1 rfl rfl ?_
      have h := h.2
      refine aw_tops (fun τ50 eτ50 => ?_)
      have h := h τ50 eτ50
      obtain ⟨v51, ev51⟩ : ∃ v : Int32, v = y2 + 1 := ⟨_, rfl⟩
      have h := h v51 ev51
      refine aw_iinc (pc := 51) 2 v51 [(2, .int v51), (0, .ref 233), (1, .int x1)] dX10_keep_51 rfl (by rw [ev51]; rfl) (by decide) rfl ?_
      refine aw_goto (pc := 54) 26 dX10_keep_54 (by decide) ?_
      refine aw_sub (L' := [(0, .ref 233), (1, .int x1), (2, .int v51)]) [1, 2, 0] rfl ?_
      exact ih v51  _ h
def wp_X10_keep (x1 : Int32) (σ : Sg) (K : Int32 → Sg → Prop) : Prop :=
  ∀ τ2 : Sg, τ2 = up σ 233 0 0 → (wp_X10_within (Int32.toInt64 x1) 0 1 τ2 <| fun r9_ τ9 => (br (r9_ = 0) (K 0 τ9) (wp_X10_isTold  τ9 <| fun r16_ τ16 => (br (r16_ = 0) (K 0 τ16) (∃ nf, b_X10_keep_26 x1  K nf 0 τ16)))))
set_option maxRecDepth 20000 in
set_option maxHeartbeats 2000000 in
theorem ev_X10_keep (l : Launch) (x1 : Int32) {σ : Sg} {K : Int32 → Sg → Prop} (h : wp_X10_keep x1 σ K) : Ev l yX10_keep cX10_keep 3 (some .boolean) 1 [.ref 233, .int x1] σ (qI K) := by
  refine ev_ov (by decide) (Nat.le_of_ble_eq_true rfl) ?_
  show AV l RX10 cX10_keep 3 (some .boolean) 1 (qI K) 0 [(0, .ref 233), (1, .int x1)] [] σ
  refine aw_aload_n (pc := 0) 0 dX10_keep_0 rfl ?_
  refine aw_iconst (pc := 1) 0 dX10_keep_1 (by decide) ?_
  refine aw_put (pc := 2) 0 kcX10 dX10_keep_2 lfX10_91 nn_233 ki_233 (by decide) rfl rfl rfl rfl ?_
  refine aw_tops (fun τ2 eτ2 => ?_)
  have h := h τ2 eτ2
  refine aw_iload_n (pc := 5) 1 dX10_keep_5 rfl ?_
  refine aw_i2l (pc := 6) dX10_keep_6 ?_
  refine aw_lconst (pc := 7) 0 dX10_keep_7 (by decide) ?_
  refine aw_lconst (pc := 8) 1 dX10_keep_8 (by decide) ?_
  refine aw_callS (pc := 9) (As := [.long (Int32.toInt64 x1), .long 0, .long 1]) (rest := []) (ev_X10_within l (Int32.toInt64 x1) 0 1 h) mfX10_within dX10_keep_9 lmX10_94 ⟨Nat.le_refl _, Nat.le_refl _⟩ (by decide) rfl rfl (Nat.le_of_ble_eq_true rfl) (nxI (fun r9_ τ9 h => ?_))
  refine aw_if_eq (pc := 12) 22 dX10_keep_12 (by decide) (fun q => ?_) (fun q => ?_)
  · have h := h.1 q
    refine aw_iconst (pc := 22) 0 dX10_keep_22 (by decide) ?_
    exact aw_zret (pc := 23) rfl rfl dX10_keep_23 ⟨_, rfl, h⟩
  · have h := h.2 q
    refine aw_aload_n (pc := 15) 0 dX10_keep_15 rfl ?_
    refine aw_callV (pc := 16) (As := []) (rest := []) kcX10 nn_233 ki_233 rfl (ev_X10_isTold l  h) mfX10_isTold dX10_keep_16 lmX10_232 ⟨Nat.le_refl _, Nat.le_refl _⟩ (by decide) rfl rfl (Nat.le_of_ble_eq_true rfl) (nxI (fun r16_ τ16 h => ?_))
    refine aw_if_ne (pc := 19) 24 dX10_keep_19 (by decide) (fun q => ?_) (fun q => ?_)
    · have h := h.2 q
      refine aw_iconst (pc := 24) 0 dX10_keep_24 (by decide) ?_
      refine aw_istore_n (pc := 25) (i := 2) [(2, .int 0), (0, .ref 233), (1, .int x1)] dX10_keep_25 rfl (by decide) rfl ?_
      refine aw_sub (L' := [(0, .ref 233), (1, .int x1), (2, .int 0)]) [1, 2, 0] rfl ?_
      obtain ⟨nf, h⟩ := h
      exact bt_X10_keep_26 l x1   nf 0  _ h
    · have h := h.1 q
      refine aw_iconst (pc := 22) 0 dX10_keep_22 (by decide) ?_
      exact aw_zret (pc := 23) rfl rfl dX10_keep_23 ⟨_, rfl, h⟩
def b_X10_again_32 (x1 : Int32)  (K : Int32 → Sg → Prop) : Nat → Int32 → Sg → Prop
  | 0, _, _ => False
  | n + 1, y2, σ =>
  br (415 ≤ y2) (K 1 σ) (vp_in ((415 * x1) + y2) 830 ∧ (vp_in y2 415 ∧ (∀ τ56 : Sg, τ56 = up σ 236 y2.toNatClampNeg (σ 238 ((415 * x1) + y2).toNatClampNeg) → (∀ v57 : Int32, v57 = y2 + 1 → (b_X10_again_32 x1  K n v57 τ56)))))
set_option maxRecDepth 20000 in
set_option maxHeartbeats 2000000 in
theorem bt_X10_again_32 (l : Launch) (x1 : Int32) {K : Int32 → Sg → Prop}   : ∀ (n : Nat) (y2 : Int32)  (σ : Sg), b_X10_again_32 x1  K n y2 σ → AV l RX10 cX10_again 3 (some .boolean) 1 (qI K) 32 [(0, .ref 233), (1, .int x1), (2, .int y2)] [] σ := by
  intro n
  induction n with
  | zero => intro y2 σ h; exact h.elim
  | succ n ih =>
    intro y2 σ h
    refine aw_iload_n (pc := 32) 2 dX10_again_32 rfl ?_
    refine aw_sipush (pc := 33) 415 dX10_again_33 (by decide) ?_
    refine aw_icmp_ge (pc := 36) 63 dX10_again_36 (by decide) (fun q => ?_) (fun q => ?_)
    · have h := h.1 q
      refine aw_iconst (pc := 63) 1 dX10_again_63 (by decide) ?_
      exact aw_zret (pc := 64) rfl rfl dX10_again_64 ⟨_, rfl, h⟩
    · have h := h.2 q
      refine aw_aload_n (pc := 39) 0 dX10_again_39 rfl ?_
      refine aw_getR (pc := 40) 3 kcX10 dX10_again_40 lfX10_16 nn_233 ki_233 (by decide) rfl rf_233_3 ?_
      refine aw_iload_n (pc := 43) 2 dX10_again_43 rfl ?_
      refine aw_aload_n (pc := 44) 0 dX10_again_44 rfl ?_
      refine aw_getR (pc := 45) 6 kcX10 dX10_again_45 lfX10_22 nn_233 ki_233 (by decide) rfl rf_233_6 ?_
      refine aw_sipush (pc := 48) 415 dX10_again_48 (by decide) ?_
      refine aw_iload_n (pc := 51) 1 dX10_again_51 rfl ?_
      refine aw_imul (pc := 52) dX10_again_52 ?_
      refine aw_iload_n (pc := 53) 2 dX10_again_53 rfl ?_
      refine aw_iadd (pc := 54) dX10_again_54 ?_
      refine aw_iald (pc := 55) (j := ((415 * x1) + y2).toNatClampNeg) dX10_again_55 nn_238 ki_238 ln_238 h.1 rfl ?_
      have h := h.2
      refine aw_iast (pc := 56) (j := y2.toNatClampNeg) (v := (σ 238 ((415 * x1) + y2).toNatClampNeg)) dX10_again_56 nn_236 ki_236 ln_236 h.1 rfl rfl ?_
      have h := h.2
      refine aw_tops (fun τ56 eτ56 => ?_)
      have h := h τ56 eτ56
      obtain ⟨v57, ev57⟩ : ∃ v : Int32, v = y2 + 1 := ⟨_, rfl⟩
      have h := h v57 ev57
      refine aw_iinc (pc := 57) 2 v57 [(2, .int v57), (0, .ref 233), (1, .int x1)] dX10_again_57 rfl (by rw [ev57]; rfl) (by decide) rfl ?_
      refine aw_goto (pc := 60) 32 dX10_again_60 (by decide) ?_
      refine aw_sub (L' := [(0, .ref 233), (1, .int x1), (2, .int v57)]) [1, 2, 0] rfl ?_
      exact ih v57  _ h
def wp_X10_again (x1 : Int32) (σ : Sg) (K : Int32 → Sg → Prop) : Prop :=
  ∀ τ2 : Sg, τ2 = up σ 233 0 0 → (wp_X10_within (Int32.toInt64 x1) 0 1 τ2 <| fun r9_ τ9 => (br (r9_ = 0) (K 0 τ9) (vp_in x1 2 ∧ (br ((τ9 239 x1.toNatClampNeg) = 0) (K 0 τ9) (wp_X10_remember  τ9 <| fun τ27 => (∃ nf, b_X10_again_32 x1  K nf 0 τ27))))))
set_option maxRecDepth 20000 in
set_option maxHeartbeats 2000000 in
theorem ev_X10_again (l : Launch) (x1 : Int32) {σ : Sg} {K : Int32 → Sg → Prop} (h : wp_X10_again x1 σ K) : Ev l yX10_again cX10_again 3 (some .boolean) 1 [.ref 233, .int x1] σ (qI K) := by
  refine ev_ov (by decide) (Nat.le_of_ble_eq_true rfl) ?_
  show AV l RX10 cX10_again 3 (some .boolean) 1 (qI K) 0 [(0, .ref 233), (1, .int x1)] [] σ
  refine aw_aload_n (pc := 0) 0 dX10_again_0 rfl ?_
  refine aw_iconst (pc := 1) 0 dX10_again_1 (by decide) ?_
  refine aw_put (pc := 2) 0 kcX10 dX10_again_2 lfX10_91 nn_233 ki_233 (by decide) rfl rfl rfl rfl ?_
  refine aw_tops (fun τ2 eτ2 => ?_)
  have h := h τ2 eτ2
  refine aw_iload_n (pc := 5) 1 dX10_again_5 rfl ?_
  refine aw_i2l (pc := 6) dX10_again_6 ?_
  refine aw_lconst (pc := 7) 0 dX10_again_7 (by decide) ?_
  refine aw_lconst (pc := 8) 1 dX10_again_8 (by decide) ?_
  refine aw_callS (pc := 9) (As := [.long (Int32.toInt64 x1), .long 0, .long 1]) (rest := []) (ev_X10_within l (Int32.toInt64 x1) 0 1 h) mfX10_within dX10_again_9 lmX10_94 ⟨Nat.le_refl _, Nat.le_refl _⟩ (by decide) rfl rfl (Nat.le_of_ble_eq_true rfl) (nxI (fun r9_ τ9 h => ?_))
  refine aw_if_eq (pc := 12) 24 dX10_again_12 (by decide) (fun q => ?_) (fun q => ?_)
  · have h := h.1 q
    refine aw_iconst (pc := 24) 0 dX10_again_24 (by decide) ?_
    exact aw_zret (pc := 25) rfl rfl dX10_again_25 ⟨_, rfl, h⟩
  · have h := h.2 q
    refine aw_aload_n (pc := 15) 0 dX10_again_15 rfl ?_
    refine aw_getR (pc := 16) 7 kcX10 dX10_again_16 lfX10_25 nn_233 ki_233 (by decide) rfl rf_233_7 ?_
    refine aw_iload_n (pc := 19) 1 dX10_again_19 rfl ?_
    refine aw_zald (pc := 20) (j := x1.toNatClampNeg) dX10_again_20 nn_239 ki_239 ln_239 h.1 rfl ?_
    have h := h.2
    refine aw_if_ne (pc := 21) 26 dX10_again_21 (by decide) (fun q => ?_) (fun q => ?_)
    · have h := h.2 q
      refine aw_aload_n (pc := 26) 0 dX10_again_26 rfl ?_
      refine aw_callV (pc := 27) (As := []) (rest := []) kcX10 nn_233 ki_233 rfl (ev_X10_remember l  h) mfX10_remember dX10_again_27 lmX10_249 ⟨Nat.le_refl _, Nat.le_refl _⟩ (by decide) rfl rfl (Nat.le_of_ble_eq_true rfl) (nxV (fun τ27 h => ?_))
      refine aw_iconst (pc := 30) 0 dX10_again_30 (by decide) ?_
      refine aw_istore_n (pc := 31) (i := 2) [(2, .int 0), (0, .ref 233), (1, .int x1)] dX10_again_31 rfl (by decide) rfl ?_
      refine aw_sub (L' := [(0, .ref 233), (1, .int x1), (2, .int 0)]) [1, 2, 0] rfl ?_
      obtain ⟨nf, h⟩ := h
      exact bt_X10_again_32 l x1   nf 0  _ h
    · have h := h.1 q
      refine aw_iconst (pc := 24) 0 dX10_again_24 (by decide) ?_
      exact aw_zret (pc := 25) rfl rfl dX10_again_25 ⟨_, rfl, h⟩
def wp_X10_hasOf (x1 : Int32) (x2 : Int32) (σ : Sg) (K : Int32 → Sg → Prop) : Prop :=
  br (x2 = 2) (K (σ 233 26) σ) (br (x2 = (x1 - x1 / 2 * 2)) (K ((σ 233 21) + (σ 233 24)) σ) (K ((σ 233 22) + (σ 233 25)) σ))
set_option maxRecDepth 20000 in
set_option maxHeartbeats 2000000 in
theorem ev_X10_hasOf (l : Launch) (x1 : Int32) (x2 : Int32) {σ : Sg} {K : Int32 → Sg → Prop} (h : wp_X10_hasOf x1 x2 σ K) : Ev l yX10_hasOf cX10_hasOf 3 (some .int) 0 [.ref 233, .int x1, .int x2] σ (qI K) := by
  refine ev_ov (by decide) (Nat.le_of_ble_eq_true rfl) ?_
  show AV l RX10 cX10_hasOf 3 (some .int) 0 (qI K) 0 [(0, .ref 233), (1, .int x1), (2, .int x2)] [] σ
  refine aw_iload_n (pc := 0) 2 dX10_hasOf_0 rfl ?_
  refine aw_iconst (pc := 1) 2 dX10_hasOf_1 (by decide) ?_
  refine aw_icmp_ne (pc := 2) 12 dX10_hasOf_2 (by decide) (fun q => ?_) (fun q => ?_)
  · have h := h.2 q
    refine aw_iload_n (pc := 12) 2 dX10_hasOf_12 rfl ?_
    refine aw_iload_n (pc := 13) 1 dX10_hasOf_13 rfl ?_
    refine aw_iconst (pc := 14) 2 dX10_hasOf_14 (by decide) ?_
    refine aw_irem (pc := 15) dX10_hasOf_15 (by decide) ?_
    refine aw_icmp_ne (pc := 16) 31 dX10_hasOf_16 (by decide) (fun q => ?_) (fun q => ?_)
    · have h := h.2 q
      refine aw_aload_n (pc := 31) 0 dX10_hasOf_31 rfl ?_
      refine aw_getI (pc := 32) 22 kcX10 dX10_hasOf_32 lfX10_324 nn_233 ki_233 (by decide) rfl ?_
      refine aw_aload_n (pc := 35) 0 dX10_hasOf_35 rfl ?_
      refine aw_getI (pc := 36) 25 kcX10 dX10_hasOf_36 lfX10_333 nn_233 ki_233 (by decide) rfl ?_
      refine aw_iadd (pc := 39) dX10_hasOf_39 ?_
      exact aw_iret (pc := 40) rfl dX10_hasOf_40 ⟨_, rfl, h⟩
    · have h := h.1 q
      refine aw_aload_n (pc := 19) 0 dX10_hasOf_19 rfl ?_
      refine aw_getI (pc := 20) 21 kcX10 dX10_hasOf_20 lfX10_321 nn_233 ki_233 (by decide) rfl ?_
      refine aw_aload_n (pc := 23) 0 dX10_hasOf_23 rfl ?_
      refine aw_getI (pc := 24) 24 kcX10 dX10_hasOf_24 lfX10_330 nn_233 ki_233 (by decide) rfl ?_
      refine aw_iadd (pc := 27) dX10_hasOf_27 ?_
      refine aw_goto (pc := 28) 40 dX10_hasOf_28 (by decide) ?_
      exact aw_iret (pc := 40) rfl dX10_hasOf_40 ⟨_, rfl, h⟩
  · have h := h.1 q
    refine aw_aload_n (pc := 5) 0 dX10_hasOf_5 rfl ?_
    refine aw_getI (pc := 6) 26 kcX10 dX10_hasOf_6 lfX10_336 nn_233 ki_233 (by decide) rfl ?_
    refine aw_goto (pc := 9) 40 dX10_hasOf_9 (by decide) ?_
    exact aw_iret (pc := 40) rfl dX10_hasOf_40 ⟨_, rfl, h⟩
def b_X10_wins_4 (x1 : Int32)  (K : Int32 → Sg → Prop) : Nat → Int32 → Int32 → Sg → Prop
  | 0, _, _, _ => False
  | n + 1, y2, y3, σ =>
  br ((σ 236 0) ≤ y3) (K y2 σ) (wp_X10_winner y3 σ <| fun r17_ τ17 => (br (r17_ = x1) (∀ v30 : Int32, v30 = y2 + 1 → (∀ v31 : Int32, v31 = y3 + 1 → (b_X10_wins_4 x1  K n v30 v31 τ17))) (∀ v30 : Int32, v30 = y2 + 0 → (∀ v31 : Int32, v31 = y3 + 1 → (b_X10_wins_4 x1  K n v30 v31 τ17)))))
set_option maxRecDepth 20000 in
set_option maxHeartbeats 2000000 in
theorem bt_X10_wins_4 (l : Launch) (x1 : Int32) {K : Int32 → Sg → Prop}   : ∀ (n : Nat) (y2 : Int32) (y3 : Int32)  (σ : Sg), b_X10_wins_4 x1  K n y2 y3 σ → AV l RX10 cX10_wins 4 (some .int) 4 (qI K) 4 [(0, .ref 233), (1, .int x1), (2, .int y2), (3, .int y3)] [] σ := by
  intro n
  induction n with
  | zero => intro y2 y3 σ h; exact h.elim
  | succ n ih =>
    intro y2 y3 σ h
    refine aw_iload_n (pc := 4) 3 dX10_wins_4 rfl ?_
    refine aw_aload_n (pc := 5) 0 dX10_wins_5 rfl ?_
    refine aw_getR (pc := 6) 3 kcX10 dX10_wins_6 lfX10_16 nn_233 ki_233 (by decide) rfl rf_233_3 ?_
    refine aw_iconst (pc := 9) 0 dX10_wins_9 (by decide) ?_
    refine aw_iald (pc := 10) (j := 0) dX10_wins_10 nn_236 ki_236 ln_236 (show vp_in _ _ by unfold vp_in; decide) (by decide) ?_
    refine aw_icmp_ge (pc := 11) 37 dX10_wins_11 (by decide) (fun q => ?_) (fun q => ?_)
    · have h := h.1 q
      refine aw_iload_n (pc := 37) 2 dX10_wins_37 rfl ?_
      exact aw_iret (pc := 38) rfl dX10_wins_38 ⟨_, rfl, h⟩
    · have h := h.2 q
      refine aw_iload_n (pc := 14) 2 dX10_wins_14 rfl ?_
      refine aw_aload_n (pc := 15) 0 dX10_wins_15 rfl ?_
      refine aw_iload_n (pc := 16) 3 dX10_wins_16 rfl ?_
      refine aw_callV (pc := 17) (As := [.int y3]) (rest := [.int y2]) kcX10 nn_233 ki_233 rfl (ev_X10_winner l y3 h) mfX10_winner dX10_wins_17 lmX10_268 ⟨Nat.le_refl _, Nat.le_refl _⟩ (by decide) rfl rfl (Nat.le_of_ble_eq_true rfl) (nxI (fun r17_ τ17 h => ?_))
      refine aw_iload_n (pc := 20) 1 dX10_wins_20 rfl ?_
      refine aw_icmp_ne (pc := 21) 28 dX10_wins_21 (by decide) (fun q => ?_) (fun q => ?_)
      · have h := h.2 q
        refine aw_iconst (pc := 28) 0 dX10_wins_28 (by decide) ?_
        refine aw_iadd (pc := 29) dX10_wins_29 ?_
        refine aw_topi (fun v30 ev30 => ?_)
        have h := h v30 ev30
        refine aw_istore_n (pc := 30) (i := 2) [(2, .int v30), (0, .ref 233), (1, .int x1), (3, .int y3)] dX10_wins_30 rfl (by decide) rfl ?_
        obtain ⟨v31, ev31⟩ : ∃ v : Int32, v = y3 + 1 := ⟨_, rfl⟩
        have h := h v31 ev31
        refine aw_iinc (pc := 31) 3 v31 [(3, .int v31), (2, .int v30), (0, .ref 233), (1, .int x1)] dX10_wins_31 rfl (by rw [ev31]; rfl) (by decide) rfl ?_
        refine aw_goto (pc := 34) 4 dX10_wins_34 (by decide) ?_
        refine aw_sub (L' := [(0, .ref 233), (1, .int x1), (2, .int v30), (3, .int v31)]) [2, 3, 1, 0] rfl ?_
        exact ih v30 v31  _ h
      · have h := h.1 q
        refine aw_iconst (pc := 24) 1 dX10_wins_24 (by decide) ?_
        refine aw_goto (pc := 25) 29 dX10_wins_25 (by decide) ?_
        refine aw_iadd (pc := 29) dX10_wins_29 ?_
        refine aw_topi (fun v30 ev30 => ?_)
        have h := h v30 ev30
        refine aw_istore_n (pc := 30) (i := 2) [(2, .int v30), (0, .ref 233), (1, .int x1), (3, .int y3)] dX10_wins_30 rfl (by decide) rfl ?_
        obtain ⟨v31, ev31⟩ : ∃ v : Int32, v = y3 + 1 := ⟨_, rfl⟩
        have h := h v31 ev31
        refine aw_iinc (pc := 31) 3 v31 [(3, .int v31), (2, .int v30), (0, .ref 233), (1, .int x1)] dX10_wins_31 rfl (by rw [ev31]; rfl) (by decide) rfl ?_
        refine aw_goto (pc := 34) 4 dX10_wins_34 (by decide) ?_
        refine aw_sub (L' := [(0, .ref 233), (1, .int x1), (2, .int v30), (3, .int v31)]) [2, 3, 1, 0] rfl ?_
        exact ih v30 v31  _ h
def wp_X10_wins (x1 : Int32) (σ : Sg) (K : Int32 → Sg → Prop) : Prop :=
  ∃ nf, b_X10_wins_4 x1  K nf 0 0 σ
set_option maxRecDepth 20000 in
set_option maxHeartbeats 2000000 in
theorem ev_X10_wins (l : Launch) (x1 : Int32) {σ : Sg} {K : Int32 → Sg → Prop} (h : wp_X10_wins x1 σ K) : Ev l yX10_wins cX10_wins 4 (some .int) 4 [.ref 233, .int x1] σ (qI K) := by
  refine ev_ov (by decide) (Nat.le_of_ble_eq_true rfl) ?_
  show AV l RX10 cX10_wins 4 (some .int) 4 (qI K) 0 [(0, .ref 233), (1, .int x1)] [] σ
  refine aw_iconst (pc := 0) 0 dX10_wins_0 (by decide) ?_
  refine aw_istore_n (pc := 1) (i := 2) [(2, .int 0), (0, .ref 233), (1, .int x1)] dX10_wins_1 rfl (by decide) rfl ?_
  refine aw_iconst (pc := 2) 0 dX10_wins_2 (by decide) ?_
  refine aw_istore_n (pc := 3) (i := 3) [(3, .int 0), (2, .int 0), (0, .ref 233), (1, .int x1)] dX10_wins_3 rfl (by decide) rfl ?_
  refine aw_sub (L' := [(0, .ref 233), (1, .int x1), (2, .int 0), (3, .int 0)]) [2, 3, 1, 0] rfl ?_
  obtain ⟨nf, h⟩ := h
  exact bt_X10_wins_4 l x1   nf 0 0  _ h
def b_X10_club_26 (x1 : Int32) (x2 : Int32)  (K : Int32 → Sg → Prop) (z0 : Int32) (σ : Sg) : Prop :=
  ∀ τ26 : Sg, τ26 = up σ 233 0 z0 → (br ((τ26 233 0) = 1) (K 0 τ26) (wp_X10_layAll  τ26 <| fun τ40 => (br (x2 = 3) (wp_X10_has x1 τ40 <| fun r98_ τ98 => (K r98_ τ98)) (br (x2 = 4) (vp_in x1 12 ∧ (K (τ40 243 x1.toNatClampNeg) τ40)) (br (x2 = 5) (vp_in x1 12 ∧ (K (τ40 244 x1.toNatClampNeg) τ40)) (br (x2 = 6) (vp_in x1 12 ∧ (K (τ40 245 x1.toNatClampNeg) τ40)) (br (x2 = 7) (vp_in x1 12 ∧ (K (τ40 246 x1.toNatClampNeg) τ40)) (br (x2 = 8) (wp_X10_lacks x1 τ40 <| fun r132_ τ132 => (K r132_ τ132)) (br (x2 = 9) (vp_in x1 12 ∧ (K (τ40 254 x1.toNatClampNeg) τ40)) (br (x2 = 10) (vp_in x1 12 ∧ (K (τ40 248 x1.toNatClampNeg) τ40)) (br (x2 = 11) (wp_X10_wins x1 τ40 <| fun r152_ τ152 => (K r152_ τ152)) (wp_X10_ofClub x1 x2 τ40 <| fun r159_ τ159 => (K r159_ τ159)))))))))))))
set_option maxRecDepth 20000 in
set_option maxHeartbeats 2000000 in
theorem bt_X10_club_26 (l : Launch) (x1 : Int32) (x2 : Int32) {K : Int32 → Sg → Prop}   (z0 : Int32)  (σ : Sg) (h : b_X10_club_26 x1 x2  K z0 σ) : AV l RX10 cX10_club 3 (some .int) 8 (qI K) 26 [(0, .ref 233), (1, .int x1), (2, .int x2)] [.int z0, .ref 233] σ := by
  refine aw_put (pc := 26) 0 kcX10 dX10_club_26 lfX10_91 nn_233 ki_233 (by decide) rfl rfl rfl rfl ?_
  refine aw_tops (fun τ26 eτ26 => ?_)
  have h := h τ26 eτ26
  refine aw_aload_n (pc := 29) 0 dX10_club_29 rfl ?_
  refine aw_getI (pc := 30) 0 kcX10 dX10_club_30 lfX10_91 nn_233 ki_233 (by decide) rfl ?_
  refine aw_iconst (pc := 33) 1 dX10_club_33 (by decide) ?_
  refine aw_icmp_ne (pc := 34) 39 dX10_club_34 (by decide) (fun q => ?_) (fun q => ?_)
  · have h := h.2 q
    refine aw_aload_n (pc := 39) 0 dX10_club_39 rfl ?_
    refine aw_callV (pc := 40) (As := []) (rest := []) kcX10 nn_233 ki_233 rfl (ev_X10_layAll l  h) mfX10_layAll dX10_club_40 lmX10_310 ⟨Nat.le_refl _, Nat.le_refl _⟩ (by decide) rfl rfl (Nat.le_of_ble_eq_true rfl) (nxV (fun τ40 h => ?_))
    refine aw_iload_n (pc := 43) 2 dX10_club_43 rfl ?_
    by_cases q0 : x2 = 3
    · have h := h.1 q0
      refine aw_tableIn (pc := 44) 96 dX10_club_44 (by rw [q0]; decide) (by rw [q0]; decide) (by rw [q0]; rfl) (by decide) ?_
      refine aw_aload_n (pc := 96) 0 dX10_club_96 rfl ?_
      refine aw_iload_n (pc := 97) 1 dX10_club_97 rfl ?_
      refine aw_callV (pc := 98) (As := [.int x1]) (rest := []) kcX10 nn_233 ki_233 rfl (ev_X10_has l x1 h) mfX10_has dX10_club_98 lmX10_378 ⟨Nat.le_refl _, Nat.le_refl _⟩ (by decide) rfl rfl (Nat.le_of_ble_eq_true rfl) (nxI (fun r98_ τ98 h => ?_))
      exact aw_iret (pc := 101) rfl dX10_club_101 ⟨_, rfl, h⟩
    · have h := h.2 q0
      by_cases q1 : x2 = 4
      · have h := h.1 q1
        refine aw_tableIn (pc := 44) 102 dX10_club_44 (by rw [q1]; decide) (by rw [q1]; decide) (by rw [q1]; rfl) (by decide) ?_
        refine aw_aload_n (pc := 102) 0 dX10_club_102 rfl ?_
        refine aw_getR (pc := 103) 28 kcX10 dX10_club_103 lfX10_43 nn_233 ki_233 (by decide) rfl rf_233_28 ?_
        refine aw_iload_n (pc := 106) 1 dX10_club_106 rfl ?_
        refine aw_iald (pc := 107) (j := x1.toNatClampNeg) dX10_club_107 nn_243 ki_243 ln_243 h.1 rfl ?_
        have h := h.2
        exact aw_iret (pc := 108) rfl dX10_club_108 ⟨_, rfl, h⟩
      · have h := h.2 q1
        by_cases q2 : x2 = 5
        · have h := h.1 q2
          refine aw_tableIn (pc := 44) 109 dX10_club_44 (by rw [q2]; decide) (by rw [q2]; decide) (by rw [q2]; rfl) (by decide) ?_
          refine aw_aload_n (pc := 109) 0 dX10_club_109 rfl ?_
          refine aw_getR (pc := 110) 29 kcX10 dX10_club_110 lfX10_46 nn_233 ki_233 (by decide) rfl rf_233_29 ?_
          refine aw_iload_n (pc := 113) 1 dX10_club_113 rfl ?_
          refine aw_iald (pc := 114) (j := x1.toNatClampNeg) dX10_club_114 nn_244 ki_244 ln_244 h.1 rfl ?_
          have h := h.2
          exact aw_iret (pc := 115) rfl dX10_club_115 ⟨_, rfl, h⟩
        · have h := h.2 q2
          by_cases q3 : x2 = 6
          · have h := h.1 q3
            refine aw_tableIn (pc := 44) 116 dX10_club_44 (by rw [q3]; decide) (by rw [q3]; decide) (by rw [q3]; rfl) (by decide) ?_
            refine aw_aload_n (pc := 116) 0 dX10_club_116 rfl ?_
            refine aw_getR (pc := 117) 30 kcX10 dX10_club_117 lfX10_49 nn_233 ki_233 (by decide) rfl rf_233_30 ?_
            refine aw_iload_n (pc := 120) 1 dX10_club_120 rfl ?_
            refine aw_iald (pc := 121) (j := x1.toNatClampNeg) dX10_club_121 nn_245 ki_245 ln_245 h.1 rfl ?_
            have h := h.2
            exact aw_iret (pc := 122) rfl dX10_club_122 ⟨_, rfl, h⟩
          · have h := h.2 q3
            by_cases q4 : x2 = 7
            · have h := h.1 q4
              refine aw_tableIn (pc := 44) 123 dX10_club_44 (by rw [q4]; decide) (by rw [q4]; decide) (by rw [q4]; rfl) (by decide) ?_
              refine aw_aload_n (pc := 123) 0 dX10_club_123 rfl ?_
              refine aw_getR (pc := 124) 31 kcX10 dX10_club_124 lfX10_52 nn_233 ki_233 (by decide) rfl rf_233_31 ?_
              refine aw_iload_n (pc := 127) 1 dX10_club_127 rfl ?_
              refine aw_iald (pc := 128) (j := x1.toNatClampNeg) dX10_club_128 nn_246 ki_246 ln_246 h.1 rfl ?_
              have h := h.2
              exact aw_iret (pc := 129) rfl dX10_club_129 ⟨_, rfl, h⟩
            · have h := h.2 q4
              by_cases q5 : x2 = 8
              · have h := h.1 q5
                refine aw_tableIn (pc := 44) 130 dX10_club_44 (by rw [q5]; decide) (by rw [q5]; decide) (by rw [q5]; rfl) (by decide) ?_
                refine aw_aload_n (pc := 130) 0 dX10_club_130 rfl ?_
                refine aw_iload_n (pc := 131) 1 dX10_club_131 rfl ?_
                refine aw_callV (pc := 132) (As := [.int x1]) (rest := []) kcX10 nn_233 ki_233 rfl (ev_X10_lacks l x1 h) mfX10_lacks dX10_club_132 lmX10_387 ⟨Nat.le_refl _, Nat.le_refl _⟩ (by decide) rfl rfl (Nat.le_of_ble_eq_true rfl) (nxI (fun r132_ τ132 h => ?_))
                exact aw_iret (pc := 135) rfl dX10_club_135 ⟨_, rfl, h⟩
              · have h := h.2 q5
                by_cases q6 : x2 = 9
                · have h := h.1 q6
                  refine aw_tableIn (pc := 44) 136 dX10_club_44 (by rw [q6]; decide) (by rw [q6]; decide) (by rw [q6]; rfl) (by decide) ?_
                  refine aw_aload_n (pc := 136) 0 dX10_club_136 rfl ?_
                  refine aw_getR (pc := 137) 39 kcX10 dX10_club_137 lfX10_76 nn_233 ki_233 (by decide) rfl rf_233_39 ?_
                  refine aw_iload_n (pc := 140) 1 dX10_club_140 rfl ?_
                  refine aw_iald (pc := 141) (j := x1.toNatClampNeg) dX10_club_141 nn_254 ki_254 ln_254 h.1 rfl ?_
                  have h := h.2
                  exact aw_iret (pc := 142) rfl dX10_club_142 ⟨_, rfl, h⟩
                · have h := h.2 q6
                  by_cases q7 : x2 = 10
                  · have h := h.1 q7
                    refine aw_tableIn (pc := 44) 143 dX10_club_44 (by rw [q7]; decide) (by rw [q7]; decide) (by rw [q7]; rfl) (by decide) ?_
                    refine aw_aload_n (pc := 143) 0 dX10_club_143 rfl ?_
                    refine aw_getR (pc := 144) 33 kcX10 dX10_club_144 lfX10_58 nn_233 ki_233 (by decide) rfl rf_233_33 ?_
                    refine aw_iload_n (pc := 147) 1 dX10_club_147 rfl ?_
                    refine aw_iald (pc := 148) (j := x1.toNatClampNeg) dX10_club_148 nn_248 ki_248 ln_248 h.1 rfl ?_
                    have h := h.2
                    exact aw_iret (pc := 149) rfl dX10_club_149 ⟨_, rfl, h⟩
                  · have h := h.2 q7
                    by_cases q8 : x2 = 11
                    · have h := h.1 q8
                      refine aw_tableIn (pc := 44) 150 dX10_club_44 (by rw [q8]; decide) (by rw [q8]; decide) (by rw [q8]; rfl) (by decide) ?_
                      refine aw_aload_n (pc := 150) 0 dX10_club_150 rfl ?_
                      refine aw_iload_n (pc := 151) 1 dX10_club_151 rfl ?_
                      refine aw_callV (pc := 152) (As := [.int x1]) (rest := []) kcX10 nn_233 ki_233 rfl (ev_X10_wins l x1 h) mfX10_wins dX10_club_152 lmX10_404 ⟨Nat.le_refl _, Nat.le_refl _⟩ (by decide) rfl rfl (Nat.le_of_ble_eq_true rfl) (nxI (fun r152_ τ152 h => ?_))
                      exact aw_iret (pc := 155) rfl dX10_club_155 ⟨_, rfl, h⟩
                    · have h := h.2 q8
                      have t0 := lv_neT (a := 3) q0 rfl
                      have t1 := lv_neT (a := 4) q1 rfl
                      have t2 := lv_neT (a := 5) q2 rfl
                      have t3 := lv_neT (a := 6) q3 rfl
                      have t4 := lv_neT (a := 7) q4 rfl
                      have t5 := lv_neT (a := 8) q5 rfl
                      have t6 := lv_neT (a := 9) q6 rfl
                      have t7 := lv_neT (a := 10) q7 rfl
                      have t8 := lv_neT (a := 11) q8 rfl
                      refine aw_tableOut (pc := 44) 156 dX10_club_44 (by omega) (by decide) ?_
                      refine aw_aload_n (pc := 156) 0 dX10_club_156 rfl ?_
                      refine aw_iload_n (pc := 157) 1 dX10_club_157 rfl ?_
                      refine aw_iload_n (pc := 158) 2 dX10_club_158 rfl ?_
                      refine aw_callV (pc := 159) (As := [.int x1, .int x2]) (rest := []) kcX10 nn_233 ki_233 rfl (ev_X10_ofClub l x1 x2 h) mfX10_ofClub dX10_club_159 lmX10_345 ⟨Nat.le_refl _, Nat.le_refl _⟩ (by decide) rfl rfl (Nat.le_of_ble_eq_true rfl) (nxI (fun r159_ τ159 h => ?_))
                      exact aw_iret (pc := 162) rfl dX10_club_162 ⟨_, rfl, h⟩
  · have h := h.1 q
    refine aw_iconst (pc := 37) 0 dX10_club_37 (by decide) ?_
    exact aw_iret (pc := 38) rfl dX10_club_38 ⟨_, rfl, h⟩
def b_X10_club_25 (x1 : Int32) (x2 : Int32)  (K : Int32 → Sg → Prop)  (σ : Sg) : Prop :=
  b_X10_club_26 x1 x2  K 1 σ
set_option maxRecDepth 20000 in
set_option maxHeartbeats 2000000 in
theorem bt_X10_club_25 (l : Launch) (x1 : Int32) (x2 : Int32) {K : Int32 → Sg → Prop}     (σ : Sg) (h : b_X10_club_25 x1 x2  K  σ) : AV l RX10 cX10_club 3 (some .int) 8 (qI K) 25 [(0, .ref 233), (1, .int x1), (2, .int x2)] [.ref 233] σ := by
  refine aw_iconst (pc := 25) 1 dX10_club_25 (by decide) ?_
  exact bt_X10_club_26 l x1 x2   1  _ h
def wp_X10_club (x1 : Int32) (x2 : Int32) (σ : Sg) (K : Int32 → Sg → Prop) : Prop :=
  wp_X10_isClub x1 σ <| fun r3_ τ3 => (br (r3_ = 0) (b_X10_club_25 x1 x2  K  τ3) (wp_X10_within (Int32.toInt64 x2) 0 11 τ3 <| fun r15_ τ15 => (br (r15_ = 0) (b_X10_club_25 x1 x2  K  τ15) (b_X10_club_26 x1 x2  K 0 τ15))))
set_option maxRecDepth 20000 in
set_option maxHeartbeats 2000000 in
theorem ev_X10_club (l : Launch) (x1 : Int32) (x2 : Int32) {σ : Sg} {K : Int32 → Sg → Prop} (h : wp_X10_club x1 x2 σ K) : Ev l yX10_club cX10_club 3 (some .int) 8 [.ref 233, .int x1, .int x2] σ (qI K) := by
  refine ev_ov (by decide) (Nat.le_of_ble_eq_true rfl) ?_
  show AV l RX10 cX10_club 3 (some .int) 8 (qI K) 0 [(0, .ref 233), (1, .int x1), (2, .int x2)] [] σ
  refine aw_aload_n (pc := 0) 0 dX10_club_0 rfl ?_
  refine aw_aload_n (pc := 1) 0 dX10_club_1 rfl ?_
  refine aw_iload_n (pc := 2) 1 dX10_club_2 rfl ?_
  refine aw_callV (pc := 3) (As := [.int x1]) (rest := [.ref 233]) kcX10 nn_233 ki_233 rfl (ev_X10_isClub l x1 h) mfX10_isClub dX10_club_3 lmX10_284 ⟨Nat.le_refl _, Nat.le_refl _⟩ (by decide) rfl rfl (Nat.le_of_ble_eq_true rfl) (nxI (fun r3_ τ3 h => ?_))
  refine aw_if_eq (pc := 6) 25 dX10_club_6 (by decide) (fun q => ?_) (fun q => ?_)
  · have h := h.1 q
    exact bt_X10_club_25 l x1 x2     _ h
  · have h := h.2 q
    refine aw_iload_n (pc := 9) 2 dX10_club_9 rfl ?_
    refine aw_i2l (pc := 10) dX10_club_10 ?_
    refine aw_lconst (pc := 11) 0 dX10_club_11 (by decide) ?_
    refine aw_ldc2 (pc := 12) 11 dX10_club_12 lclX10_402 ?_
    refine aw_callS (pc := 15) (As := [.long (Int32.toInt64 x2), .long 0, .long 11]) (rest := [.ref 233]) (ev_X10_within l (Int32.toInt64 x2) 0 11 h) mfX10_within dX10_club_15 lmX10_94 ⟨Nat.le_refl _, Nat.le_refl _⟩ (by decide) rfl rfl (Nat.le_of_ble_eq_true rfl) (nxI (fun r15_ τ15 h => ?_))
    refine aw_if_eq (pc := 18) 25 dX10_club_18 (by decide) (fun q => ?_) (fun q => ?_)
    · have h := h.1 q
      exact bt_X10_club_25 l x1 x2     _ h
    · have h := h.2 q
      refine aw_iconst (pc := 21) 0 dX10_club_21 (by decide) ?_
      refine aw_goto (pc := 22) 26 dX10_club_22 (by decide) ?_
      exact bt_X10_club_26 l x1 x2   0  _ h
def b_X10_gatesOf_17 (x1 : Int32) (B4 : Int32 → Int32 → Sg → Prop) (K : Int32 → Sg → Prop) : Nat → Int32 → Int32 → Int32 → Sg → Prop
  | 0, _, _, _, _ => False
  | n + 1, y2, y3, y4, σ =>
  wp_X10_games y3 σ <| fun r21_ τ21 => (br (r21_ ≤ y4) (∀ v53 : Int32, v53 = y3 + 1 → (B4 y2 v53 τ21)) (wp_X10_ofTie y3 0 τ21 <| fun r30_ τ30 => (br (r30_ = x1) (wp_X10_gateOf y3 y4 τ30 <| fun r42_ τ42 => (∀ v46 : Int32, v46 = y2 + r42_ → (∀ v47 : Int32, v47 = y4 + 1 → (b_X10_gatesOf_17 x1 B4 K n v46 y3 v47 τ42)))) (∀ v53 : Int32, v53 = y3 + 1 → (B4 y2 v53 τ30)))))
set_option maxRecDepth 20000 in
set_option maxHeartbeats 2000000 in
theorem bt_X10_gatesOf_17 (l : Launch) (x1 : Int32) {K : Int32 → Sg → Prop} (B4 : Int32 → Int32 → Sg → Prop) (hB4 : ∀ (y2 : Int32) (y3 : Int32)  (τ : Sg), B4 y2 y3 τ → AV l RX10 cX10_gatesOf 5 (some .int) 2 (qI K) 4 [(0, .ref 233), (1, .int x1), (2, .int y2), (3, .int y3)] [] τ) : ∀ (n : Nat) (y2 : Int32) (y3 : Int32) (y4 : Int32)  (σ : Sg), b_X10_gatesOf_17 x1 B4 K n y2 y3 y4 σ → AV l RX10 cX10_gatesOf 5 (some .int) 2 (qI K) 17 [(0, .ref 233), (1, .int x1), (2, .int y2), (3, .int y3), (4, .int y4)] [] σ := by
  intro n
  induction n with
  | zero => intro y2 y3 y4 σ h; exact h.elim
  | succ n ih =>
    intro y2 y3 y4 σ h
    refine aw_iload (pc := 17) 4 dX10_gatesOf_17 rfl ?_
    refine aw_aload_n (pc := 19) 0 dX10_gatesOf_19 rfl ?_
    refine aw_iload_n (pc := 20) 3 dX10_gatesOf_20 rfl ?_
    refine aw_callV (pc := 21) (As := [.int y3]) (rest := [.int y4]) kcX10 nn_233 ki_233 rfl (ev_X10_games l y3 h) mfX10_games dX10_gatesOf_21 lmX10_255 ⟨Nat.le_refl _, Nat.le_refl _⟩ (by decide) rfl rfl (Nat.le_of_ble_eq_true rfl) (nxI (fun r21_ τ21 h => ?_))
    refine aw_icmp_ge (pc := 24) 53 dX10_gatesOf_24 (by decide) (fun q => ?_) (fun q => ?_)
    · have h := h.1 q
      obtain ⟨v53, ev53⟩ : ∃ v : Int32, v = y3 + 1 := ⟨_, rfl⟩
      have h := h v53 ev53
      refine aw_iinc (pc := 53) 3 v53 [(3, .int v53), (0, .ref 233), (1, .int x1), (2, .int y2), (4, .int y4)] dX10_gatesOf_53 rfl (by rw [ev53]; rfl) (by decide) rfl ?_
      refine aw_goto (pc := 56) 4 dX10_gatesOf_56 (by decide) ?_
      refine aw_sub (L' := [(0, .ref 233), (1, .int x1), (2, .int y2), (3, .int v53)]) [1, 2, 3, 0] rfl ?_
      exact hB4 y2 v53  _ h
    · have h := h.2 q
      refine aw_aload_n (pc := 27) 0 dX10_gatesOf_27 rfl ?_
      refine aw_iload_n (pc := 28) 3 dX10_gatesOf_28 rfl ?_
      refine aw_iconst (pc := 29) 0 dX10_gatesOf_29 (by decide) ?_
      refine aw_callV (pc := 30) (As := [.int y3, .int 0]) (rest := []) kcX10 nn_233 ki_233 rfl (ev_X10_ofTie l y3 0 h) mfX10_ofTie dX10_gatesOf_30 lmX10_252 ⟨Nat.le_refl _, Nat.le_refl _⟩ (by decide) rfl rfl (Nat.le_of_ble_eq_true rfl) (nxI (fun r30_ τ30 h => ?_))
      refine aw_iload_n (pc := 33) 1 dX10_gatesOf_33 rfl ?_
      refine aw_icmp_ne (pc := 34) 53 dX10_gatesOf_34 (by decide) (fun q => ?_) (fun q => ?_)
      · have h := h.2 q
        obtain ⟨v53, ev53⟩ : ∃ v : Int32, v = y3 + 1 := ⟨_, rfl⟩
        have h := h v53 ev53
        refine aw_iinc (pc := 53) 3 v53 [(3, .int v53), (0, .ref 233), (1, .int x1), (2, .int y2), (4, .int y4)] dX10_gatesOf_53 rfl (by rw [ev53]; rfl) (by decide) rfl ?_
        refine aw_goto (pc := 56) 4 dX10_gatesOf_56 (by decide) ?_
        refine aw_sub (L' := [(0, .ref 233), (1, .int x1), (2, .int y2), (3, .int v53)]) [1, 2, 3, 0] rfl ?_
        exact hB4 y2 v53  _ h
      · have h := h.1 q
        refine aw_iload_n (pc := 37) 2 dX10_gatesOf_37 rfl ?_
        refine aw_aload_n (pc := 38) 0 dX10_gatesOf_38 rfl ?_
        refine aw_iload_n (pc := 39) 3 dX10_gatesOf_39 rfl ?_
        refine aw_iload (pc := 40) 4 dX10_gatesOf_40 rfl ?_
        refine aw_callV (pc := 42) (As := [.int y3, .int y4]) (rest := [.int y2]) kcX10 nn_233 ki_233 rfl (ev_X10_gateOf l y3 y4 h) mfX10_gateOf dX10_gatesOf_42 lmX10_362 ⟨Nat.le_refl _, Nat.le_refl _⟩ (by decide) rfl rfl (Nat.le_of_ble_eq_true rfl) (nxI (fun r42_ τ42 h => ?_))
        refine aw_iadd (pc := 45) dX10_gatesOf_45 ?_
        refine aw_topi (fun v46 ev46 => ?_)
        have h := h v46 ev46
        refine aw_istore_n (pc := 46) (i := 2) [(2, .int v46), (0, .ref 233), (1, .int x1), (3, .int y3), (4, .int y4)] dX10_gatesOf_46 rfl (by decide) rfl ?_
        obtain ⟨v47, ev47⟩ : ∃ v : Int32, v = y4 + 1 := ⟨_, rfl⟩
        have h := h v47 ev47
        refine aw_iinc (pc := 47) 4 v47 [(4, .int v47), (2, .int v46), (0, .ref 233), (1, .int x1), (3, .int y3)] dX10_gatesOf_47 rfl (by rw [ev47]; rfl) (by decide) rfl ?_
        refine aw_goto (pc := 50) 17 dX10_gatesOf_50 (by decide) ?_
        refine aw_sub (L' := [(0, .ref 233), (1, .int x1), (2, .int v46), (3, .int y3), (4, .int v47)]) [2, 3, 1, 4, 0] rfl ?_
        exact ih v46 y3 v47  _ h
def b_X10_gatesOf_4 (x1 : Int32)  (K : Int32 → Sg → Prop) : Nat → Int32 → Int32 → Sg → Prop
  | 0, _, _, _ => False
  | n + 1, y2, y3, σ =>
  br ((σ 236 0) ≤ y3) (K y2 σ) (∃ nf, b_X10_gatesOf_17 x1 (fun y2' y3' τ => b_X10_gatesOf_4 x1  K n y2' y3' τ) K nf y2 y3 0 σ)
set_option maxRecDepth 20000 in
set_option maxHeartbeats 2000000 in
theorem bt_X10_gatesOf_4 (l : Launch) (x1 : Int32) {K : Int32 → Sg → Prop}   : ∀ (n : Nat) (y2 : Int32) (y3 : Int32)  (σ : Sg), b_X10_gatesOf_4 x1  K n y2 y3 σ → AV l RX10 cX10_gatesOf 5 (some .int) 2 (qI K) 4 [(0, .ref 233), (1, .int x1), (2, .int y2), (3, .int y3)] [] σ := by
  intro n
  induction n with
  | zero => intro y2 y3 σ h; exact h.elim
  | succ n ih =>
    intro y2 y3 σ h
    refine aw_iload_n (pc := 4) 3 dX10_gatesOf_4 rfl ?_
    refine aw_aload_n (pc := 5) 0 dX10_gatesOf_5 rfl ?_
    refine aw_getR (pc := 6) 3 kcX10 dX10_gatesOf_6 lfX10_16 nn_233 ki_233 (by decide) rfl rf_233_3 ?_
    refine aw_iconst (pc := 9) 0 dX10_gatesOf_9 (by decide) ?_
    refine aw_iald (pc := 10) (j := 0) dX10_gatesOf_10 nn_236 ki_236 ln_236 (show vp_in _ _ by unfold vp_in; decide) (by decide) ?_
    refine aw_icmp_ge (pc := 11) 59 dX10_gatesOf_11 (by decide) (fun q => ?_) (fun q => ?_)
    · have h := h.1 q
      refine aw_iload_n (pc := 59) 2 dX10_gatesOf_59 rfl ?_
      exact aw_iret (pc := 60) rfl dX10_gatesOf_60 ⟨_, rfl, h⟩
    · have h := h.2 q
      refine aw_iconst (pc := 14) 0 dX10_gatesOf_14 (by decide) ?_
      refine aw_istore (pc := 15) [(4, .int 0), (0, .ref 233), (1, .int x1), (2, .int y2), (3, .int y3)] dX10_gatesOf_15 (by decide) rfl ?_
      refine aw_sub (L' := [(0, .ref 233), (1, .int x1), (2, .int y2), (3, .int y3), (4, .int 0)]) [1, 2, 3, 4, 0] rfl ?_
      obtain ⟨nf, h⟩ := h
      exact bt_X10_gatesOf_17 l x1 (fun y2' y3' τ => b_X10_gatesOf_4 x1  K n y2' y3' τ) (fun y2' y3' τ h => ih y2' y3' τ h) nf y2 y3 0  _ h
def wp_X10_gatesOf (x1 : Int32) (σ : Sg) (K : Int32 → Sg → Prop) : Prop :=
  ∃ nf, b_X10_gatesOf_4 x1  K nf 0 0 σ
set_option maxRecDepth 20000 in
set_option maxHeartbeats 2000000 in
theorem ev_X10_gatesOf (l : Launch) (x1 : Int32) {σ : Sg} {K : Int32 → Sg → Prop} (h : wp_X10_gatesOf x1 σ K) : Ev l yX10_gatesOf cX10_gatesOf 5 (some .int) 2 [.ref 233, .int x1] σ (qI K) := by
  refine ev_ov (by decide) (Nat.le_of_ble_eq_true rfl) ?_
  show AV l RX10 cX10_gatesOf 5 (some .int) 2 (qI K) 0 [(0, .ref 233), (1, .int x1)] [] σ
  refine aw_iconst (pc := 0) 0 dX10_gatesOf_0 (by decide) ?_
  refine aw_istore_n (pc := 1) (i := 2) [(2, .int 0), (0, .ref 233), (1, .int x1)] dX10_gatesOf_1 rfl (by decide) rfl ?_
  refine aw_iconst (pc := 2) 0 dX10_gatesOf_2 (by decide) ?_
  refine aw_istore_n (pc := 3) (i := 3) [(3, .int 0), (2, .int 0), (0, .ref 233), (1, .int x1)] dX10_gatesOf_3 rfl (by decide) rfl ?_
  refine aw_sub (L' := [(0, .ref 233), (1, .int x1), (2, .int 0), (3, .int 0)]) [2, 3, 1, 0] rfl ?_
  obtain ⟨nf, h⟩ := h
  exact bt_X10_gatesOf_4 l x1   nf 0 0  _ h
def b_X10_tiesIn_4 (x1 : Int32)  (K : Int32 → Sg → Prop) : Nat → Int32 → Int32 → Sg → Prop
  | 0, _, _, _ => False
  | n + 1, y2, y3, σ =>
  br (6 ≤ y3) (K y2 σ) (wp_X10_tiesOf x1 y3 σ <| fun r14_ τ14 => (∀ v18 : Int32, v18 = y2 + r14_ → (∀ v19 : Int32, v19 = y3 + 1 → (b_X10_tiesIn_4 x1  K n v18 v19 τ14))))
set_option maxRecDepth 20000 in
set_option maxHeartbeats 2000000 in
theorem bt_X10_tiesIn_4 (l : Launch) (x1 : Int32) {K : Int32 → Sg → Prop}   : ∀ (n : Nat) (y2 : Int32) (y3 : Int32)  (σ : Sg), b_X10_tiesIn_4 x1  K n y2 y3 σ → AV l RX10 cX10_tiesIn 4 (some .int) 3 (qI K) 4 [(0, .ref 233), (1, .int x1), (2, .int y2), (3, .int y3)] [] σ := by
  intro n
  induction n with
  | zero => intro y2 y3 σ h; exact h.elim
  | succ n ih =>
    intro y2 y3 σ h
    refine aw_iload_n (pc := 4) 3 dX10_tiesIn_4 rfl ?_
    refine aw_bipush (pc := 5) 6 dX10_tiesIn_5 (by decide) ?_
    refine aw_icmp_ge (pc := 7) 25 dX10_tiesIn_7 (by decide) (fun q => ?_) (fun q => ?_)
    · have h := h.1 q
      refine aw_iload_n (pc := 25) 2 dX10_tiesIn_25 rfl ?_
      exact aw_iret (pc := 26) rfl dX10_tiesIn_26 ⟨_, rfl, h⟩
    · have h := h.2 q
      refine aw_iload_n (pc := 10) 2 dX10_tiesIn_10 rfl ?_
      refine aw_aload_n (pc := 11) 0 dX10_tiesIn_11 rfl ?_
      refine aw_iload_n (pc := 12) 1 dX10_tiesIn_12 rfl ?_
      refine aw_iload_n (pc := 13) 3 dX10_tiesIn_13 rfl ?_
      refine aw_callV (pc := 14) (As := [.int x1, .int y3]) (rest := [.int y2]) kcX10 nn_233 ki_233 rfl (ev_X10_tiesOf l x1 y3 h) mfX10_tiesOf dX10_tiesIn_14 lmX10_304 ⟨Nat.le_refl _, Nat.le_refl _⟩ (by decide) rfl rfl (Nat.le_of_ble_eq_true rfl) (nxI (fun r14_ τ14 h => ?_))
      refine aw_iadd (pc := 17) dX10_tiesIn_17 ?_
      refine aw_topi (fun v18 ev18 => ?_)
      have h := h v18 ev18
      refine aw_istore_n (pc := 18) (i := 2) [(2, .int v18), (0, .ref 233), (1, .int x1), (3, .int y3)] dX10_tiesIn_18 rfl (by decide) rfl ?_
      obtain ⟨v19, ev19⟩ : ∃ v : Int32, v = y3 + 1 := ⟨_, rfl⟩
      have h := h v19 ev19
      refine aw_iinc (pc := 19) 3 v19 [(3, .int v19), (2, .int v18), (0, .ref 233), (1, .int x1)] dX10_tiesIn_19 rfl (by rw [ev19]; rfl) (by decide) rfl ?_
      refine aw_goto (pc := 22) 4 dX10_tiesIn_22 (by decide) ?_
      refine aw_sub (L' := [(0, .ref 233), (1, .int x1), (2, .int v18), (3, .int v19)]) [2, 3, 1, 0] rfl ?_
      exact ih v18 v19  _ h
def wp_X10_tiesIn (x1 : Int32) (σ : Sg) (K : Int32 → Sg → Prop) : Prop :=
  ∃ nf, b_X10_tiesIn_4 x1  K nf 0 0 σ
set_option maxRecDepth 20000 in
set_option maxHeartbeats 2000000 in
theorem ev_X10_tiesIn (l : Launch) (x1 : Int32) {σ : Sg} {K : Int32 → Sg → Prop} (h : wp_X10_tiesIn x1 σ K) : Ev l yX10_tiesIn cX10_tiesIn 4 (some .int) 3 [.ref 233, .int x1] σ (qI K) := by
  refine ev_ov (by decide) (Nat.le_of_ble_eq_true rfl) ?_
  show AV l RX10 cX10_tiesIn 4 (some .int) 3 (qI K) 0 [(0, .ref 233), (1, .int x1)] [] σ
  refine aw_iconst (pc := 0) 0 dX10_tiesIn_0 (by decide) ?_
  refine aw_istore_n (pc := 1) (i := 2) [(2, .int 0), (0, .ref 233), (1, .int x1)] dX10_tiesIn_1 rfl (by decide) rfl ?_
  refine aw_iconst (pc := 2) 0 dX10_tiesIn_2 (by decide) ?_
  refine aw_istore_n (pc := 3) (i := 3) [(3, .int 0), (2, .int 0), (0, .ref 233), (1, .int x1)] dX10_tiesIn_3 rfl (by decide) rfl ?_
  refine aw_sub (L' := [(0, .ref 233), (1, .int x1), (2, .int 0), (3, .int 0)]) [2, 3, 1, 0] rfl ?_
  obtain ⟨nf, h⟩ := h
  exact bt_X10_tiesIn_4 l x1   nf 0 0  _ h
