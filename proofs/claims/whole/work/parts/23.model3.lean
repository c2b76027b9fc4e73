def wp_X10_cup (x1 : Int32) (x2 : Int32) (σ : Sg) (K : Int32 → Sg → Prop) : Prop :=
  ∀ τ2 : Sg, τ2 = up σ 233 0 0 → (wp_X10_isCup x1 τ2 <| fun r7_ τ7 => (br (r7_ = 0) (K (-1) τ7) (wp_X10_within (Int32.toInt64 x2) 0 13 τ7 <| fun r19_ τ19 => (br (r19_ = 0) (K (-1) τ19) (wp_X10_layAll  τ19 <| fun τ28 => (br (x2 = 11) (vp_in x1 4 ∧ (K (τ28 253 x1.toNatClampNeg) τ28)) (br (x2 = 12) (wp_X10_gatesOf x1 τ28 <| fun r69_ τ69 => (K r69_ τ69)) (br (x2 = 13) (wp_X10_tiesIn x1 τ28 <| fun r75_ τ75 => (K r75_ τ75)) (wp_X10_ofCup x1 x2 τ28 <| fun r82_ τ82 => (K r82_ τ82))))))))))
set_option maxRecDepth 20000 in
set_option maxHeartbeats 2000000 in
theorem ev_X10_cup (l : Launch) (x1 : Int32) (x2 : Int32) {σ : Sg} {K : Int32 → Sg → Prop} (h : wp_X10_cup x1 x2 σ K) : Ev l yX10_cup cX10_cup 3 (some .int) 8 [.ref 233, .int x1, .int x2] σ (qI K) := by
  refine ev_ov (by decide) (Nat.le_of_ble_eq_true rfl) ?_
  show AV l RX10 cX10_cup 3 (some .int) 8 (qI K) 0 [(0, .ref 233), (1, .int x1), (2, .int x2)] [] σ
  refine aw_aload_n (pc := 0) 0 dX10_cup_0 rfl ?_
  refine aw_iconst (pc := 1) 0 dX10_cup_1 (by decide) ?_
  refine aw_put (pc := 2) 0 kcX10 dX10_cup_2 lfX10_91 nn_233 ki_233 (by decide) rfl rfl rfl rfl ?_
  refine aw_tops (fun τ2 eτ2 => ?_)
  have h := h τ2 eτ2
  refine aw_aload_n (pc := 5) 0 dX10_cup_5 rfl ?_
  refine aw_iload_n (pc := 6) 1 dX10_cup_6 rfl ?_
  refine aw_callV (pc := 7) (As := [.int x1]) (rest := []) kcX10 nn_233 ki_233 rfl (ev_X10_isCup l x1 h) mfX10_isCup dX10_cup_7 lmX10_278 ⟨Nat.le_refl _, Nat.le_refl _⟩ (by decide) rfl rfl (Nat.le_of_ble_eq_true rfl) (nxI (fun r7_ τ7 h => ?_))
  refine aw_if_eq (pc := 10) 25 dX10_cup_10 (by decide) (fun q => ?_) (fun q => ?_)
  · have h := h.1 q
    refine aw_iconst (pc := 25) (-1) dX10_cup_25 (by decide) ?_
    exact aw_iret (pc := 26) rfl dX10_cup_26 ⟨_, rfl, h⟩
  · have h := h.2 q
    refine aw_iload_n (pc := 13) 2 dX10_cup_13 rfl ?_
    refine aw_i2l (pc := 14) dX10_cup_14 ?_
    refine aw_lconst (pc := 15) 0 dX10_cup_15 (by decide) ?_
    refine aw_ldc2 (pc := 16) 13 dX10_cup_16 lclX10_407 ?_
    refine aw_callS (pc := 19) (As := [.long (Int32.toInt64 x2), .long 0, .long 13]) (rest := []) (ev_X10_within l (Int32.toInt64 x2) 0 13 h) mfX10_within dX10_cup_19 lmX10_94 ⟨Nat.le_refl _, Nat.le_refl _⟩ (by decide) rfl rfl (Nat.le_of_ble_eq_true rfl) (nxI (fun r19_ τ19 h => ?_))
    refine aw_if_ne (pc := 22) 27 dX10_cup_22 (by decide) (fun q => ?_) (fun q => ?_)
    · have h := h.2 q
      refine aw_aload_n (pc := 27) 0 dX10_cup_27 rfl ?_
      refine aw_callV (pc := 28) (As := []) (rest := []) kcX10 nn_233 ki_233 rfl (ev_X10_layAll l  h) mfX10_layAll dX10_cup_28 lmX10_310 ⟨Nat.le_refl _, Nat.le_refl _⟩ (by decide) rfl rfl (Nat.le_of_ble_eq_true rfl) (nxV (fun τ28 h => ?_))
      refine aw_iload_n (pc := 31) 2 dX10_cup_31 rfl ?_
      by_cases q0 : x2 = 11
      · have h := h.1 q0
        refine aw_tableIn (pc := 32) 60 dX10_cup_32 (by rw [q0]; decide) (by rw [q0]; decide) (by rw [q0]; rfl) (by decide) ?_
        refine aw_aload_n (pc := 60) 0 dX10_cup_60 rfl ?_
        refine aw_getR (pc := 61) 38 kcX10 dX10_cup_61 lfX10_73 nn_233 ki_233 (by decide) rfl rf_233_38 ?_
        refine aw_iload_n (pc := 64) 1 dX10_cup_64 rfl ?_
        refine aw_iald (pc := 65) (j := x1.toNatClampNeg) dX10_cup_65 nn_253 ki_253 ln_253 h.1 rfl ?_
        have h := h.2
        exact aw_iret (pc := 66) rfl dX10_cup_66 ⟨_, rfl, h⟩
      · have h := h.2 q0
        by_cases q1 : x2 = 12
        · have h := h.1 q1
          refine aw_tableIn (pc := 32) 67 dX10_cup_32 (by rw [q1]; decide) (by rw [q1]; decide) (by rw [q1]; rfl) (by decide) ?_
          refine aw_aload_n (pc := 67) 0 dX10_cup_67 rfl ?_
          refine aw_iload_n (pc := 68) 1 dX10_cup_68 rfl ?_
          refine aw_callV (pc := 69) (As := [.int x1]) (rest := []) kcX10 nn_233 ki_233 rfl (ev_X10_gatesOf l x1 h) mfX10_gatesOf dX10_cup_69 lmX10_409 ⟨Nat.le_refl _, Nat.le_refl _⟩ (by decide) rfl rfl (Nat.le_of_ble_eq_true rfl) (nxI (fun r69_ τ69 h => ?_))
          exact aw_iret (pc := 72) rfl dX10_cup_72 ⟨_, rfl, h⟩
        · have h := h.2 q1
          by_cases q2 : x2 = 13
          · have h := h.1 q2
            refine aw_tableIn (pc := 32) 73 dX10_cup_32 (by rw [q2]; decide) (by rw [q2]; decide) (by rw [q2]; rfl) (by decide) ?_
            refine aw_aload_n (pc := 73) 0 dX10_cup_73 rfl ?_
            refine aw_iload_n (pc := 74) 1 dX10_cup_74 rfl ?_
            refine aw_callV (pc := 75) (As := [.int x1]) (rest := []) kcX10 nn_233 ki_233 rfl (ev_X10_tiesIn l x1 h) mfX10_tiesIn dX10_cup_75 lmX10_412 ⟨Nat.le_refl _, Nat.le_refl _⟩ (by decide) rfl rfl (Nat.le_of_ble_eq_true rfl) (nxI (fun r75_ τ75 h => ?_))
            exact aw_iret (pc := 78) rfl dX10_cup_78 ⟨_, rfl, h⟩
          · have h := h.2 q2
            have t0 := lv_neT (a := 11) q0 rfl
            have t1 := lv_neT (a := 12) q1 rfl
            have t2 := lv_neT (a := 13) q2 rfl
            refine aw_tableOut (pc := 32) 79 dX10_cup_32 (by omega) (by decide) ?_
            refine aw_aload_n (pc := 79) 0 dX10_cup_79 rfl ?_
            refine aw_iload_n (pc := 80) 1 dX10_cup_80 rfl ?_
            refine aw_iload_n (pc := 81) 2 dX10_cup_81 rfl ?_
            refine aw_callV (pc := 82) (As := [.int x1, .int x2]) (rest := []) kcX10 nn_233 ki_233 rfl (ev_X10_ofCup l x1 x2 h) mfX10_ofCup dX10_cup_82 lmX10_301 ⟨Nat.le_refl _, Nat.le_refl _⟩ (by decide) rfl rfl (Nat.le_of_ble_eq_true rfl) (nxI (fun r82_ τ82 h => ?_))
            exact aw_iret (pc := 85) rfl dX10_cup_85 ⟨_, rfl, h⟩
    · have h := h.1 q
      refine aw_iconst (pc := 25) (-1) dX10_cup_25 (by decide) ?_
      exact aw_iret (pc := 26) rfl dX10_cup_26 ⟨_, rfl, h⟩
def b_X10_hadBy_6 (x1 : Int32) (x2 : Int32) (x3 : Int32)  (K : Int32 → Sg → Prop) : Nat → Int32 → Int32 → Sg → Prop
  | 0, _, _, _ => False
  | n + 1, y4, y5, σ =>
  wp_X10_games x1 σ <| fun r10_ τ10 => (br (r10_ ≤ y5) (K y4 τ10) (wp_X10_gateOf x1 y5 τ10 <| fun r24_ τ24 => (wp_X10_layGame x1 y5 r24_ x2 τ24 <| fun τ28 => (wp_X10_hasOf y5 x3 τ28 <| fun r37_ τ37 => (∀ v41 : Int32, v41 = y4 + r37_ → (∀ v43 : Int32, v43 = y5 + 1 → (b_X10_hadBy_6 x1 x2 x3  K n v41 v43 τ37)))))))
set_option maxRecDepth 20000 in
set_option maxHeartbeats 2000000 in
theorem bt_X10_hadBy_6 (l : Launch) (x1 : Int32) (x2 : Int32) (x3 : Int32) {K : Int32 → Sg → Prop}   : ∀ (n : Nat) (y4 : Int32) (y5 : Int32)  (σ : Sg), b_X10_hadBy_6 x1 x2 x3  K n y4 y5 σ → AV l RX10 cX10_hadBy 6 (some .int) 3 (qI K) 6 [(0, .ref 233), (1, .int x1), (2, .int x2), (3, .int x3), (4, .int y4), (5, .int y5)] [] σ := by
  intro n
  induction n with
  | zero => intro y4 y5 σ h; exact h.elim
  | succ n ih =>
    intro y4 y5 σ h
    refine aw_iload (pc := 6) 5 dX10_hadBy_6 rfl ?_
    refine aw_aload_n (pc := 8) 0 dX10_hadBy_8 rfl ?_
    refine aw_iload_n (pc := 9) 1 dX10_hadBy_9 rfl ?_
    refine aw_callV (pc := 10) (As := [.int x1]) (rest := [.int y5]) kcX10 nn_233 ki_233 rfl (ev_X10_games l x1 h) mfX10_games dX10_hadBy_10 lmX10_255 ⟨Nat.le_refl _, Nat.le_refl _⟩ (by decide) rfl rfl (Nat.le_of_ble_eq_true rfl) (nxI (fun r10_ τ10 h => ?_))
    refine aw_icmp_ge (pc := 13) 49 dX10_hadBy_13 (by decide) (fun q => ?_) (fun q => ?_)
    · have h := h.1 q
      refine aw_iload (pc := 49) 4 dX10_hadBy_49 rfl ?_
      exact aw_iret (pc := 51) rfl dX10_hadBy_51 ⟨_, rfl, h⟩
    · have h := h.2 q
      refine aw_aload_n (pc := 16) 0 dX10_hadBy_16 rfl ?_
      refine aw_iload_n (pc := 17) 1 dX10_hadBy_17 rfl ?_
      refine aw_iload (pc := 18) 5 dX10_hadBy_18 rfl ?_
      refine aw_aload_n (pc := 20) 0 dX10_hadBy_20 rfl ?_
      refine aw_iload_n (pc := 21) 1 dX10_hadBy_21 rfl ?_
      refine aw_iload (pc := 22) 5 dX10_hadBy_22 rfl ?_
      refine aw_callV (pc := 24) (As := [.int x1, .int y5]) (rest := [.int y5, .int x1, .ref 233]) kcX10 nn_233 ki_233 rfl (ev_X10_gateOf l x1 y5 h) mfX10_gateOf dX10_hadBy_24 lmX10_362 ⟨Nat.le_refl _, Nat.le_refl _⟩ (by decide) rfl rfl (Nat.le_of_ble_eq_true rfl) (nxI (fun r24_ τ24 h => ?_))
      refine aw_iload_n (pc := 27) 2 dX10_hadBy_27 rfl ?_
      refine aw_callV (pc := 28) (As := [.int x1, .int y5, .int r24_, .int x2]) (rest := []) kcX10 nn_233 ki_233 rfl (ev_X10_layGame l x1 y5 r24_ x2 h) mfX10_layGame dX10_hadBy_28 lmX10_365 ⟨Nat.le_refl _, Nat.le_refl _⟩ (by decide) rfl rfl (Nat.le_of_ble_eq_true rfl) (nxV (fun τ28 h => ?_))
      refine aw_iload (pc := 31) 4 dX10_hadBy_31 rfl ?_
      refine aw_aload_n (pc := 33) 0 dX10_hadBy_33 rfl ?_
      refine aw_iload (pc := 34) 5 dX10_hadBy_34 rfl ?_
      refine aw_iload_n (pc := 36) 3 dX10_hadBy_36 rfl ?_
      refine aw_callV (pc := 37) (As := [.int y5, .int x3]) (rest := [.int y4]) kcX10 nn_233 ki_233 rfl (ev_X10_hasOf l y5 x3 h) mfX10_hasOf dX10_hadBy_37 lmX10_415 ⟨Nat.le_refl _, Nat.le_refl _⟩ (by decide) rfl rfl (Nat.le_of_ble_eq_true rfl) (nxI (fun r37_ τ37 h => ?_))
      refine aw_iadd (pc := 40) dX10_hadBy_40 ?_
      refine aw_topi (fun v41 ev41 => ?_)
      have h := h v41 ev41
      refine aw_istore (pc := 41) [(4, .int v41), (0, .ref 233), (1, .int x1), (2, .int x2), (3, .int x3), (5, .int y5)] dX10_hadBy_41 (by decide) rfl ?_
      obtain ⟨v43, ev43⟩ : ∃ v : Int32, v = y5 + 1 := ⟨_, rfl⟩
      have h := h v43 ev43
      refine aw_iinc (pc := 43) 5 v43 [(5, .int v43), (4, .int v41), (0, .ref 233), (1, .int x1), (2, .int x2), (3, .int x3)] dX10_hadBy_43 rfl (by rw [ev43]; rfl) (by decide) rfl ?_
      refine aw_goto (pc := 46) 6 dX10_hadBy_46 (by decide) ?_
      refine aw_sub (L' := [(0, .ref 233), (1, .int x1), (2, .int x2), (3, .int x3), (4, .int v41), (5, .int v43)]) [2, 3, 4, 5, 1, 0] rfl ?_
      exact ih v41 v43  _ h
def wp_X10_hadBy (x1 : Int32) (x2 : Int32) (x3 : Int32) (σ : Sg) (K : Int32 → Sg → Prop) : Prop :=
  ∃ nf, b_X10_hadBy_6 x1 x2 x3  K nf 0 0 σ
set_option maxRecDepth 20000 in
set_option maxHeartbeats 2000000 in
theorem ev_X10_hadBy (l : Launch) (x1 : Int32) (x2 : Int32) (x3 : Int32) {σ : Sg} {K : Int32 → Sg → Prop} (h : wp_X10_hadBy x1 x2 x3 σ K) : Ev l yX10_hadBy cX10_hadBy 6 (some .int) 3 [.ref 233, .int x1, .int x2, .int x3] σ (qI K) := by
  refine ev_ov (by decide) (Nat.le_of_ble_eq_true rfl) ?_
  show AV l RX10 cX10_hadBy 6 (some .int) 3 (qI K) 0 [(0, .ref 233), (1, .int x1), (2, .int x2), (3, .int x3)] [] σ
  refine aw_iconst (pc := 0) 0 dX10_hadBy_0 (by decide) ?_
  refine aw_istore (pc := 1) [(4, .int 0), (0, .ref 233), (1, .int x1), (2, .int x2), (3, .int x3)] dX10_hadBy_1 (by decide) rfl ?_
  refine aw_iconst (pc := 3) 0 dX10_hadBy_3 (by decide) ?_
  refine aw_istore (pc := 4) [(5, .int 0), (4, .int 0), (0, .ref 233), (1, .int x1), (2, .int x2), (3, .int x3)] dX10_hadBy_4 (by decide) rfl ?_
  refine aw_sub (L' := [(0, .ref 233), (1, .int x1), (2, .int x2), (3, .int x3), (4, .int 0), (5, .int 0)]) [2, 3, 4, 5, 1, 0] rfl ?_
  obtain ⟨nf, h⟩ := h
  exact bt_X10_hadBy_6 l x1 x2 x3   nf 0 0  _ h
def b_X10_tieOf_90 (x1 : Int32) (x2 : Int32)  (K : Int32 → Sg → Prop) : Nat → Int32 → Int32 → Sg → Prop
  | 0, _, _, _ => False
  | n + 1, y3, y4, σ =>
  wp_X10_games x1 σ <| fun r94_ τ94 => (br (r94_ ≤ y4) (K y3 τ94) (wp_X10_gateOf x1 y4 τ94 <| fun r105_ τ105 => (∀ v109 : Int32, v109 = y3 + r105_ → (∀ v110 : Int32, v110 = y4 + 1 → (b_X10_tieOf_90 x1 x2  K n v109 v110 τ105)))))
set_option maxRecDepth 20000 in
set_option maxHeartbeats 2000000 in
theorem bt_X10_tieOf_90 (l : Launch) (x1 : Int32) (x2 : Int32) {K : Int32 → Sg → Prop}   : ∀ (n : Nat) (y3 : Int32) (y4 : Int32)  (σ : Sg), b_X10_tieOf_90 x1 x2  K n y3 y4 σ → AV l RX10 cX10_tieOf 5 (some .int) 4 (qI K) 90 [(0, .ref 233), (1, .int x1), (3, .int y3), (4, .int y4)] [] σ := by
  intro n
  induction n with
  | zero => intro y3 y4 σ h; exact h.elim
  | succ n ih =>
    intro y3 y4 σ h
    refine aw_iload (pc := 90) 3 dX10_tieOf_90 rfl ?_
    refine aw_aload_n (pc := 92) 0 dX10_tieOf_92 rfl ?_
    refine aw_iload_n (pc := 93) 1 dX10_tieOf_93 rfl ?_
    refine aw_callV (pc := 94) (As := [.int x1]) (rest := [.int y4]) kcX10 nn_233 ki_233 rfl (ev_X10_games l x1 h) mfX10_games dX10_tieOf_94 lmX10_255 ⟨Nat.le_refl _, Nat.le_refl _⟩ (by decide) rfl rfl (Nat.le_of_ble_eq_true rfl) (nxI (fun r94_ τ94 h => ?_))
    refine aw_icmp_ge (pc := 97) 116 dX10_tieOf_97 (by decide) (fun q => ?_) (fun q => ?_)
    · have h := h.1 q
      refine aw_iload_n (pc := 116) 2 dX10_tieOf_116 rfl ?_
      exact aw_iret (pc := 117) rfl dX10_tieOf_117 ⟨_, rfl, h⟩
    · have h := h.2 q
      refine aw_iload_n (pc := 100) 2 dX10_tieOf_100 rfl ?_
      refine aw_aload_n (pc := 101) 0 dX10_tieOf_101 rfl ?_
      refine aw_iload_n (pc := 102) 1 dX10_tieOf_102 rfl ?_
      refine aw_iload (pc := 103) 3 dX10_tieOf_103 rfl ?_
      refine aw_callV (pc := 105) (As := [.int x1, .int y4]) (rest := [.int y3]) kcX10 nn_233 ki_233 rfl (ev_X10_gateOf l x1 y4 h) mfX10_gateOf dX10_tieOf_105 lmX10_362 ⟨Nat.le_refl _, Nat.le_refl _⟩ (by decide) rfl rfl (Nat.le_of_ble_eq_true rfl) (nxI (fun r105_ τ105 h => ?_))
      refine aw_iadd (pc := 108) dX10_tieOf_108 ?_
      refine aw_topi (fun v109 ev109 => ?_)
      have h := h v109 ev109
      refine aw_istore_n (pc := 109) (i := 3) [(3, .int v109), (0, .ref 233), (1, .int x1), (4, .int y4)] dX10_tieOf_109 rfl (by decide) rfl ?_
      obtain ⟨v110, ev110⟩ : ∃ v : Int32, v = y4 + 1 := ⟨_, rfl⟩
      have h := h v110 ev110
      refine aw_iinc (pc := 110) 3 v110 [(4, .int v110), (3, .int v109), (0, .ref 233), (1, .int x1)] dX10_tieOf_110 rfl (by rw [ev110]; rfl) (by decide) rfl ?_
      refine aw_goto (pc := 113) 90 dX10_tieOf_113 (by decide) ?_
      refine aw_sub (L' := [(0, .ref 233), (1, .int x1), (3, .int v109), (4, .int v110)]) [2, 3, 1, 0] rfl ?_
      exact ih v109 v110  _ h
def wp_X10_tieOf (x1 : Int32) (x2 : Int32) (σ : Sg) (K : Int32 → Sg → Prop) : Prop :=
  ∀ τ2 : Sg, τ2 = up σ 233 0 0 → (wp_X10_isTie x1 τ2 <| fun r7_ τ7 => (br (r7_ = 0) (K (-1) τ7) (wp_X10_within (Int32.toInt64 x2) 0 9 τ7 <| fun r19_ τ19 => (br (r19_ = 0) (K (-1) τ19) (br (5 ≤ x2) (br (x2 = 5) (wp_X10_isDecided x1 τ19 <| fun r46_ τ46 => (br (r46_ = 0) (K (-2) τ46) (wp_X10_winner x1 τ46 <| fun r54_ τ54 => (K r54_ τ54)))) (br (x2 ≤ 6) (∃ nf, b_X10_tieOf_90 x1 x2  K nf 0 0 τ19) (wp_X10_ofTie x1 0 τ19 <| fun r74_ τ74 => (wp_X10_hadBy x1 r74_ (x2 - 7) τ74 <| fun r81_ τ81 => (K r81_ τ81))))) (wp_X10_ofTie x1 x2 τ19 <| fun r35_ τ35 => (K r35_ τ35)))))))
set_option maxRecDepth 20000 in
set_option maxHeartbeats 2000000 in
theorem ev_X10_tieOf (l : Launch) (x1 : Int32) (x2 : Int32) {σ : Sg} {K : Int32 → Sg → Prop} (h : wp_X10_tieOf x1 x2 σ K) : Ev l yX10_tieOf cX10_tieOf 5 (some .int) 4 [.ref 233, .int x1, .int x2] σ (qI K) := by
  refine ev_ov (by decide) (Nat.le_of_ble_eq_true rfl) ?_
  show AV l RX10 cX10_tieOf 5 (some .int) 4 (qI K) 0 [(0, .ref 233), (1, .int x1), (2, .int x2)] [] σ
  refine aw_aload_n (pc := 0) 0 dX10_tieOf_0 rfl ?_
  refine aw_iconst (pc := 1) 0 dX10_tieOf_1 (by decide) ?_
  refine aw_put (pc := 2) 0 kcX10 dX10_tieOf_2 lfX10_91 nn_233 ki_233 (by decide) rfl rfl rfl rfl ?_
  refine aw_tops (fun τ2 eτ2 => ?_)
  have h := h τ2 eτ2
  refine aw_aload_n (pc := 5) 0 dX10_tieOf_5 rfl ?_
  refine aw_iload_n (pc := 6) 1 dX10_tieOf_6 rfl ?_
  refine aw_callV (pc := 7) (As := [.int x1]) (rest := []) kcX10 nn_233 ki_233 rfl (ev_X10_isTie l x1 h) mfX10_isTie dX10_tieOf_7 lmX10_294 ⟨Nat.le_refl _, Nat.le_refl _⟩ (by decide) rfl rfl (Nat.le_of_ble_eq_true rfl) (nxI (fun r7_ τ7 h => ?_))
  refine aw_if_eq (pc := 10) 25 dX10_tieOf_10 (by decide) (fun q => ?_) (fun q => ?_)
  · have h := h.1 q
    refine aw_iconst (pc := 25) (-1) dX10_tieOf_25 (by decide) ?_
    exact aw_iret (pc := 26) rfl dX10_tieOf_26 ⟨_, rfl, h⟩
  · have h := h.2 q
    refine aw_iload_n (pc := 13) 2 dX10_tieOf_13 rfl ?_
    refine aw_i2l (pc := 14) dX10_tieOf_14 ?_
    refine aw_lconst (pc := 15) 0 dX10_tieOf_15 (by decide) ?_
    refine aw_ldc2 (pc := 16) 9 dX10_tieOf_16 lclX10_418 ?_
    refine aw_callS (pc := 19) (As := [.long (Int32.toInt64 x2), .long 0, .long 9]) (rest := []) (ev_X10_within l (Int32.toInt64 x2) 0 9 h) mfX10_within dX10_tieOf_19 lmX10_94 ⟨Nat.le_refl _, Nat.le_refl _⟩ (by decide) rfl rfl (Nat.le_of_ble_eq_true rfl) (nxI (fun r19_ τ19 h => ?_))
    refine aw_if_ne (pc := 22) 27 dX10_tieOf_22 (by decide) (fun q => ?_) (fun q => ?_)
    · have h := h.2 q
      refine aw_iload_n (pc := 27) 2 dX10_tieOf_27 rfl ?_
      refine aw_iconst (pc := 28) 5 dX10_tieOf_28 (by decide) ?_
      refine aw_icmp_ge (pc := 29) 39 dX10_tieOf_29 (by decide) (fun q => ?_) (fun q => ?_)
      · have h := h.1 q
        refine aw_iload_n (pc := 39) 2 dX10_tieOf_39 rfl ?_
        refine aw_iconst (pc := 40) 5 dX10_tieOf_40 (by decide) ?_
        refine aw_icmp_ne (pc := 41) 63 dX10_tieOf_41 (by decide) (fun q => ?_) (fun q => ?_)
        · have h := h.2 q
          refine aw_iload_n (pc := 63) 2 dX10_tieOf_63 rfl ?_
          refine aw_bipush (pc := 64) 6 dX10_tieOf_64 (by decide) ?_
          refine aw_icmp_le (pc := 66) 85 dX10_tieOf_66 (by decide) (fun q => ?_) (fun q => ?_)
          · have h := h.1 q
            refine aw_iconst (pc := 85) 0 dX10_tieOf_85 (by decide) ?_
            refine aw_istore_n (pc := 86) (i := 3) [(3, .int 0), (0, .ref 233), (1, .int x1), (2, .int x2)] dX10_tieOf_86 rfl (by decide) rfl ?_
            refine aw_iconst (pc := 87) 0 dX10_tieOf_87 (by decide) ?_
            refine aw_istore (pc := 88) [(4, .int 0), (3, .int 0), (0, .ref 233), (1, .int x1), (2, .int x2)] dX10_tieOf_88 (by decide) rfl ?_
            refine aw_sub (L' := [(0, .ref 233), (1, .int x1), (3, .int 0), (4, .int 0)]) [2, 3, 1, 0] rfl ?_
            obtain ⟨nf, h⟩ := h
            exact bt_X10_tieOf_90 l x1 x2   nf 0 0  _ h
          · have h := h.2 q
            refine aw_aload_n (pc := 69) 0 dX10_tieOf_69 rfl ?_
            refine aw_iload_n (pc := 70) 1 dX10_tieOf_70 rfl ?_
            refine aw_aload_n (pc := 71) 0 dX10_tieOf_71 rfl ?_
            refine aw_iload_n (pc := 72) 1 dX10_tieOf_72 rfl ?_
            refine aw_iconst (pc := 73) 0 dX10_tieOf_73 (by decide) ?_
            refine aw_callV (pc := 74) (As := [.int x1, .int 0]) (rest := [.int x1, .ref 233]) kcX10 nn_233 ki_233 rfl (ev_X10_ofTie l x1 0 h) mfX10_ofTie dX10_tieOf_74 lmX10_252 ⟨Nat.le_refl _, Nat.le_refl _⟩ (by decide) rfl rfl (Nat.le_of_ble_eq_true rfl) (nxI (fun r74_ τ74 h => ?_))
            refine aw_iload_n (pc := 77) 2 dX10_tieOf_77 rfl ?_
            refine aw_bipush (pc := 78) 7 dX10_tieOf_78 (by decide) ?_
            refine aw_isub (pc := 80) dX10_tieOf_80 ?_
            refine aw_callV (pc := 81) (As := [.int x1, .int r74_, .int (x2 - 7)]) (rest := []) kcX10 nn_233 ki_233 rfl (ev_X10_hadBy l x1 r74_ (x2 - 7) h) mfX10_hadBy dX10_tieOf_81 lmX10_420 ⟨Nat.le_refl _, Nat.le_refl _⟩ (by decide) rfl rfl (Nat.le_of_ble_eq_true rfl) (nxI (fun r81_ τ81 h => ?_))
            exact aw_iret (pc := 84) rfl dX10_tieOf_84 ⟨_, rfl, h⟩
        · have h := h.1 q
          refine aw_aload_n (pc := 44) 0 dX10_tieOf_44 rfl ?_
          refine aw_iload_n (pc := 45) 1 dX10_tieOf_45 rfl ?_
          refine aw_callV (pc := 46) (As := [.int x1]) (rest := []) kcX10 nn_233 ki_233 rfl (ev_X10_isDecided l x1 h) mfX10_isDecided dX10_tieOf_46 lmX10_261 ⟨Nat.le_refl _, Nat.le_refl _⟩ (by decide) rfl rfl (Nat.le_of_ble_eq_true rfl) (nxI (fun r46_ τ46 h => ?_))
          refine aw_if_eq (pc := 49) 60 dX10_tieOf_49 (by decide) (fun q => ?_) (fun q => ?_)
          · have h := h.1 q
            refine aw_bipush (pc := 60) (-2) dX10_tieOf_60 (by decide) ?_
            exact aw_iret (pc := 62) rfl dX10_tieOf_62 ⟨_, rfl, h⟩
          · have h := h.2 q
            refine aw_aload_n (pc := 52) 0 dX10_tieOf_52 rfl ?_
            refine aw_iload_n (pc := 53) 1 dX10_tieOf_53 rfl ?_
            refine aw_callV (pc := 54) (As := [.int x1]) (rest := []) kcX10 nn_233 ki_233 rfl (ev_X10_winner l x1 h) mfX10_winner dX10_tieOf_54 lmX10_268 ⟨Nat.le_refl _, Nat.le_refl _⟩ (by decide) rfl rfl (Nat.le_of_ble_eq_true rfl) (nxI (fun r54_ τ54 h => ?_))
            refine aw_goto (pc := 57) 62 dX10_tieOf_57 (by decide) ?_
            exact aw_iret (pc := 62) rfl dX10_tieOf_62 ⟨_, rfl, h⟩
      · have h := h.2 q
        refine aw_aload_n (pc := 32) 0 dX10_tieOf_32 rfl ?_
        refine aw_iload_n (pc := 33) 1 dX10_tieOf_33 rfl ?_
        refine aw_iload_n (pc := 34) 2 dX10_tieOf_34 rfl ?_
        refine aw_callV (pc := 35) (As := [.int x1, .int x2]) (rest := []) kcX10 nn_233 ki_233 rfl (ev_X10_ofTie l x1 x2 h) mfX10_ofTie dX10_tieOf_35 lmX10_252 ⟨Nat.le_refl _, Nat.le_refl _⟩ (by decide) rfl rfl (Nat.le_of_ble_eq_true rfl) (nxI (fun r35_ τ35 h => ?_))
        exact aw_iret (pc := 38) rfl dX10_tieOf_38 ⟨_, rfl, h⟩
    · have h := h.1 q
      refine aw_iconst (pc := 25) (-1) dX10_tieOf_25 (by decide) ?_
      exact aw_iret (pc := 26) rfl dX10_tieOf_26 ⟨_, rfl, h⟩
def wp_X10_game (x1 : Int32) (x2 : Int32) (x3 : Int32) (σ : Sg) (K : Int32 → Sg → Prop) : Prop :=
  ∀ τ2 : Sg, τ2 = up σ 233 0 0 → (wp_X10_isTie x1 τ2 <| fun r7_ τ7 => (br (r7_ = 0) (K (-1) τ7) (wp_X10_games x1 τ7 <| fun r18_ τ18 => (wp_X10_within (Int32.toInt64 x2) 0 ((Int32.toInt64 r18_) - 1) τ18 <| fun r24_ τ24 => (br (r24_ = 0) (K (-1) τ24) (wp_X10_gateOf x1 x2 τ24 <| fun r38_ τ38 => (wp_X10_ofTie x1 0 τ38 <| fun r44_ τ44 => (wp_X10_layGame x1 x2 r38_ r44_ τ44 <| fun τ47 => (br (x3 = 0) (K (τ47 233 20) τ47) (br (x3 = 1) (K (τ47 233 18) τ47) (br (x3 = 2) (K (τ47 233 21) τ47) (br (x3 = 3) (K (τ47 233 22) τ47) (br (x3 = 4) (K (τ47 233 23) τ47) (br (x3 = 5) (K (τ47 233 24) τ47) (br (x3 = 6) (K (τ47 233 25) τ47) (br (x3 = 7) (K (τ47 233 26) τ47) (br (x3 = 8) (K (τ47 233 27) τ47) (br (x3 = 9) (wp_X10_wonOf x1 x2 τ47 <| fun r152_ τ152 => (K r152_ τ152)) (K (-1) τ47)))))))))))))))))))
set_option maxRecDepth 20000 in
set_option maxHeartbeats 2000000 in
theorem ev_X10_game (l : Launch) (x1 : Int32) (x2 : Int32) (x3 : Int32) {σ : Sg} {K : Int32 → Sg → Prop} (h : wp_X10_game x1 x2 x3 σ K) : Ev l yX10_game cX10_game 4 (some .int) 3 [.ref 233, .int x1, .int x2, .int x3] σ (qI K) := by
  refine ev_ov (by decide) (Nat.le_of_ble_eq_true rfl) ?_
  show AV l RX10 cX10_game 4 (some .int) 3 (qI K) 0 [(0, .ref 233), (1, .int x1), (2, .int x2), (3, .int x3)] [] σ
  refine aw_aload_n (pc := 0) 0 dX10_game_0 rfl ?_
  refine aw_iconst (pc := 1) 0 dX10_game_1 (by decide) ?_
  refine aw_put (pc := 2) 0 kcX10 dX10_game_2 lfX10_91 nn_233 ki_233 (by decide) rfl rfl rfl rfl ?_
  refine aw_tops (fun τ2 eτ2 => ?_)
  have h := h τ2 eτ2
  refine aw_aload_n (pc := 5) 0 dX10_game_5 rfl ?_
  refine aw_iload_n (pc := 6) 1 dX10_game_6 rfl ?_
  refine aw_callV (pc := 7) (As := [.int x1]) (rest := []) kcX10 nn_233 ki_233 rfl (ev_X10_isTie l x1 h) mfX10_isTie dX10_game_7 lmX10_294 ⟨Nat.le_refl _, Nat.le_refl _⟩ (by decide) rfl rfl (Nat.le_of_ble_eq_true rfl) (nxI (fun r7_ τ7 h => ?_))
  refine aw_if_eq (pc := 10) 30 dX10_game_10 (by decide) (fun q => ?_) (fun q => ?_)
  · have h := h.1 q
    refine aw_iconst (pc := 30) (-1) dX10_game_30 (by decide) ?_
    exact aw_iret (pc := 31) rfl dX10_game_31 ⟨_, rfl, h⟩
  · have h := h.2 q
    refine aw_iload_n (pc := 13) 2 dX10_game_13 rfl ?_
    refine aw_i2l (pc := 14) dX10_game_14 ?_
    refine aw_lconst (pc := 15) 0 dX10_game_15 (by decide) ?_
    refine aw_aload_n (pc := 16) 0 dX10_game_16 rfl ?_
    refine aw_iload_n (pc := 17) 1 dX10_game_17 rfl ?_
    refine aw_callV (pc := 18) (As := [.int x1]) (rest := [.long 0, .long (Int32.toInt64 x2)]) kcX10 nn_233 ki_233 rfl (ev_X10_games l x1 h) mfX10_games dX10_game_18 lmX10_255 ⟨Nat.le_refl _, Nat.le_refl _⟩ (by decide) rfl rfl (Nat.le_of_ble_eq_true rfl) (nxI (fun r18_ τ18 h => ?_))
    refine aw_i2l (pc := 21) dX10_game_21 ?_
    refine aw_lconst (pc := 22) 1 dX10_game_22 (by decide) ?_
    refine aw_lsub (pc := 23) dX10_game_23 ?_
    refine aw_callS (pc := 24) (As := [.long (Int32.toInt64 x2), .long 0, .long ((Int32.toInt64 r18_) - 1)]) (rest := []) (ev_X10_within l (Int32.toInt64 x2) 0 ((Int32.toInt64 r18_) - 1) h) mfX10_within dX10_game_24 lmX10_94 ⟨Nat.le_refl _, Nat.le_refl _⟩ (by decide) rfl rfl (Nat.le_of_ble_eq_true rfl) (nxI (fun r24_ τ24 h => ?_))
    refine aw_if_ne (pc := 27) 32 dX10_game_27 (by decide) (fun q => ?_) (fun q => ?_)
    · have h := h.2 q
      refine aw_aload_n (pc := 32) 0 dX10_game_32 rfl ?_
      refine aw_iload_n (pc := 33) 1 dX10_game_33 rfl ?_
      refine aw_iload_n (pc := 34) 2 dX10_game_34 rfl ?_
      refine aw_aload_n (pc := 35) 0 dX10_game_35 rfl ?_
      refine aw_iload_n (pc := 36) 1 dX10_game_36 rfl ?_
      refine aw_iload_n (pc := 37) 2 dX10_game_37 rfl ?_
      refine aw_callV (pc := 38) (As := [.int x1, .int x2]) (rest := [.int x2, .int x1, .ref 233]) kcX10 nn_233 ki_233 rfl (ev_X10_gateOf l x1 x2 h) mfX10_gateOf dX10_game_38 lmX10_362 ⟨Nat.le_refl _, Nat.le_refl _⟩ (by decide) rfl rfl (Nat.le_of_ble_eq_true rfl) (nxI (fun r38_ τ38 h => ?_))
      refine aw_aload_n (pc := 41) 0 dX10_game_41 rfl ?_
      refine aw_iload_n (pc := 42) 1 dX10_game_42 rfl ?_
      refine aw_iconst (pc := 43) 0 dX10_game_43 (by decide) ?_
      refine aw_callV (pc := 44) (As := [.int x1, .int 0]) (rest := [.int r38_, .int x2, .int x1, .ref 233]) kcX10 nn_233 ki_233 rfl (ev_X10_ofTie l x1 0 h) mfX10_ofTie dX10_game_44 lmX10_252 ⟨Nat.le_refl _, Nat.le_refl _⟩ (by decide) rfl rfl (Nat.le_of_ble_eq_true rfl) (nxI (fun r44_ τ44 h => ?_))
      refine aw_callV (pc := 47) (As := [.int x1, .int x2, .int r38_, .int r44_]) (rest := []) kcX10 nn_233 ki_233 rfl (ev_X10_layGame l x1 x2 r38_ r44_ h) mfX10_layGame dX10_game_47 lmX10_365 ⟨Nat.le_refl _, Nat.le_refl _⟩ (by decide) rfl rfl (Nat.le_of_ble_eq_true rfl) (nxV (fun τ47 h => ?_))
      refine aw_iload_n (pc := 50) 3 dX10_game_50 rfl ?_
      by_cases q0 : x3 = 0
      · have h := h.1 q0
        refine aw_tableIn (pc := 51) 104 dX10_game_51 (by rw [q0]; decide) (by rw [q0]; decide) (by rw [q0]; rfl) (by decide) ?_
        refine aw_aload_n (pc := 104) 0 dX10_game_104 rfl ?_
        refine aw_getI (pc := 105) 20 kcX10 dX10_game_105 lfX10_315 nn_233 ki_233 (by decide) rfl ?_
        exact aw_iret (pc := 108) rfl dX10_game_108 ⟨_, rfl, h⟩
      · have h := h.2 q0
        by_cases q1 : x3 = 1
        · have h := h.1 q1
          refine aw_tableIn (pc := 51) 109 dX10_game_51 (by rw [q1]; decide) (by rw [q1]; decide) (by rw [q1]; rfl) (by decide) ?_
          refine aw_aload_n (pc := 109) 0 dX10_game_109 rfl ?_
          refine aw_getI (pc := 110) 18 kcX10 dX10_game_110 lfX10_339 nn_233 ki_233 (by decide) rfl ?_
          exact aw_iret (pc := 113) rfl dX10_game_113 ⟨_, rfl, h⟩
        · have h := h.2 q1
          by_cases q2 : x3 = 2
          · have h := h.1 q2
            refine aw_tableIn (pc := 51) 114 dX10_game_51 (by rw [q2]; decide) (by rw [q2]; decide) (by rw [q2]; rfl) (by decide) ?_
            refine aw_aload_n (pc := 114) 0 dX10_game_114 rfl ?_
            refine aw_getI (pc := 115) 21 kcX10 dX10_game_115 lfX10_321 nn_233 ki_233 (by decide) rfl ?_
            exact aw_iret (pc := 118) rfl dX10_game_118 ⟨_, rfl, h⟩
          · have h := h.2 q2
            by_cases q3 : x3 = 3
            · have h := h.1 q3
              refine aw_tableIn (pc := 51) 119 dX10_game_51 (by rw [q3]; decide) (by rw [q3]; decide) (by rw [q3]; rfl) (by decide) ?_
              refine aw_aload_n (pc := 119) 0 dX10_game_119 rfl ?_
              refine aw_getI (pc := 120) 22 kcX10 dX10_game_120 lfX10_324 nn_233 ki_233 (by decide) rfl ?_
              exact aw_iret (pc := 123) rfl dX10_game_123 ⟨_, rfl, h⟩
            · have h := h.2 q3
              by_cases q4 : x3 = 4
              · have h := h.1 q4
                refine aw_tableIn (pc := 51) 124 dX10_game_51 (by rw [q4]; decide) (by rw [q4]; decide) (by rw [q4]; rfl) (by decide) ?_
                refine aw_aload_n (pc := 124) 0 dX10_game_124 rfl ?_
                refine aw_getI (pc := 125) 23 kcX10 dX10_game_125 lfX10_327 nn_233 ki_233 (by decide) rfl ?_
                exact aw_iret (pc := 128) rfl dX10_game_128 ⟨_, rfl, h⟩
              · have h := h.2 q4
                by_cases q5 : x3 = 5
                · have h := h.1 q5
                  refine aw_tableIn (pc := 51) 129 dX10_game_51 (by rw [q5]; decide) (by rw [q5]; decide) (by rw [q5]; rfl) (by decide) ?_
                  refine aw_aload_n (pc := 129) 0 dX10_game_129 rfl ?_
                  refine aw_getI (pc := 130) 24 kcX10 dX10_game_130 lfX10_330 nn_233 ki_233 (by decide) rfl ?_
                  exact aw_iret (pc := 133) rfl dX10_game_133 ⟨_, rfl, h⟩
                · have h := h.2 q5
                  by_cases q6 : x3 = 6
                  · have h := h.1 q6
                    refine aw_tableIn (pc := 51) 134 dX10_game_51 (by rw [q6]; decide) (by rw [q6]; decide) (by rw [q6]; rfl) (by decide) ?_
                    refine aw_aload_n (pc := 134) 0 dX10_game_134 rfl ?_
                    refine aw_getI (pc := 135) 25 kcX10 dX10_game_135 lfX10_333 nn_233 ki_233 (by decide) rfl ?_
                    exact aw_iret (pc := 138) rfl dX10_game_138 ⟨_, rfl, h⟩
                  · have h := h.2 q6
                    by_cases q7 : x3 = 7
                    · have h := h.1 q7
                      refine aw_tableIn (pc := 51) 139 dX10_game_51 (by rw [q7]; decide) (by rw [q7]; decide) (by rw [q7]; rfl) (by decide) ?_
                      refine aw_aload_n (pc := 139) 0 dX10_game_139 rfl ?_
                      refine aw_getI (pc := 140) 26 kcX10 dX10_game_140 lfX10_336 nn_233 ki_233 (by decide) rfl ?_
                      exact aw_iret (pc := 143) rfl dX10_game_143 ⟨_, rfl, h⟩
                    · have h := h.2 q7
                      by_cases q8 : x3 = 8
                      · have h := h.1 q8
                        refine aw_tableIn (pc := 51) 144 dX10_game_51 (by rw [q8]; decide) (by rw [q8]; decide) (by rw [q8]; rfl) (by decide) ?_
                        refine aw_aload_n (pc := 144) 0 dX10_game_144 rfl ?_
                        refine aw_getI (pc := 145) 27 kcX10 dX10_game_145 lfX10_356 nn_233 ki_233 (by decide) rfl ?_
                        exact aw_iret (pc := 148) rfl dX10_game_148 ⟨_, rfl, h⟩
                      · have h := h.2 q8
                        by_cases q9 : x3 = 9
                        · have h := h.1 q9
                          refine aw_tableIn (pc := 51) 149 dX10_game_51 (by rw [q9]; decide) (by rw [q9]; decide) (by rw [q9]; rfl) (by decide) ?_
                          refine aw_aload_n (pc := 149) 0 dX10_game_149 rfl ?_
                          refine aw_iload_n (pc := 150) 1 dX10_game_150 rfl ?_
                          refine aw_iload_n (pc := 151) 2 dX10_game_151 rfl ?_
                          refine aw_callV (pc := 152) (As := [.int x1, .int x2]) (rest := []) kcX10 nn_233 ki_233 rfl (ev_X10_wonOf l x1 x2 h) mfX10_wonOf dX10_game_152 lmX10_258 ⟨Nat.le_refl _, Nat.le_refl _⟩ (by decide) rfl rfl (Nat.le_of_ble_eq_true rfl) (nxI (fun r152_ τ152 h => ?_))
                          exact aw_iret (pc := 155) rfl dX10_game_155 ⟨_, rfl, h⟩
                        · have h := h.2 q9
                          have t0 := lv_neT (a := 0) q0 rfl
                          have t1 := lv_neT (a := 1) q1 rfl
                          have t2 := lv_neT (a := 2) q2 rfl
                          have t3 := lv_neT (a := 3) q3 rfl
                          have t4 := lv_neT (a := 4) q4 rfl
                          have t5 := lv_neT (a := 5) q5 rfl
                          have t6 := lv_neT (a := 6) q6 rfl
                          have t7 := lv_neT (a := 7) q7 rfl
                          have t8 := lv_neT (a := 8) q8 rfl
                          have t9 := lv_neT (a := 9) q9 rfl
                          refine aw_tableOut (pc := 51) 156 dX10_game_51 (by omega) (by decide) ?_
                          refine aw_iconst (pc := 156) (-1) dX10_game_156 (by decide) ?_
                          exact aw_iret (pc := 157) rfl dX10_game_157 ⟨_, rfl, h⟩
    · have h := h.1 q
      refine aw_iconst (pc := 30) (-1) dX10_game_30 (by decide) ?_
      exact aw_iret (pc := 31) rfl dX10_game_31 ⟨_, rfl, h⟩
def wp_X10_pool (x1 : Int32) (x2 : Int32) (x3 : Int32) (σ : Sg) (K : Int32 → Sg → Prop) : Prop :=
  ∀ τ2 : Sg, τ2 = up σ 233 0 0 → (wp_X10_isCup x1 τ2 <| fun r7_ τ7 => (br (r7_ = 0) (K (-1) τ7) (wp_X10_isRound x2 τ7 <| fun r14_ τ14 => (br (r14_ = 0) (K (-1) τ14) (wp_X10_layAll  τ14 <| fun τ23 => (∀ v32 : Int32, v32 = (6 * x1) + x2 → (br (x3 = 0) (vp_in v32 24 ∧ (K (τ23 249 v32.toNatClampNeg) τ23)) (br (x3 = 1) (vp_in v32 24 ∧ (K (τ23 250 v32.toNatClampNeg) τ23)) (br (x3 = 2) (vp_in v32 24 ∧ (K (τ23 251 v32.toNatClampNeg) τ23)) (br (x3 = 3) (vp_in v32 24 ∧ (K (τ23 252 v32.toNatClampNeg) τ23)) (br (x3 = 4) (wp_X10_isClosed x1 x2 τ23 <| fun r111_ τ111 => (br (r111_ = 0) (K 0 τ111) (K 1 τ111))) (br (x3 = 5) (wp_X10_ofCup x1 (11 + x2) τ23 <| fun r129_ τ129 => (K r129_ τ129)) (br (x3 = 6) (wp_X10_tiesOf x1 x2 τ23 <| fun r136_ τ136 => (K r136_ τ136)) (K (-1) τ23))))))))))))))
set_option maxRecDepth 20000 in
set_option maxHeartbeats 2000000 in
theorem ev_X10_pool (l : Launch) (x1 : Int32) (x2 : Int32) (x3 : Int32) {σ : Sg} {K : Int32 → Sg → Prop} (h : wp_X10_pool x1 x2 x3 σ K) : Ev l yX10_pool cX10_pool 5 (some .int) 8 [.ref 233, .int x1, .int x2, .int x3] σ (qI K) := by
  refine ev_ov (by decide) (Nat.le_of_ble_eq_true rfl) ?_
  show AV l RX10 cX10_pool 5 (some .int) 8 (qI K) 0 [(0, .ref 233), (1, .int x1), (2, .int x2), (3, .int x3)] [] σ
  refine aw_aload_n (pc := 0) 0 dX10_pool_0 rfl ?_
  refine aw_iconst (pc := 1) 0 dX10_pool_1 (by decide) ?_
  refine aw_put (pc := 2) 0 kcX10 dX10_pool_2 lfX10_91 nn_233 ki_233 (by decide) rfl rfl rfl rfl ?_
  refine aw_tops (fun τ2 eτ2 => ?_)
  have h := h τ2 eτ2
  refine aw_aload_n (pc := 5) 0 dX10_pool_5 rfl ?_
  refine aw_iload_n (pc := 6) 1 dX10_pool_6 rfl ?_
  refine aw_callV (pc := 7) (As := [.int x1]) (rest := []) kcX10 nn_233 ki_233 rfl (ev_X10_isCup l x1 h) mfX10_isCup dX10_pool_7 lmX10_278 ⟨Nat.le_refl _, Nat.le_refl _⟩ (by decide) rfl rfl (Nat.le_of_ble_eq_true rfl) (nxI (fun r7_ τ7 h => ?_))
  refine aw_if_eq (pc := 10) 20 dX10_pool_10 (by decide) (fun q => ?_) (fun q => ?_)
  · have h := h.1 q
    refine aw_iconst (pc := 20) (-1) dX10_pool_20 (by decide) ?_
    exact aw_iret (pc := 21) rfl dX10_pool_21 ⟨_, rfl, h⟩
  · have h := h.2 q
    refine aw_iload_n (pc := 13) 2 dX10_pool_13 rfl ?_
    refine aw_callS (pc := 14) (As := [.int x2]) (rest := []) (ev_X10_isRound l x2 h) mfX10_isRound dX10_pool_14 lmX10_281 ⟨Nat.le_refl _, Nat.le_refl _⟩ (by decide) rfl rfl (Nat.le_of_ble_eq_true rfl) (nxI (fun r14_ τ14 h => ?_))
    refine aw_if_ne (pc := 17) 22 dX10_pool_17 (by decide) (fun q => ?_) (fun q => ?_)
    · have h := h.2 q
      refine aw_aload_n (pc := 22) 0 dX10_pool_22 rfl ?_
      refine aw_callV (pc := 23) (As := []) (rest := []) kcX10 nn_233 ki_233 rfl (ev_X10_layAll l  h) mfX10_layAll dX10_pool_23 lmX10_310 ⟨Nat.le_refl _, Nat.le_refl _⟩ (by decide) rfl rfl (Nat.le_of_ble_eq_true rfl) (nxV (fun τ23 h => ?_))
      refine aw_bipush (pc := 26) 6 dX10_pool_26 (by decide) ?_
      refine aw_iload_n (pc := 28) 1 dX10_pool_28 rfl ?_
      refine aw_imul (pc := 29) dX10_pool_29 ?_
      refine aw_iload_n (pc := 30) 2 dX10_pool_30 rfl ?_
      refine aw_iadd (pc := 31) dX10_pool_31 ?_
      refine aw_topi (fun v32 ev32 => ?_)
      have h := h v32 ev32
      refine aw_istore (pc := 32) [(4, .int v32), (0, .ref 233), (1, .int x1), (2, .int x2), (3, .int x3)] dX10_pool_32 (by decide) rfl ?_
      refine aw_iload_n (pc := 34) 4 dX10_pool_34 rfl ?_
      by_cases q0 : x3 = 0
      · have h := h.1 q0
        refine aw_tableIn (pc := 35) 76 dX10_pool_35 (by rw [q0]; decide) (by rw [q0]; decide) (by rw [q0]; rfl) (by decide) ?_
        refine aw_aload_n (pc := 76) 1 dX10_pool_76 rfl ?_
        refine aw_getR (pc := 77) 34 kcX10 dX10_pool_77 lfX10_61 nn_233 ki_233 (by decide) rfl rf_233_34 ?_
        refine aw_iload (pc := 80) 0 dX10_pool_80 rfl ?_
        refine aw_iald (pc := 82) (j := v32.toNatClampNeg) dX10_pool_82 nn_249 ki_249 ln_249 h.1 rfl ?_
        have h := h.2
        exact aw_iret (pc := 83) rfl dX10_pool_83 ⟨_, rfl, h⟩
      · have h := h.2 q0
        by_cases q1 : x3 = 1
        · have h := h.1 q1
          refine aw_tableIn (pc := 35) 84 dX10_pool_35 (by rw [q1]; decide) (by rw [q1]; decide) (by rw [q1]; rfl) (by decide) ?_
          refine aw_aload_n (pc := 84) 1 dX10_pool_84 rfl ?_
          refine aw_getR (pc := 85) 35 kcX10 dX10_pool_85 lfX10_64 nn_233 ki_233 (by decide) rfl rf_233_35 ?_
          refine aw_iload (pc := 88) 0 dX10_pool_88 rfl ?_
          refine aw_iald (pc := 90) (j := v32.toNatClampNeg) dX10_pool_90 nn_250 ki_250 ln_250 h.1 rfl ?_
          have h := h.2
          exact aw_iret (pc := 91) rfl dX10_pool_91 ⟨_, rfl, h⟩
        · have h := h.2 q1
          by_cases q2 : x3 = 2
          · have h := h.1 q2
            refine aw_tableIn (pc := 35) 92 dX10_pool_35 (by rw [q2]; decide) (by rw [q2]; decide) (by rw [q2]; rfl) (by decide) ?_
            refine aw_aload_n (pc := 92) 1 dX10_pool_92 rfl ?_
            refine aw_getR (pc := 93) 36 kcX10 dX10_pool_93 lfX10_67 nn_233 ki_233 (by decide) rfl rf_233_36 ?_
            refine aw_iload (pc := 96) 0 dX10_pool_96 rfl ?_
            refine aw_iald (pc := 98) (j := v32.toNatClampNeg) dX10_pool_98 nn_251 ki_251 ln_251 h.1 rfl ?_
            have h := h.2
            exact aw_iret (pc := 99) rfl dX10_pool_99 ⟨_, rfl, h⟩
          · have h := h.2 q2
            by_cases q3 : x3 = 3
            · have h := h.1 q3
              refine aw_tableIn (pc := 35) 100 dX10_pool_35 (by rw [q3]; decide) (by rw [q3]; decide) (by rw [q3]; rfl) (by decide) ?_
              refine aw_aload_n (pc := 100) 1 dX10_pool_100 rfl ?_
              refine aw_getR (pc := 101) 37 kcX10 dX10_pool_101 lfX10_70 nn_233 ki_233 (by decide) rfl rf_233_37 ?_
              refine aw_iload (pc := 104) 0 dX10_pool_104 rfl ?_
              refine aw_iald (pc := 106) (j := v32.toNatClampNeg) dX10_pool_106 nn_252 ki_252 ln_252 h.1 rfl ?_
              have h := h.2
              exact aw_iret (pc := 107) rfl dX10_pool_107 ⟨_, rfl, h⟩
            · have h := h.2 q3
              by_cases q4 : x3 = 4
              · have h := h.1 q4
                refine aw_tableIn (pc := 35) 108 dX10_pool_35 (by rw [q4]; decide) (by rw [q4]; decide) (by rw [q4]; rfl) (by decide) ?_
                refine aw_aload_n (pc := 108) 1 dX10_pool_108 rfl ?_
                refine aw_iload_n (pc := 109) 2 dX10_pool_109 rfl ?_
                refine aw_iload_n (pc := 110) 3 dX10_pool_110 rfl ?_
                refine aw_callV (pc := 111) (As := [.int x1, .int x2]) (rest := []) kcX10 nn_233 ki_233 rfl (ev_X10_isClosed l x1 x2 h) mfX10_isClosed dX10_pool_111 lmX10_271 ⟨Nat.le_refl _, Nat.le_refl _⟩ (by decide) rfl rfl (Nat.le_of_ble_eq_true rfl) (nxI (fun r111_ τ111 h => ?_))
                refine aw_if_eq (pc := 114) 121 dX10_pool_114 (by decide) (fun q => ?_) (fun q => ?_)
                · have h := h.1 q
                  refine aw_iconst (pc := 121) 0 dX10_pool_121 (by decide) ?_
                  exact aw_iret (pc := 122) rfl dX10_pool_122 ⟨_, rfl, h⟩
                · have h := h.2 q
                  refine aw_iconst (pc := 117) 1 dX10_pool_117 (by decide) ?_
                  refine aw_goto (pc := 118) 122 dX10_pool_118 (by decide) ?_
                  exact aw_iret (pc := 122) rfl dX10_pool_122 ⟨_, rfl, h⟩
              · have h := h.2 q4
                by_cases q5 : x3 = 5
                · have h := h.1 q5
                  refine aw_tableIn (pc := 35) 123 dX10_pool_35 (by rw [q5]; decide) (by rw [q5]; decide) (by rw [q5]; rfl) (by decide) ?_
                  refine aw_aload_n (pc := 123) 1 dX10_pool_123 rfl ?_
                  refine aw_iload_n (pc := 124) 2 dX10_pool_124 rfl ?_
                  refine aw_bipush (pc := 125) 11 dX10_pool_125 (by decide) ?_
                  refine aw_iload_n (pc := 127) 3 dX10_pool_127 rfl ?_
                  refine aw_iadd (pc := 128) dX10_pool_128 ?_
                  refine aw_callV (pc := 129) (As := [.int x1, .int (11 + x2)]) (rest := []) kcX10 nn_233 ki_233 rfl (ev_X10_ofCup l x1 (11 + x2) h) mfX10_ofCup dX10_pool_129 lmX10_301 ⟨Nat.le_refl _, Nat.le_refl _⟩ (by decide) rfl rfl (Nat.le_of_ble_eq_true rfl) (nxI (fun r129_ τ129 h => ?_))
                  exact aw_iret (pc := 132) rfl dX10_pool_132 ⟨_, rfl, h⟩
                · have h := h.2 q5
                  by_cases q6 : x3 = 6
                  · have h := h.1 q6
                    refine aw_tableIn (pc := 35) 133 dX10_pool_35 (by rw [q6]; decide) (by rw [q6]; decide) (by rw [q6]; rfl) (by decide) ?_
                    refine aw_aload_n (pc := 133) 1 dX10_pool_133 rfl ?_
                    refine aw_iload_n (pc := 134) 2 dX10_pool_134 rfl ?_
                    refine aw_iload_n (pc := 135) 3 dX10_pool_135 rfl ?_
                    refine aw_callV (pc := 136) (As := [.int x1, .int x2]) (rest := []) kcX10 nn_233 ki_233 rfl (ev_X10_tiesOf l x1 x2 h) mfX10_tiesOf dX10_pool_136 lmX10_304 ⟨Nat.le_refl _, Nat.le_refl _⟩ (by decide) rfl rfl (Nat.le_of_ble_eq_true rfl) (nxI (fun r136_ τ136 h => ?_))
                    exact aw_iret (pc := 139) rfl dX10_pool_139 ⟨_, rfl, h⟩
                  · have h := h.2 q6
                    have t0 := lv_neT (a := 0) q0 rfl
                    have t1 := lv_neT (a := 1) q1 rfl
                    have t2 := lv_neT (a := 2) q2 rfl
                    have t3 := lv_neT (a := 3) q3 rfl
                    have t4 := lv_neT (a := 4) q4 rfl
                    have t5 := lv_neT (a := 5) q5 rfl
                    have t6 := lv_neT (a := 6) q6 rfl
                    refine aw_tableOut (pc := 35) 140 dX10_pool_35 (by omega) (by decide) ?_
                    refine aw_iconst (pc := 140) (-1) dX10_pool_140 (by decide) ?_
                    exact aw_iret (pc := 141) rfl dX10_pool_141 ⟨_, rfl, h⟩
    · have h := h.1 q
      refine aw_iconst (pc := 20) (-1) dX10_pool_20 (by decide) ?_
      exact aw_iret (pc := 21) rfl dX10_pool_21 ⟨_, rfl, h⟩
def b_X10_all_54 (x1 : Int32)  (K : Int32 → Sg → Prop) : Nat → Int32 → Int32 → Sg → Prop
  | 0, _, _, _ => False
  | n + 1, y2, y3, σ =>
  wp_X10_clubs  σ <| fun r56_ τ56 => (br (r56_ ≤ y3) (K y2 τ56) (br (x1 = 0) (vp_in y3 12 ∧ (∀ v118 : Int32, v118 = y2 + (τ56 247 y3.toNatClampNeg) → (∀ v119 : Int32, v119 = y3 + 1 → (b_X10_all_54 x1  K n v118 v119 τ56)))) (br (x1 = 1) (vp_in y3 12 ∧ (∀ v118 : Int32, v118 = y2 + (τ56 243 y3.toNatClampNeg) → (∀ v119 : Int32, v119 = y3 + 1 → (b_X10_all_54 x1  K n v118 v119 τ56)))) (br (x1 = 2) (vp_in y3 12 ∧ (vp_in y3 12 ∧ (∀ v118 : Int32, v118 = y2 + ((τ56 244 y3.toNatClampNeg) + (τ56 245 y3.toNatClampNeg)) → (∀ v119 : Int32, v119 = y3 + 1 → (b_X10_all_54 x1  K n v118 v119 τ56))))) (vp_in y3 12 ∧ (∀ v118 : Int32, v118 = y2 + (τ56 246 y3.toNatClampNeg) → (∀ v119 : Int32, v119 = y3 + 1 → (b_X10_all_54 x1  K n v118 v119 τ56))))))))
set_option maxRecDepth 20000 in
set_option maxHeartbeats 2000000 in
theorem bt_X10_all_54 (l : Launch) (x1 : Int32) {K : Int32 → Sg → Prop}   : ∀ (n : Nat) (y2 : Int32) (y3 : Int32)  (σ : Sg), b_X10_all_54 x1  K n y2 y3 σ → AV l RX10 cX10_all 4 (some .int) 8 (qI K) 54 [(0, .ref 233), (1, .int x1), (2, .int y2), (3, .int y3)] [] σ := by
  intro n
  induction n with
  | zero => intro y2 y3 σ h; exact h.elim
  | succ n ih =>
    intro y2 y3 σ h
    refine aw_iload_n (pc := 54) 3 dX10_all_54 rfl ?_
    refine aw_aload_n (pc := 55) 0 dX10_all_55 rfl ?_
    refine aw_callV (pc := 56) (As := []) (rest := [.int y3]) kcX10 nn_233 ki_233 rfl (ev_X10_clubs l  h) mfX10_clubs dX10_all_56 lmX10_384 ⟨Nat.le_refl _, Nat.le_refl _⟩ (by decide) rfl rfl (Nat.le_of_ble_eq_true rfl) (nxI (fun r56_ τ56 h => ?_))
    refine aw_icmp_ge (pc := 59) 125 dX10_all_59 (by decide) (fun q => ?_) (fun q => ?_)
    · have h := h.1 q
      refine aw_iload_n (pc := 125) 2 dX10_all_125 rfl ?_
      exact aw_iret (pc := 126) rfl dX10_all_126 ⟨_, rfl, h⟩
    · have h := h.2 q
      refine aw_iload_n (pc := 62) 2 dX10_all_62 rfl ?_
      refine aw_iload_n (pc := 63) 1 dX10_all_63 rfl ?_
      refine aw_if_ne (pc := 64) 76 dX10_all_64 (by decide) (fun q => ?_) (fun q => ?_)
      · have h := h.2 q
        refine aw_iload_n (pc := 76) 1 dX10_all_76 rfl ?_
        refine aw_iconst (pc := 77) 1 dX10_all_77 (by decide) ?_
        refine aw_icmp_ne (pc := 78) 90 dX10_all_78 (by decide) (fun q => ?_) (fun q => ?_)
        · have h := h.2 q
          refine aw_iload_n (pc := 90) 1 dX10_all_90 rfl ?_
          refine aw_iconst (pc := 91) 2 dX10_all_91 (by decide) ?_
          refine aw_icmp_ne (pc := 92) 111 dX10_all_92 (by decide) (fun q => ?_) (fun q => ?_)
          · have h := h.2 q
            refine aw_aload_n (pc := 111) 0 dX10_all_111 rfl ?_
            refine aw_getR (pc := 112) 31 kcX10 dX10_all_112 lfX10_52 nn_233 ki_233 (by decide) rfl rf_233_31 ?_
            refine aw_iload_n (pc := 115) 3 dX10_all_115 rfl ?_
            refine aw_iald (pc := 116) (j := y3.toNatClampNeg) dX10_all_116 nn_246 ki_246 ln_246 h.1 rfl ?_
            have h := h.2
            refine aw_iadd (pc := 117) dX10_all_117 ?_
            refine aw_topi (fun v118 ev118 => ?_)
            have h := h v118 ev118
            refine aw_istore_n (pc := 118) (i := 2) [(2, .int v118), (0, .ref 233), (1, .int x1), (3, .int y3)] dX10_all_118 rfl (by decide) rfl ?_
            obtain ⟨v119, ev119⟩ : ∃ v : Int32, v = y3 + 1 := ⟨_, rfl⟩
            have h := h v119 ev119
            refine aw_iinc (pc := 119) 3 v119 [(3, .int v119), (2, .int v118), (0, .ref 233), (1, .int x1)] dX10_all_119 rfl (by rw [ev119]; rfl) (by decide) rfl ?_
            refine aw_goto (pc := 122) 54 dX10_all_122 (by decide) ?_
            refine aw_sub (L' := [(0, .ref 233), (1, .int x1), (2, .int v118), (3, .int v119)]) [2, 3, 1, 0] rfl ?_
            exact ih v118 v119  _ h
          · have h := h.1 q
            refine aw_aload_n (pc := 95) 0 dX10_all_95 rfl ?_
            refine aw_getR (pc := 96) 29 kcX10 dX10_all_96 lfX10_46 nn_233 ki_233 (by decide) rfl rf_233_29 ?_
            refine aw_iload_n (pc := 99) 3 dX10_all_99 rfl ?_
            refine aw_iald (pc := 100) (j := y3.toNatClampNeg) dX10_all_100 nn_244 ki_244 ln_244 h.1 rfl ?_
            have h := h.2
            refine aw_aload_n (pc := 101) 0 dX10_all_101 rfl ?_
            refine aw_getR (pc := 102) 30 kcX10 dX10_all_102 lfX10_49 nn_233 ki_233 (by decide) rfl rf_233_30 ?_
            refine aw_iload_n (pc := 105) 3 dX10_all_105 rfl ?_
            refine aw_iald (pc := 106) (j := y3.toNatClampNeg) dX10_all_106 nn_245 ki_245 ln_245 h.1 rfl ?_
            have h := h.2
            refine aw_iadd (pc := 107) dX10_all_107 ?_
            refine aw_goto (pc := 108) 117 dX10_all_108 (by decide) ?_
            refine aw_iadd (pc := 117) dX10_all_117 ?_
            refine aw_topi (fun v118 ev118 => ?_)
            have h := h v118 ev118
            refine aw_istore_n (pc := 118) (i := 2) [(2, .int v118), (0, .ref 233), (1, .int x1), (3, .int y3)] dX10_all_118 rfl (by decide) rfl ?_
            obtain ⟨v119, ev119⟩ : ∃ v : Int32, v = y3 + 1 := ⟨_, rfl⟩
            have h := h v119 ev119
            refine aw_iinc (pc := 119) 3 v119 [(3, .int v119), (2, .int v118), (0, .ref 233), (1, .int x1)] dX10_all_119 rfl (by rw [ev119]; rfl) (by decide) rfl ?_
            refine aw_goto (pc := 122) 54 dX10_all_122 (by decide) ?_
            refine aw_sub (L' := [(0, .ref 233), (1, .int x1), (2, .int v118), (3, .int v119)]) [2, 3, 1, 0] rfl ?_
            exact ih v118 v119  _ h
        · have h := h.1 q
          refine aw_aload_n (pc := 81) 0 dX10_all_81 rfl ?_
          refine aw_getR (pc := 82) 28 kcX10 dX10_all_82 lfX10_43 nn_233 ki_233 (by decide) rfl rf_233_28 ?_
          refine aw_iload_n (pc := 85) 3 dX10_all_85 rfl ?_
          refine aw_iald (pc := 86) (j := y3.toNatClampNeg) dX10_all_86 nn_243 ki_243 ln_243 h.1 rfl ?_
          have h := h.2
          refine aw_goto (pc := 87) 117 dX10_all_87 (by decide) ?_
          refine aw_iadd (pc := 117) dX10_all_117 ?_
          refine aw_topi (fun v118 ev118 => ?_)
          have h := h v118 ev118
          refine aw_istore_n (pc := 118) (i := 2) [(2, .int v118), (0, .ref 233), (1, .int x1), (3, .int y3)] dX10_all_118 rfl (by decide) rfl ?_
          obtain ⟨v119, ev119⟩ : ∃ v : Int32, v = y3 + 1 := ⟨_, rfl⟩
          have h := h v119 ev119
          refine aw_iinc (pc := 119) 3 v119 [(3, .int v119), (2, .int v118), (0, .ref 233), (1, .int x1)] dX10_all_119 rfl (by rw [ev119]; rfl) (by decide) rfl ?_
          refine aw_goto (pc := 122) 54 dX10_all_122 (by decide) ?_
          refine aw_sub (L' := [(0, .ref 233), (1, .int x1), (2, .int v118), (3, .int v119)]) [2, 3, 1, 0] rfl ?_
          exact ih v118 v119  _ h
      · have h := h.1 q
        refine aw_aload_n (pc := 67) 0 dX10_all_67 rfl ?_
        refine aw_getR (pc := 68) 32 kcX10 dX10_all_68 lfX10_55 nn_233 ki_233 (by decide) rfl rf_233_32 ?_
        refine aw_iload_n (pc := 71) 3 dX10_all_71 rfl ?_
        refine aw_iald (pc := 72) (j := y3.toNatClampNeg) dX10_all_72 nn_247 ki_247 ln_247 h.1 rfl ?_
        have h := h.2
        refine aw_goto (pc := 73) 117 dX10_all_73 (by decide) ?_
        refine aw_iadd (pc := 117) dX10_all_117 ?_
        refine aw_topi (fun v118 ev118 => ?_)
        have h := h v118 ev118
        refine aw_istore_n (pc := 118) (i := 2) [(2, .int v118), (0, .ref 233), (1, .int x1), (3, .int y3)] dX10_all_118 rfl (by decide) rfl ?_
        obtain ⟨v119, ev119⟩ : ∃ v : Int32, v = y3 + 1 := ⟨_, rfl⟩
        have h := h v119 ev119
        refine aw_iinc (pc := 119) 3 v119 [(3, .int v119), (2, .int v118), (0, .ref 233), (1, .int x1)] dX10_all_119 rfl (by rw [ev119]; rfl) (by decide) rfl ?_
        refine aw_goto (pc := 122) 54 dX10_all_122 (by decide) ?_
        refine aw_sub (L' := [(0, .ref 233), (1, .int x1), (2, .int v118), (3, .int v119)]) [2, 3, 1, 0] rfl ?_
        exact ih v118 v119  _ h
def wp_X10_all (x1 : Int32) (σ : Sg) (K : Int32 → Sg → Prop) : Prop :=
  ∀ τ2 : Sg, τ2 = up σ 233 0 0 → (wp_X10_isTold  τ2 <| fun r6_ τ6 => (br (r6_ = 0) (K (-1) τ6) (wp_X10_within (Int32.toInt64 x1) 0 5 τ6 <| fun r18_ τ18 => (br (r18_ = 0) (K (-1) τ18) (wp_X10_layAll  τ18 <| fun τ27 => (br (x1 = 3) (K (τ27 233 40) τ27) (br (x1 = 5) (wp_X10_allKept  τ27 <| fun r46_ τ46 => (K r46_ τ46)) (∃ nf, b_X10_all_54 x1  K nf 0 0 τ27))))))))
set_option maxRecDepth 20000 in
set_option maxHeartbeats 2000000 in
theorem ev_X10_all (l : Launch) (x1 : Int32) {σ : Sg} {K : Int32 → Sg → Prop} (h : wp_X10_all x1 σ K) : Ev l yX10_all cX10_all 4 (some .int) 8 [.ref 233, .int x1] σ (qI K) := by
  refine ev_ov (by decide) (Nat.le_of_ble_eq_true rfl) ?_
  show AV l RX10 cX10_all 4 (some .int) 8 (qI K) 0 [(0, .ref 233), (1, .int x1)] [] σ
  refine aw_aload_n (pc := 0) 0 dX10_all_0 rfl ?_
  refine aw_iconst (pc := 1) 0 dX10_all_1 (by decide) ?_
  refine aw_put (pc := 2) 0 kcX10 dX10_all_2 lfX10_91 nn_233 ki_233 (by decide) rfl rfl rfl rfl ?_
  refine aw_tops (fun τ2 eτ2 => ?_)
  have h := h τ2 eτ2
  refine aw_aload_n (pc := 5) 0 dX10_all_5 rfl ?_
  refine aw_callV (pc := 6) (As := []) (rest := []) kcX10 nn_233 ki_233 rfl (ev_X10_isTold l  h) mfX10_isTold dX10_all_6 lmX10_232 ⟨Nat.le_refl _, Nat.le_refl _⟩ (by decide) rfl rfl (Nat.le_of_ble_eq_true rfl) (nxI (fun r6_ τ6 h => ?_))
  refine aw_if_eq (pc := 9) 24 dX10_all_9 (by decide) (fun q => ?_) (fun q => ?_)
  · have h := h.1 q
    refine aw_iconst (pc := 24) (-1) dX10_all_24 (by decide) ?_
    exact aw_iret (pc := 25) rfl dX10_all_25 ⟨_, rfl, h⟩
  · have h := h.2 q
    refine aw_iload_n (pc := 12) 1 dX10_all_12 rfl ?_
    refine aw_i2l (pc := 13) dX10_all_13 ?_
    refine aw_lconst (pc := 14) 0 dX10_all_14 (by decide) ?_
    refine aw_ldc2 (pc := 15) 5 dX10_all_15 lclX10_98 ?_
    refine aw_callS (pc := 18) (As := [.long (Int32.toInt64 x1), .long 0, .long 5]) (rest := []) (ev_X10_within l (Int32.toInt64 x1) 0 5 h) mfX10_within dX10_all_18 lmX10_94 ⟨Nat.le_refl _, Nat.le_refl _⟩ (by decide) rfl rfl (Nat.le_of_ble_eq_true rfl) (nxI (fun r18_ τ18 h => ?_))
    refine aw_if_ne (pc := 21) 26 dX10_all_21 (by decide) (fun q => ?_) (fun q => ?_)
    · have h := h.2 q
      refine aw_aload_n (pc := 26) 0 dX10_all_26 rfl ?_
      refine aw_callV (pc := 27) (As := []) (rest := []) kcX10 nn_233 ki_233 rfl (ev_X10_layAll l  h) mfX10_layAll dX10_all_27 lmX10_310 ⟨Nat.le_refl _, Nat.le_refl _⟩ (by decide) rfl rfl (Nat.le_of_ble_eq_true rfl) (nxV (fun τ27 h => ?_))
      refine aw_iload_n (pc := 30) 1 dX10_all_30 rfl ?_
      refine aw_iconst (pc := 31) 3 dX10_all_31 (by decide) ?_
      refine aw_icmp_ne (pc := 32) 40 dX10_all_32 (by decide) (fun q => ?_) (fun q => ?_)
      · have h := h.2 q
        refine aw_iload_n (pc := 40) 1 dX10_all_40 rfl ?_
        refine aw_iconst (pc := 41) 5 dX10_all_41 (by decide) ?_
        refine aw_icmp_ne (pc := 42) 50 dX10_all_42 (by decide) (fun q => ?_) (fun q => ?_)
        · have h := h.2 q
          refine aw_iconst (pc := 50) 0 dX10_all_50 (by decide) ?_
          refine aw_istore_n (pc := 51) (i := 2) [(2, .int 0), (0, .ref 233), (1, .int x1)] dX10_all_51 rfl (by decide) rfl ?_
          refine aw_iconst (pc := 52) 0 dX10_all_52 (by decide) ?_
          refine aw_istore_n (pc := 53) (i := 3) [(3, .int 0), (2, .int 0), (0, .ref 233), (1, .int x1)] dX10_all_53 rfl (by decide) rfl ?_
          refine aw_sub (L' := [(0, .ref 233), (1, .int x1), (2, .int 0), (3, .int 0)]) [2, 3, 1, 0] rfl ?_
          obtain ⟨nf, h⟩ := h
          exact bt_X10_all_54 l x1   nf 0 0  _ h
        · have h := h.1 q
          refine aw_aload_n (pc := 45) 0 dX10_all_45 rfl ?_
          refine aw_callV (pc := 46) (As := []) (rest := []) kcX10 nn_233 ki_233 rfl (ev_X10_allKept l  h) mfX10_allKept dX10_all_46 lmX10_381 ⟨Nat.le_refl _, Nat.le_refl _⟩ (by decide) rfl rfl (Nat.le_of_ble_eq_true rfl) (nxI (fun r46_ τ46 h => ?_))
          exact aw_iret (pc := 49) rfl dX10_all_49 ⟨_, rfl, h⟩
      · have h := h.1 q
        refine aw_aload_n (pc := 35) 0 dX10_all_35 rfl ?_
        refine aw_getI (pc := 36) 40 kcX10 dX10_all_36 lfX10_359 nn_233 ki_233 (by decide) rfl ?_
        exact aw_iret (pc := 39) rfl dX10_all_39 ⟨_, rfl, h⟩
    · have h := h.1 q
      refine aw_iconst (pc := 24) (-1) dX10_all_24 (by decide) ?_
      exact aw_iret (pc := 25) rfl dX10_all_25 ⟨_, rfl, h⟩
def b_X10_layBalances_11   (K : Sg → Prop) : Nat → Int32 → Int32 → Sg → Prop
  | 0, _, _, _ => False
  | n + 1, y1, y2, σ =>
  wp_X10_clubs  σ <| fun r13_ τ13 => (br (r13_ ≤ y2) (wp_X10_clubs  τ13 <| fun r57_ τ57 => (vp_in r57_ 13 ∧ (∀ τ61 : Sg, τ61 = up τ57 255 r57_.toNatClampNeg y1 → (K τ61)))) (wp_X10_has y2 τ13 <| fun r26_ τ26 => (vp_in y2 12 ∧ (vp_in y2 13 ∧ (∀ τ36 : Sg, τ36 = up τ26 255 y2.toNatClampNeg (r26_ - (τ26 247 y2.toNatClampNeg)) → (vp_in y2 12 ∧ (∀ v45 : Int32, v45 = y1 - (τ36 246 y2.toNatClampNeg) → (∀ v46 : Int32, v46 = y2 + 1 → (b_X10_layBalances_11   K n v45 v46 τ36)))))))))
set_option maxRecDepth 20000 in
set_option maxHeartbeats 2000000 in
theorem bt_X10_layBalances_11 (l : Launch)  {K : Sg → Prop}   : ∀ (n : Nat) (y1 : Int32) (y2 : Int32)  (σ : Sg), b_X10_layBalances_11   K n y1 y2 σ → AV l RX10 cX10_layBalances 3 none 8 (qV K) 11 [(0, .ref 233), (1, .int y1), (2, .int y2)] [] σ := by
  intro n
  induction n with
  | zero => intro y1 y2 σ h; exact h.elim
  | succ n ih =>
    intro y1 y2 σ h
    refine aw_iload_n (pc := 11) 2 dX10_layBalances_11 rfl ?_
    refine aw_aload_n (pc := 12) 0 dX10_layBalances_12 rfl ?_
    refine aw_callV (pc := 13) (As := []) (rest := [.int y2]) kcX10 nn_233 ki_233 rfl (ev_X10_clubs l  h) mfX10_clubs dX10_layBalances_13 lmX10_384 ⟨Nat.le_refl _, Nat.le_refl _⟩ (by decide) rfl rfl (Nat.le_of_ble_eq_true rfl) (nxI (fun r13_ τ13 h => ?_))
    refine aw_icmp_ge (pc := 16) 52 dX10_layBalances_16 (by decide) (fun q => ?_) (fun q => ?_)
    · have h := h.1 q
      refine aw_aload_n (pc := 52) 0 dX10_layBalances_52 rfl ?_
      refine aw_getR (pc := 53) 41 kcX10 dX10_layBalances_53 lfX10_79 nn_233 ki_233 (by decide) rfl rf_233_41 ?_
      refine aw_aload_n (pc := 56) 0 dX10_layBalances_56 rfl ?_
      refine aw_callV (pc := 57) (As := []) (rest := [.ref 255]) kcX10 nn_233 ki_233 rfl (ev_X10_clubs l  h) mfX10_clubs dX10_layBalances_57 lmX10_384 ⟨Nat.le_refl _, Nat.le_refl _⟩ (by decide) rfl rfl (Nat.le_of_ble_eq_true rfl) (nxI (fun r57_ τ57 h => ?_))
      refine aw_iload_n (pc := 60) 1 dX10_layBalances_60 rfl ?_
      refine aw_iast (pc := 61) (j := r57_.toNatClampNeg) (v := y1) dX10_layBalances_61 nn_255 ki_255 ln_255 h.1 rfl rfl ?_
      have h := h.2
      refine aw_tops (fun τ61 eτ61 => ?_)
      have h := h τ61 eτ61
      exact aw_vret (pc := 62) rfl dX10_layBalances_62 ⟨rfl, h⟩
    · have h := h.2 q
      refine aw_aload_n (pc := 19) 0 dX10_layBalances_19 rfl ?_
      refine aw_getR (pc := 20) 41 kcX10 dX10_layBalances_20 lfX10_79 nn_233 ki_233 (by decide) rfl rf_233_41 ?_
      refine aw_iload_n (pc := 23) 2 dX10_layBalances_23 rfl ?_
      refine aw_aload_n (pc := 24) 0 dX10_layBalances_24 rfl ?_
      refine aw_iload_n (pc := 25) 2 dX10_layBalances_25 rfl ?_
      refine aw_callV (pc := 26) (As := [.int y2]) (rest := [.int y2, .ref 255]) kcX10 nn_233 ki_233 rfl (ev_X10_has l y2 h) mfX10_has dX10_layBalances_26 lmX10_378 ⟨Nat.le_refl _, Nat.le_refl _⟩ (by decide) rfl rfl (Nat.le_of_ble_eq_true rfl) (nxI (fun r26_ τ26 h => ?_))
      refine aw_aload_n (pc := 29) 0 dX10_layBalances_29 rfl ?_
      refine aw_getR (pc := 30) 32 kcX10 dX10_layBalances_30 lfX10_55 nn_233 ki_233 (by decide) rfl rf_233_32 ?_
      refine aw_iload_n (pc := 33) 2 dX10_layBalances_33 rfl ?_
      refine aw_iald (pc := 34) (j := y2.toNatClampNeg) dX10_layBalances_34 nn_247 ki_247 ln_247 h.1 rfl ?_
      have h := h.2
      refine aw_isub (pc := 35) dX10_layBalances_35 ?_
      refine aw_iast (pc := 36) (j := y2.toNatClampNeg) (v := (r26_ - (τ26 247 y2.toNatClampNeg))) dX10_layBalances_36 nn_255 ki_255 ln_255 h.1 rfl rfl ?_
      have h := h.2
      refine aw_tops (fun τ36 eτ36 => ?_)
      have h := h τ36 eτ36
      refine aw_iload_n (pc := 37) 1 dX10_layBalances_37 rfl ?_
      refine aw_aload_n (pc := 38) 0 dX10_layBalances_38 rfl ?_
      refine aw_getR (pc := 39) 31 kcX10 dX10_layBalances_39 lfX10_52 nn_233 ki_233 (by decide) rfl rf_233_31 ?_
      refine aw_iload_n (pc := 42) 2 dX10_layBalances_42 rfl ?_
      refine aw_iald (pc := 43) (j := y2.toNatClampNeg) dX10_layBalances_43 nn_246 ki_246 ln_246 h.1 rfl ?_
      have h := h.2
      refine aw_isub (pc := 44) dX10_layBalances_44 ?_
      refine aw_topi (fun v45 ev45 => ?_)
      have h := h v45 ev45
      refine aw_istore_n (pc := 45) (i := 1) [(1, .int v45), (0, .ref 233), (2, .int y2)] dX10_layBalances_45 rfl (by decide) rfl ?_
      obtain ⟨v46, ev46⟩ : ∃ v : Int32, v = y2 + 1 := ⟨_, rfl⟩
      have h := h v46 ev46
      refine aw_iinc (pc := 46) 2 v46 [(2, .int v46), (1, .int v45), (0, .ref 233)] dX10_layBalances_46 rfl (by rw [ev46]; rfl) (by decide) rfl ?_
      refine aw_goto (pc := 49) 11 dX10_layBalances_49 (by decide) ?_
      refine aw_sub (L' := [(0, .ref 233), (1, .int v45), (2, .int v46)]) [2, 1, 0] rfl ?_
      exact ih v45 v46  _ h
def wp_X10_layBalances  (σ : Sg) (K : Sg → Prop) : Prop :=
  wp_X10_layAll  σ <| fun τ1 => (∀ v8 : Int32, v8 = τ1 233 40 → (∃ nf, b_X10_layBalances_11   K nf v8 0 τ1))
set_option maxRecDepth 20000 in
set_option maxHeartbeats 2000000 in
theorem ev_X10_layBalances (l : Launch)  {σ : Sg} {K : Sg → Prop} (h : wp_X10_layBalances  σ K) : Ev l yX10_layBalances cX10_layBalances 3 none 8 [.ref 233] σ (qV K) := by
  refine ev_ov (by decide) (Nat.le_of_ble_eq_true rfl) ?_
  show AV l RX10 cX10_layBalances 3 none 8 (qV K) 0 [(0, .ref 233)] [] σ
  refine aw_aload_n (pc := 0) 0 dX10_layBalances_0 rfl ?_
  refine aw_callV (pc := 1) (As := []) (rest := []) kcX10 nn_233 ki_233 rfl (ev_X10_layAll l  h) mfX10_layAll dX10_layBalances_1 lmX10_310 ⟨Nat.le_refl _, Nat.le_refl _⟩ (by decide) rfl rfl (Nat.le_of_ble_eq_true rfl) (nxV (fun τ1 h => ?_))
  refine aw_aload_n (pc := 4) 0 dX10_layBalances_4 rfl ?_
  refine aw_getI (pc := 5) 40 kcX10 dX10_layBalances_5 lfX10_359 nn_233 ki_233 (by decide) rfl ?_
  refine aw_topi (fun v8 ev8 => ?_)
  have h := h v8 ev8
  refine aw_istore_n (pc := 8) (i := 1) [(1, .int v8), (0, .ref 233)] dX10_layBalances_8 rfl (by decide) rfl ?_
  refine aw_iconst (pc := 9) 0 dX10_layBalances_9 (by decide) ?_
  refine aw_istore_n (pc := 10) (i := 2) [(2, .int 0), (1, .int v8), (0, .ref 233)] dX10_layBalances_10 rfl (by decide) rfl ?_
  refine aw_sub (L' := [(0, .ref 233), (1, .int v8), (2, .int 0)]) [2, 1, 0] rfl ?_
  obtain ⟨nf, h⟩ := h
  exact bt_X10_layBalances_11 l    nf v8 0  _ h
def wp_X10_balance (x1 : Int32) (σ : Sg) (K : Int32 → Sg → Prop) : Prop :=
  ∀ τ2 : Sg, τ2 = up σ 233 0 0 → (wp_X10_isTold  τ2 <| fun r6_ τ6 => (br (r6_ = 0) (K (-2147483648) τ6) (wp_X10_clubs  τ6 <| fun r16_ τ16 => (wp_X10_within (Int32.toInt64 x1) 0 (Int32.toInt64 r16_) τ16 <| fun r20_ τ20 => (br (r20_ = 0) (K (-2147483648) τ20) (wp_X10_layBalances  τ20 <| fun τ31 => (vp_in x1 13 ∧ (K (τ31 255 x1.toNatClampNeg) τ31))))))))
set_option maxRecDepth 20000 in
set_option maxHeartbeats 2000000 in
theorem ev_X10_balance (l : Launch) (x1 : Int32) {σ : Sg} {K : Int32 → Sg → Prop} (h : wp_X10_balance x1 σ K) : Ev l yX10_balance cX10_balance 2 (some .int) 9 [.ref 233, .int x1] σ (qI K) := by
  refine ev_ov (by decide) (Nat.le_of_ble_eq_true rfl) ?_
  show AV l RX10 cX10_balance 2 (some .int) 9 (qI K) 0 [(0, .ref 233), (1, .int x1)] [] σ
  refine aw_aload_n (pc := 0) 0 dX10_balance_0 rfl ?_
  refine aw_iconst (pc := 1) 0 dX10_balance_1 (by decide) ?_
  refine aw_put (pc := 2) 0 kcX10 dX10_balance_2 lfX10_91 nn_233 ki_233 (by decide) rfl rfl rfl rfl ?_
  refine aw_tops (fun τ2 eτ2 => ?_)
  have h := h τ2 eτ2
  refine aw_aload_n (pc := 5) 0 dX10_balance_5 rfl ?_
  refine aw_callV (pc := 6) (As := []) (rest := []) kcX10 nn_233 ki_233 rfl (ev_X10_isTold l  h) mfX10_isTold dX10_balance_6 lmX10_232 ⟨Nat.le_refl _, Nat.le_refl _⟩ (by decide) rfl rfl (Nat.le_of_ble_eq_true rfl) (nxI (fun r6_ τ6 h => ?_))
  refine aw_if_eq (pc := 9) 26 dX10_balance_9 (by decide) (fun q => ?_) (fun q => ?_)
  · have h := h.1 q
    refine aw_ldcw (pc := 26) (-2147483648) dX10_balance_26 lcX10_425 ?_
    exact aw_iret (pc := 29) rfl dX10_balance_29 ⟨_, rfl, h⟩
  · have h := h.2 q
    refine aw_iload_n (pc := 12) 1 dX10_balance_12 rfl ?_
    refine aw_i2l (pc := 13) dX10_balance_13 ?_
    refine aw_lconst (pc := 14) 0 dX10_balance_14 (by decide) ?_
    refine aw_aload_n (pc := 15) 0 dX10_balance_15 rfl ?_
    refine aw_callV (pc := 16) (As := []) (rest := [.long 0, .long (Int32.toInt64 x1)]) kcX10 nn_233 ki_233 rfl (ev_X10_clubs l  h) mfX10_clubs dX10_balance_16 lmX10_384 ⟨Nat.le_refl _, Nat.le_refl _⟩ (by decide) rfl rfl (Nat.le_of_ble_eq_true rfl) (nxI (fun r16_ τ16 h => ?_))
    refine aw_i2l (pc := 19) dX10_balance_19 ?_
    refine aw_callS (pc := 20) (As := [.long (Int32.toInt64 x1), .long 0, .long (Int32.toInt64 r16_)]) (rest := []) (ev_X10_within l (Int32.toInt64 x1) 0 (Int32.toInt64 r16_) h) mfX10_within dX10_balance_20 lmX10_94 ⟨Nat.le_refl _, Nat.le_refl _⟩ (by decide) rfl rfl (Nat.le_of_ble_eq_true rfl) (nxI (fun r20_ τ20 h => ?_))
    refine aw_if_ne (pc := 23) 30 dX10_balance_23 (by decide) (fun q => ?_) (fun q => ?_)
    · have h := h.2 q
      refine aw_aload_n (pc := 30) 0 dX10_balance_30 rfl ?_
      refine aw_callV (pc := 31) (As := []) (rest := []) kcX10 nn_233 ki_233 rfl (ev_X10_layBalances l  h) mfX10_layBalances dX10_balance_31 lmX10_426 ⟨Nat.le_refl _, Nat.le_refl _⟩ (by decide) rfl rfl (Nat.le_of_ble_eq_true rfl) (nxV (fun τ31 h => ?_))
      refine aw_aload_n (pc := 34) 0 dX10_balance_34 rfl ?_
      refine aw_getR (pc := 35) 41 kcX10 dX10_balance_35 lfX10_79 nn_233 ki_233 (by decide) rfl rf_233_41 ?_
      refine aw_iload_n (pc := 38) 1 dX10_balance_38 rfl ?_
      refine aw_iald (pc := 39) (j := x1.toNatClampNeg) dX10_balance_39 nn_255 ki_255 ln_255 h.1 rfl ?_
      have h := h.2
      exact aw_iret (pc := 40) rfl dX10_balance_40 ⟨_, rfl, h⟩
    · have h := h.1 q
      refine aw_ldcw (pc := 26) (-2147483648) dX10_balance_26 lcX10_425 ?_
      exact aw_iret (pc := 29) rfl dX10_balance_29 ⟨_, rfl, h⟩
def b_X10_fewest_201 (x1 : Int32) (B86 : Int32 → Int32 → Sg → Prop) (K : Int32 → Sg → Prop) (y2 : Int32) (y3 : Int32) (z0 : Int32) (z1 : Int32) (z2 : Int32) (σ : Sg) : Prop :=
  vp_in z2 8192 ∧ (∀ τ202 : Sg, τ202 = up σ 258 z2.toNatClampNeg (z1 + z0) → (∀ v203 : Int32, v203 = y3 + 1 → (B86 y2 v203 τ202)))
set_option maxRecDepth 20000 in
set_option maxHeartbeats 2000000 in
theorem bt_X10_fewest_201 (l : Launch) (x1 : Int32) {K : Int32 → Sg → Prop} (B86 : Int32 → Int32 → Sg → Prop) (hB86 : ∀ (y2 : Int32) (y3 : Int32)  (τ : Sg), B86 y2 y3 τ → AV l RX10 cX10_fewest 6 (some .int) 9 (qI K) 86 [(0, .ref 233), (1, .int x1), (2, .int y2), (3, .int y3)] [] τ) (y2 : Int32) (y3 : Int32) (z0 : Int32) (z1 : Int32) (z2 : Int32)  (σ : Sg) (h : b_X10_fewest_201 x1 B86 K y2 y3 z0 z1 z2 σ) : AV l RX10 cX10_fewest 6 (some .int) 9 (qI K) 201 [(0, .ref 233), (1, .int x1), (2, .int y2), (3, .int y3)] [.int z0, .int z1, .int z2, .ref 258] σ := by
  refine aw_iadd (pc := 201) dX10_fewest_201 ?_
  refine aw_iast (pc := 202) (j := z2.toNatClampNeg) (v := (z1 + z0)) dX10_fewest_202 nn_258 ki_258 ln_258 h.1 rfl rfl ?_
  have h := h.2
  refine aw_tops (fun τ202 eτ202 => ?_)
  have h := h τ202 eτ202
  obtain ⟨v203, ev203⟩ : ∃ v : Int32, v = y3 + 1 := ⟨_, rfl⟩
  have h := h v203 ev203
  refine aw_iinc (pc := 203) 3 v203 [(3, .int v203), (0, .ref 233), (1, .int x1), (2, .int y2)] dX10_fewest_203 rfl (by rw [ev203]; rfl) (by decide) rfl ?_
  refine aw_goto (pc := 206) 86 dX10_fewest_206 (by decide) ?_
  refine aw_sub (L' := [(0, .ref 233), (1, .int x1), (2, .int y2), (3, .int v203)]) [1, 2, 3, 0] rfl ?_
  exact hB86 y2 v203  _ h
def b_X10_fewest_99 (x1 : Int32) (B86 : Int32 → Int32 → Sg → Prop) (K : Int32 → Sg → Prop) : Nat → Int32 → Int32 → Int32 → Int32 → Sg → Prop
  | 0, _, _, _, _, _ => False
  | n + 1, y2, y3, y4, y5, σ =>
  br (y2 ≤ y5) (vp_in y3 8192 ∧ (br ((σ 257 y3.toNatClampNeg) = 0) (b_X10_fewest_201 x1 B86 K y2 y3 1 y4 y3 σ) (b_X10_fewest_201 x1 B86 K y2 y3 0 y4 y3 σ))) (br (((y3 >>> (y5 &&& 31)) &&& 1) = 1) (vp_in (y3 ^^^ (1 <<< (y5 &&& 31))) 8192 ∧ (vp_in y5 13 ∧ (vp_in y3 8192 ∧ (∀ τ139 : Sg, τ139 = up σ 257 y3.toNatClampNeg ((σ 257 (y3 ^^^ (1 <<< (y5 &&& 31))).toNatClampNeg) + (σ 256 y5.toNatClampNeg)) → (vp_in (y3 ^^^ (1 <<< (y5 &&& 31))) 8192 ∧ (br ((τ139 258 (y3 ^^^ (1 <<< (y5 &&& 31))).toNatClampNeg) ≤ y4) (∀ v174 : Int32, v174 = y5 + 1 → (b_X10_fewest_99 x1 B86 K n y2 y3 y4 v174 τ139)) (vp_in (y3 ^^^ (1 <<< (y5 &&& 31))) 8192 ∧ (∀ v172 : Int32, v172 = τ139 258 (y3 ^^^ (1 <<< (y5 &&& 31))).toNatClampNeg → (∀ v174 : Int32, v174 = y5 + 1 → (b_X10_fewest_99 x1 B86 K n y2 y3 v172 v174 τ139)))))))))) (∀ v174 : Int32, v174 = y5 + 1 → (b_X10_fewest_99 x1 B86 K n y2 y3 y4 v174 σ)))
set_option maxRecDepth 20000 in
set_option maxHeartbeats 2000000 in
theorem bt_X10_fewest_99 (l : Launch) (x1 : Int32) {K : Int32 → Sg → Prop} (B86 : Int32 → Int32 → Sg → Prop) (hB86 : ∀ (y2 : Int32) (y3 : Int32)  (τ : Sg), B86 y2 y3 τ → AV l RX10 cX10_fewest 6 (some .int) 9 (qI K) 86 [(0, .ref 233), (1, .int x1), (2, .int y2), (3, .int y3)] [] τ) : ∀ (n : Nat) (y2 : Int32) (y3 : Int32) (y4 : Int32) (y5 : Int32)  (σ : Sg), b_X10_fewest_99 x1 B86 K n y2 y3 y4 y5 σ → AV l RX10 cX10_fewest 6 (some .int) 9 (qI K) 99 [(0, .ref 233), (1, .int x1), (2, .int y2), (3, .int y3), (4, .int y4), (5, .int y5)] [] σ := by
  intro n
  induction n with
  | zero => intro y2 y3 y4 y5 σ h; exact h.elim
  | succ n ih =>
    intro y2 y3 y4 y5 σ h
    refine aw_iload (pc := 99) 5 dX10_fewest_99 rfl ?_
    refine aw_iload_n (pc := 101) 2 dX10_fewest_101 rfl ?_
    refine aw_icmp_ge (pc := 102) 180 dX10_fewest_102 (by decide) (fun q => ?_) (fun q => ?_)
    · have h := h.1 q
      refine aw_aload_n (pc := 180) 0 dX10_fewest_180 rfl ?_
      refine aw_getR (pc := 181) 44 kcX10 dX10_fewest_181 lfX10_88 nn_233 ki_233 (by decide) rfl rf_233_44 ?_
      refine aw_iload_n (pc := 184) 3 dX10_fewest_184 rfl ?_
      refine aw_iload (pc := 185) 4 dX10_fewest_185 rfl ?_
      refine aw_aload_n (pc := 187) 0 dX10_fewest_187 rfl ?_
      refine aw_getR (pc := 188) 43 kcX10 dX10_fewest_188 lfX10_85 nn_233 ki_233 (by decide) rfl rf_233_43 ?_
      refine aw_iload_n (pc := 191) 3 dX10_fewest_191 rfl ?_
      refine aw_iald (pc := 192) (j := y3.toNatClampNeg) dX10_fewest_192 nn_257 ki_257 ln_257 h.1 rfl ?_
      have h := h.2
      refine aw_if_ne (pc := 193) 200 dX10_fewest_193 (by decide) (fun q => ?_) (fun q => ?_)
      · have h := h.2 q
        refine aw_iconst (pc := 200) 0 dX10_fewest_200 (by decide) ?_
        refine aw_sub (L' := [(0, .ref 233), (1, .int x1), (2, .int y2), (3, .int y3)]) [0, 1, 2, 3] rfl ?_
        exact bt_X10_fewest_201 l x1 B86 hB86 y2 y3 0 y4 y3  _ h
      · have h := h.1 q
        refine aw_iconst (pc := 196) 1 dX10_fewest_196 (by decide) ?_
        refine aw_goto (pc := 197) 201 dX10_fewest_197 (by decide) ?_
        refine aw_sub (L' := [(0, .ref 233), (1, .int x1), (2, .int y2), (3, .int y3)]) [0, 1, 2, 3] rfl ?_
        exact bt_X10_fewest_201 l x1 B86 hB86 y2 y3 1 y4 y3  _ h
    · have h := h.2 q
      refine aw_iload_n (pc := 105) 3 dX10_fewest_105 rfl ?_
      refine aw_iload (pc := 106) 5 dX10_fewest_106 rfl ?_
      refine aw_ishr (pc := 108) dX10_fewest_108 ?_
      refine aw_iconst (pc := 109) 1 dX10_fewest_109 (by decide) ?_
      refine aw_iand (pc := 110) dX10_fewest_110 ?_
      refine aw_iconst (pc := 111) 1 dX10_fewest_111 (by decide) ?_
      refine aw_icmp_ne (pc := 112) 174 dX10_fewest_112 (by decide) (fun q => ?_) (fun q => ?_)
      · have h := h.2 q
        obtain ⟨v174, ev174⟩ : ∃ v : Int32, v = y5 + 1 := ⟨_, rfl⟩
        have h := h v174 ev174
        refine aw_iinc (pc := 174) 5 v174 [(5, .int v174), (0, .ref 233), (1, .int x1), (2, .int y2), (3, .int y3), (4, .int y4)] dX10_fewest_174 rfl (by rw [ev174]; rfl) (by decide) rfl ?_
        refine aw_goto (pc := 177) 99 dX10_fewest_177 (by decide) ?_
        refine aw_sub (L' := [(0, .ref 233), (1, .int x1), (2, .int y2), (3, .int y3), (4, .int y4), (5, .int v174)]) [1, 2, 3, 4, 5, 0] rfl ?_
        exact ih y2 y3 y4 v174  _ h
      · have h := h.1 q
        refine aw_aload_n (pc := 115) 0 dX10_fewest_115 rfl ?_
        refine aw_getR (pc := 116) 43 kcX10 dX10_fewest_116 lfX10_85 nn_233 ki_233 (by decide) rfl rf_233_43 ?_
        refine aw_iload_n (pc := 119) 3 dX10_fewest_119 rfl ?_
        refine aw_aload_n (pc := 120) 0 dX10_fewest_120 rfl ?_
        refine aw_getR (pc := 121) 43 kcX10 dX10_fewest_121 lfX10_85 nn_233 ki_233 (by decide) rfl rf_233_43 ?_
        refine aw_iload_n (pc := 124) 3 dX10_fewest_124 rfl ?_
        refine aw_iconst (pc := 125) 1 dX10_fewest_125 (by decide) ?_
        refine aw_iload (pc := 126) 5 dX10_fewest_126 rfl ?_
        refine aw_ishl (pc := 128) dX10_fewest_128 ?_
        refine aw_ixor (pc := 129) dX10_fewest_129 ?_
        refine aw_iald (pc := 130) (j := (y3 ^^^ (1 <<< (y5 &&& 31))).toNatClampNeg) dX10_fewest_130 nn_257 ki_257 ln_257 h.1 rfl ?_
        have h := h.2
        refine aw_aload_n (pc := 131) 0 dX10_fewest_131 rfl ?_
        refine aw_getR (pc := 132) 42 kcX10 dX10_fewest_132 lfX10_82 nn_233 ki_233 (by decide) rfl rf_233_42 ?_
        refine aw_iload (pc := 135) 5 dX10_fewest_135 rfl ?_
        refine aw_iald (pc := 137) (j := y5.toNatClampNeg) dX10_fewest_137 nn_256 ki_256 ln_256 h.1 rfl ?_
        have h := h.2
        refine aw_iadd (pc := 138) dX10_fewest_138 ?_
        refine aw_iast (pc := 139) (j := y3.toNatClampNeg) (v := ((σ 257 (y3 ^^^ (1 <<< (y5 &&& 31))).toNatClampNeg) + (σ 256 y5.toNatClampNeg))) dX10_fewest_139 nn_257 ki_257 ln_257 h.1 rfl rfl ?_
        have h := h.2
        refine aw_tops (fun τ139 eτ139 => ?_)
        have h := h τ139 eτ139
        refine aw_aload_n (pc := 140) 0 dX10_fewest_140 rfl ?_
        refine aw_getR (pc := 141) 44 kcX10 dX10_fewest_141 lfX10_88 nn_233 ki_233 (by decide) rfl rf_233_44 ?_
        refine aw_iload_n (pc := 144) 3 dX10_fewest_144 rfl ?_
        refine aw_iconst (pc := 145) 1 dX10_fewest_145 (by decide) ?_
        refine aw_iload (pc := 146) 5 dX10_fewest_146 rfl ?_
        refine aw_ishl (pc := 148) dX10_fewest_148 ?_
        refine aw_ixor (pc := 149) dX10_fewest_149 ?_
        refine aw_iald (pc := 150) (j := (y3 ^^^ (1 <<< (y5 &&& 31))).toNatClampNeg) dX10_fewest_150 nn_258 ki_258 ln_258 h.1 rfl ?_
        have h := h.2
        refine aw_iload (pc := 151) 4 dX10_fewest_151 rfl ?_
        refine aw_icmp_le (pc := 153) 170 dX10_fewest_153 (by decide) (fun q => ?_) (fun q => ?_)
        · have h := h.1 q
          refine aw_iload (pc := 170) 4 dX10_fewest_170 rfl ?_
          refine aw_istore (pc := 172) [(4, .int y4), (0, .ref 233), (1, .int x1), (2, .int y2), (3, .int y3), (5, .int y5)] dX10_fewest_172 (by decide) rfl ?_
          obtain ⟨v174, ev174⟩ : ∃ v : Int32, v = y5 + 1 := ⟨_, rfl⟩
          have h := h v174 ev174
          refine aw_iinc (pc := 174) 5 v174 [(5, .int v174), (4, .int y4), (0, .ref 233), (1, .int x1), (2, .int y2), (3, .int y3)] dX10_fewest_174 rfl (by rw [ev174]; rfl) (by decide) rfl ?_
          refine aw_goto (pc := 177) 99 dX10_fewest_177 (by decide) ?_
          refine aw_sub (L' := [(0, .ref 233), (1, .int x1), (2, .int y2), (3, .int y3), (4, .int y4), (5, .int v174)]) [2, 3, 4, 5, 1, 0] rfl ?_
          exact ih y2 y3 y4 v174  _ h
        · have h := h.2 q
          refine aw_aload_n (pc := 156) 0 dX10_fewest_156 rfl ?_
          refine aw_getR (pc := 157) 44 kcX10 dX10_fewest_157 lfX10_88 nn_233 ki_233 (by decide) rfl rf_233_44 ?_
          refine aw_iload_n (pc := 160) 3 dX10_fewest_160 rfl ?_
          refine aw_iconst (pc := 161) 1 dX10_fewest_161 (by decide) ?_
          refine aw_iload (pc := 162) 5 dX10_fewest_162 rfl ?_
          refine aw_ishl (pc := 164) dX10_fewest_164 ?_
          refine aw_ixor (pc := 165) dX10_fewest_165 ?_
          refine aw_iald (pc := 166) (j := (y3 ^^^ (1 <<< (y5 &&& 31))).toNatClampNeg) dX10_fewest_166 nn_258 ki_258 ln_258 h.1 rfl ?_
          have h := h.2
          refine aw_goto (pc := 167) 172 dX10_fewest_167 (by decide) ?_
          refine aw_topi (fun v172 ev172 => ?_)
          have h := h v172 ev172
          refine aw_istore (pc := 172) [(4, .int v172), (0, .ref 233), (1, .int x1), (2, .int y2), (3, .int y3), (5, .int y5)] dX10_fewest_172 (by decide) rfl ?_
          obtain ⟨v174, ev174⟩ : ∃ v : Int32, v = y5 + 1 := ⟨_, rfl⟩
          have h := h v174 ev174
          refine aw_iinc (pc := 174) 5 v174 [(5, .int v174), (4, .int v172), (0, .ref 233), (1, .int x1), (2, .int y2), (3, .int y3)] dX10_fewest_174 rfl (by rw [ev174]; rfl) (by decide) rfl ?_
          refine aw_goto (pc := 177) 99 dX10_fewest_177 (by decide) ?_
          refine aw_sub (L' := [(0, .ref 233), (1, .int x1), (2, .int y2), (3, .int y3), (4, .int v172), (5, .int v174)]) [2, 3, 4, 5, 1, 0] rfl ?_
          exact ih y2 y3 v172 v174  _ h
def b_X10_fewest_86 (x1 : Int32)  (K : Int32 → Sg → Prop) : Nat → Int32 → Int32 → Sg → Prop
  | 0, _, _, _ => False
  | n + 1, y2, y3, σ =>
  br ((1 <<< (y2 &&& 31)) ≤ y3) (br (x1 = 0) (vp_in ((1 <<< (y2 &&& 31)) - 1) 8192 ∧ (K (y2 - (σ 258 ((1 <<< (y2 &&& 31)) - 1).toNatClampNeg)) σ)) (vp_in ((1 <<< (y2 &&& 31)) - 1) 8192 ∧ (K (σ 258 ((1 <<< (y2 &&& 31)) - 1).toNatClampNeg) σ))) (∃ nf, b_X10_fewest_99 x1 (fun y2' y3' τ => b_X10_fewest_86 x1  K n y2' y3' τ) K nf y2 y3 0 0 σ)
set_option maxRecDepth 20000 in
set_option maxHeartbeats 2000000 in
theorem bt_X10_fewest_86 (l : Launch) (x1 : Int32) {K : Int32 → Sg → Prop}   : ∀ (n : Nat) (y2 : Int32) (y3 : Int32)  (σ : Sg), b_X10_fewest_86 x1  K n y2 y3 σ → AV l RX10 cX10_fewest 6 (some .int) 9 (qI K) 86 [(0, .ref 233), (1, .int x1), (2, .int y2), (3, .int y3)] [] σ := by
  intro n
  induction n with
  | zero => intro y2 y3 σ h; exact h.elim
  | succ n ih =>
    intro y2 y3 σ h
    refine aw_iload_n (pc := 86) 3 dX10_fewest_86 rfl ?_
    refine aw_iconst (pc := 87) 1 dX10_fewest_87 (by decide) ?_
    refine aw_iload_n (pc := 88) 2 dX10_fewest_88 rfl ?_
    refine aw_ishl (pc := 89) dX10_fewest_89 ?_
    refine aw_icmp_ge (pc := 90) 209 dX10_fewest_90 (by decide) (fun q => ?_) (fun q => ?_)
    · have h := h.1 q
      refine aw_iload_n (pc := 209) 1 dX10_fewest_209 rfl ?_
      refine aw_if_ne (pc := 210) 228 dX10_fewest_210 (by decide) (fun q => ?_) (fun q => ?_)
      · have h := h.2 q
        refine aw_aload_n (pc := 228) 0 dX10_fewest_228 rfl ?_
        refine aw_getR (pc := 229) 44 kcX10 dX10_fewest_229 lfX10_88 nn_233 ki_233 (by decide) rfl rf_233_44 ?_
        refine aw_iconst (pc := 232) 1 dX10_fewest_232 (by decide) ?_
        refine aw_iload_n (pc := 233) 2 dX10_fewest_233 rfl ?_
        refine aw_ishl (pc := 234) dX10_fewest_234 ?_
        refine aw_iconst (pc := 235) 1 dX10_fewest_235 (by decide) ?_
        refine aw_isub (pc := 236) dX10_fewest_236 ?_
        refine aw_iald (pc := 237) (j := ((1 <<< (y2 &&& 31)) - 1).toNatClampNeg) dX10_fewest_237 nn_258 ki_258 ln_258 h.1 rfl ?_
        have h := h.2
        exact aw_iret (pc := 238) rfl dX10_fewest_238 ⟨_, rfl, h⟩
      · have h := h.1 q
        refine aw_iload_n (pc := 213) 2 dX10_fewest_213 rfl ?_
        refine aw_aload_n (pc := 214) 0 dX10_fewest_214 rfl ?_
        refine aw_getR (pc := 215) 44 kcX10 dX10_fewest_215 lfX10_88 nn_233 ki_233 (by decide) rfl rf_233_44 ?_
        refine aw_iconst (pc := 218) 1 dX10_fewest_218 (by decide) ?_
        refine aw_iload_n (pc := 219) 2 dX10_fewest_219 rfl ?_
        refine aw_ishl (pc := 220) dX10_fewest_220 ?_
        refine aw_iconst (pc := 221) 1 dX10_fewest_221 (by decide) ?_
        refine aw_isub (pc := 222) dX10_fewest_222 ?_
        refine aw_iald (pc := 223) (j := ((1 <<< (y2 &&& 31)) - 1).toNatClampNeg) dX10_fewest_223 nn_258 ki_258 ln_258 h.1 rfl ?_
        have h := h.2
        refine aw_isub (pc := 224) dX10_fewest_224 ?_
        refine aw_goto (pc := 225) 238 dX10_fewest_225 (by decide) ?_
        exact aw_iret (pc := 238) rfl dX10_fewest_238 ⟨_, rfl, h⟩
    · have h := h.2 q
      refine aw_iconst (pc := 93) 0 dX10_fewest_93 (by decide) ?_
      refine aw_istore (pc := 94) [(4, .int 0), (0, .ref 233), (1, .int x1), (2, .int y2), (3, .int y3)] dX10_fewest_94 (by decide) rfl ?_
      refine aw_iconst (pc := 96) 0 dX10_fewest_96 (by decide) ?_
      refine aw_istore (pc := 97) [(5, .int 0), (4, .int 0), (0, .ref 233), (1, .int x1), (2, .int y2), (3, .int y3)] dX10_fewest_97 (by decide) rfl ?_
      refine aw_sub (L' := [(0, .ref 233), (1, .int x1), (2, .int y2), (3, .int y3), (4, .int 0), (5, .int 0)]) [2, 3, 4, 5, 1, 0] rfl ?_
      obtain ⟨nf, h⟩ := h
      exact bt_X10_fewest_99 l x1 (fun y2' y3' τ => b_X10_fewest_86 x1  K n y2' y3' τ) (fun y2' y3' τ h => ih y2' y3' τ h) nf y2 y3 0 0  _ h
def b_X10_fewest_32 (x1 : Int32)  (K : Int32 → Sg → Prop) : Nat → Int32 → Int32 → Sg → Prop
  | 0, _, _, _ => False
  | n + 1, y2, y3, σ =>
  wp_X10_clubs  σ <| fun r34_ τ34 => (br (r34_ < y3) (∀ τ76 : Sg, τ76 = up τ34 257 0 0 → (∀ τ83 : Sg, τ83 = up τ76 258 0 0 → (∃ nf, b_X10_fewest_86 x1  K nf y2 1 τ83))) (vp_in y3 13 ∧ (br ((τ34 255 y3.toNatClampNeg) = 0) (∀ v64 : Int32, v64 = y3 + 1 → (b_X10_fewest_32 x1  K n y2 v64 τ34)) (vp_in y3 13 ∧ (vp_in y2 13 ∧ (∀ τ60 : Sg, τ60 = up τ34 256 y2.toNatClampNeg (τ34 255 y3.toNatClampNeg) → (∀ v61 : Int32, v61 = y2 + 1 → (∀ v64 : Int32, v64 = y3 + 1 → (b_X10_fewest_32 x1  K n v61 v64 τ60)))))))))
set_option maxRecDepth 20000 in
set_option maxHeartbeats 2000000 in
theorem bt_X10_fewest_32 (l : Launch) (x1 : Int32) {K : Int32 → Sg → Prop}   : ∀ (n : Nat) (y2 : Int32) (y3 : Int32)  (σ : Sg), b_X10_fewest_32 x1  K n y2 y3 σ → AV l RX10 cX10_fewest 6 (some .int) 9 (qI K) 32 [(0, .ref 233), (1, .int x1), (2, .int y2), (3, .int y3)] [] σ := by
  intro n
  induction n with
  | zero => intro y2 y3 σ h; exact h.elim
  | succ n ih =>
    intro y2 y3 σ h
    refine aw_iload_n (pc := 32) 3 dX10_fewest_32 rfl ?_
    refine aw_aload_n (pc := 33) 0 dX10_fewest_33 rfl ?_
    refine aw_callV (pc := 34) (As := []) (rest := [.int y3]) kcX10 nn_233 ki_233 rfl (ev_X10_clubs l  h) mfX10_clubs dX10_fewest_34 lmX10_384 ⟨Nat.le_refl _, Nat.le_refl _⟩ (by decide) rfl rfl (Nat.le_of_ble_eq_true rfl) (nxI (fun r34_ τ34 h => ?_))
    refine aw_icmp_gt (pc := 37) 70 dX10_fewest_37 (by decide) (fun q => ?_) (fun q => ?_)
    · have h := h.1 q
      refine aw_aload_n (pc := 70) 0 dX10_fewest_70 rfl ?_
      refine aw_getR (pc := 71) 43 kcX10 dX10_fewest_71 lfX10_85 nn_233 ki_233 (by decide) rfl rf_233_43 ?_
      refine aw_iconst (pc := 74) 0 dX10_fewest_74 (by decide) ?_
      refine aw_iconst (pc := 75) 0 dX10_fewest_75 (by decide) ?_
      refine aw_iast (pc := 76) (j := 0) (v := 0) dX10_fewest_76 nn_257 ki_257 ln_257 (show vp_in _ _ by unfold vp_in; decide) (by decide) rfl ?_
      refine aw_tops (fun τ76 eτ76 => ?_)
      have h := h τ76 eτ76
      refine aw_aload_n (pc := 77) 0 dX10_fewest_77 rfl ?_
      refine aw_getR (pc := 78) 44 kcX10 dX10_fewest_78 lfX10_88 nn_233 ki_233 (by decide) rfl rf_233_44 ?_
      refine aw_iconst (pc := 81) 0 dX10_fewest_81 (by decide) ?_
      refine aw_iconst (pc := 82) 0 dX10_fewest_82 (by decide) ?_
      refine aw_iast (pc := 83) (j := 0) (v := 0) dX10_fewest_83 nn_258 ki_258 ln_258 (show vp_in _ _ by unfold vp_in; decide) (by decide) rfl ?_
      refine aw_tops (fun τ83 eτ83 => ?_)
      have h := h τ83 eτ83
      refine aw_iconst (pc := 84) 1 dX10_fewest_84 (by decide) ?_
      refine aw_istore_n (pc := 85) (i := 3) [(3, .int 1), (0, .ref 233), (1, .int x1), (2, .int y2)] dX10_fewest_85 rfl (by decide) rfl ?_
      refine aw_sub (L' := [(0, .ref 233), (1, .int x1), (2, .int y2), (3, .int 1)]) [1, 2, 3, 0] rfl ?_
      obtain ⟨nf, h⟩ := h
      exact bt_X10_fewest_86 l x1   nf y2 1  _ h
    · have h := h.2 q
      refine aw_aload_n (pc := 40) 0 dX10_fewest_40 rfl ?_
      refine aw_getR (pc := 41) 41 kcX10 dX10_fewest_41 lfX10_79 nn_233 ki_233 (by decide) rfl rf_233_41 ?_
      refine aw_iload_n (pc := 44) 3 dX10_fewest_44 rfl ?_
      refine aw_iald (pc := 45) (j := y3.toNatClampNeg) dX10_fewest_45 nn_255 ki_255 ln_255 h.1 rfl ?_
      have h := h.2
      refine aw_if_eq (pc := 46) 64 dX10_fewest_46 (by decide) (fun q => ?_) (fun q => ?_)
      · have h := h.1 q
        obtain ⟨v64, ev64⟩ : ∃ v : Int32, v = y3 + 1 := ⟨_, rfl⟩
        have h := h v64 ev64
        refine aw_iinc (pc := 64) 3 v64 [(3, .int v64), (0, .ref 233), (1, .int x1), (2, .int y2)] dX10_fewest_64 rfl (by rw [ev64]; rfl) (by decide) rfl ?_
        refine aw_goto (pc := 67) 32 dX10_fewest_67 (by decide) ?_
        refine aw_sub (L' := [(0, .ref 233), (1, .int x1), (2, .int y2), (3, .int v64)]) [1, 2, 3, 0] rfl ?_
        exact ih y2 v64  _ h
      · have h := h.2 q
        refine aw_aload_n (pc := 49) 0 dX10_fewest_49 rfl ?_
        refine aw_getR (pc := 50) 42 kcX10 dX10_fewest_50 lfX10_82 nn_233 ki_233 (by decide) rfl rf_233_42 ?_
        refine aw_iload_n (pc := 53) 2 dX10_fewest_53 rfl ?_
        refine aw_aload_n (pc := 54) 0 dX10_fewest_54 rfl ?_
        refine aw_getR (pc := 55) 41 kcX10 dX10_fewest_55 lfX10_79 nn_233 ki_233 (by decide) rfl rf_233_41 ?_
        refine aw_iload_n (pc := 58) 3 dX10_fewest_58 rfl ?_
        refine aw_iald (pc := 59) (j := y3.toNatClampNeg) dX10_fewest_59 nn_255 ki_255 ln_255 h.1 rfl ?_
        have h := h.2
        refine aw_iast (pc := 60) (j := y2.toNatClampNeg) (v := (τ34 255 y3.toNatClampNeg)) dX10_fewest_60 nn_256 ki_256 ln_256 h.1 rfl rfl ?_
        have h := h.2
        refine aw_tops (fun τ60 eτ60 => ?_)
        have h := h τ60 eτ60
        obtain ⟨v61, ev61⟩ : ∃ v : Int32, v = y2 + 1 := ⟨_, rfl⟩
        have h := h v61 ev61
        refine aw_iinc (pc := 61) 2 v61 [(2, .int v61), (0, .ref 233), (1, .int x1), (3, .int y3)] dX10_fewest_61 rfl (by rw [ev61]; rfl) (by decide) rfl ?_
        obtain ⟨v64, ev64⟩ : ∃ v : Int32, v = y3 + 1 := ⟨_, rfl⟩
        have h := h v64 ev64
        refine aw_iinc (pc := 64) 3 v64 [(3, .int v64), (2, .int v61), (0, .ref 233), (1, .int x1)] dX10_fewest_64 rfl (by rw [ev64]; rfl) (by decide) rfl ?_
        refine aw_goto (pc := 67) 32 dX10_fewest_67 (by decide) ?_
        refine aw_sub (L' := [(0, .ref 233), (1, .int x1), (2, .int v61), (3, .int v64)]) [2, 3, 1, 0] rfl ?_
        exact ih v61 v64  _ h
def wp_X10_fewest (x1 : Int32) (σ : Sg) (K : Int32 → Sg → Prop) : Prop :=
  ∀ τ2 : Sg, τ2 = up σ 233 0 0 → (wp_X10_isTold  τ2 <| fun r6_ τ6 => (br (r6_ = 0) (K (-1) τ6) (wp_X10_within (Int32.toInt64 x1) 0 1 τ6 <| fun r16_ τ16 => (br (r16_ = 0) (K (-1) τ16) (wp_X10_layBalances  τ16 <| fun τ25 => (∃ nf, b_X10_fewest_32 x1  K nf 0 0 τ25))))))
set_option maxRecDepth 20000 in
set_option maxHeartbeats 2000000 in
theorem ev_X10_fewest (l : Launch) (x1 : Int32) {σ : Sg} {K : Int32 → Sg → Prop} (h : wp_X10_fewest x1 σ K) : Ev l yX10_fewest cX10_fewest 6 (some .int) 9 [.ref 233, .int x1] σ (qI K) := by
  refine ev_ov (by decide) (Nat.le_of_ble_eq_true rfl) ?_
  show AV l RX10 cX10_fewest 6 (some .int) 9 (qI K) 0 [(0, .ref 233), (1, .int x1)] [] σ
  refine aw_aload_n (pc := 0) 0 dX10_fewest_0 rfl ?_
  refine aw_iconst (pc := 1) 0 dX10_fewest_1 (by decide) ?_
  refine aw_put (pc := 2) 0 kcX10 dX10_fewest_2 lfX10_91 nn_233 ki_233 (by decide) rfl rfl rfl rfl ?_
  refine aw_tops (fun τ2 eτ2 => ?_)
  have h := h τ2 eτ2
  refine aw_aload_n (pc := 5) 0 dX10_fewest_5 rfl ?_
  refine aw_callV (pc := 6) (As := []) (rest := []) kcX10 nn_233 ki_233 rfl (ev_X10_isTold l  h) mfX10_isTold dX10_fewest_6 lmX10_232 ⟨Nat.le_refl _, Nat.le_refl _⟩ (by decide) rfl rfl (Nat.le_of_ble_eq_true rfl) (nxI (fun r6_ τ6 h => ?_))
  refine aw_if_eq (pc := 9) 22 dX10_fewest_9 (by decide) (fun q => ?_) (fun q => ?_)
  · have h := h.1 q
    refine aw_iconst (pc := 22) (-1) dX10_fewest_22 (by decide) ?_
    exact aw_iret (pc := 23) rfl dX10_fewest_23 ⟨_, rfl, h⟩
  · have h := h.2 q
    refine aw_iload_n (pc := 12) 1 dX10_fewest_12 rfl ?_
    refine aw_i2l (pc := 13) dX10_fewest_13 ?_
    refine aw_lconst (pc := 14) 0 dX10_fewest_14 (by decide) ?_
    refine aw_lconst (pc := 15) 1 dX10_fewest_15 (by decide) ?_
    refine aw_callS (pc := 16) (As := [.long (Int32.toInt64 x1), .long 0, .long 1]) (rest := []) (ev_X10_within l (Int32.toInt64 x1) 0 1 h) mfX10_within dX10_fewest_16 lmX10_94 ⟨Nat.le_refl _, Nat.le_refl _⟩ (by decide) rfl rfl (Nat.le_of_ble_eq_true rfl) (nxI (fun r16_ τ16 h => ?_))
    refine aw_if_ne (pc := 19) 24 dX10_fewest_19 (by decide) (fun q => ?_) (fun q => ?_)
    · have h := h.2 q
      refine aw_aload_n (pc := 24) 0 dX10_fewest_24 rfl ?_
      refine aw_callV (pc := 25) (As := []) (rest := []) kcX10 nn_233 ki_233 rfl (ev_X10_layBalances l  h) mfX10_layBalances dX10_fewest_25 lmX10_426 ⟨Nat.le_refl _, Nat.le_refl _⟩ (by decide) rfl rfl (Nat.le_of_ble_eq_true rfl) (nxV (fun τ25 h => ?_))
      refine aw_iconst (pc := 28) 0 dX10_fewest_28 (by decide) ?_
      refine aw_istore_n (pc := 29) (i := 2) [(2, .int 0), (0, .ref 233), (1, .int x1)] dX10_fewest_29 rfl (by decide) rfl ?_
      refine aw_iconst (pc := 30) 0 dX10_fewest_30 (by decide) ?_
      refine aw_istore_n (pc := 31) (i := 3) [(3, .int 0), (2, .int 0), (0, .ref 233), (1, .int x1)] dX10_fewest_31 rfl (by decide) rfl ?_
      refine aw_sub (L' := [(0, .ref 233), (1, .int x1), (2, .int 0), (3, .int 0)]) [2, 3, 1, 0] rfl ?_
      obtain ⟨nf, h⟩ := h
      exact bt_X10_fewest_32 l x1   nf 0 0  _ h
    · have h := h.1 q
      refine aw_iconst (pc := 22) (-1) dX10_fewest_22 (by decide) ?_
      exact aw_iret (pc := 23) rfl dX10_fewest_23 ⟨_, rfl, h⟩
def b_X10_pays_198 (x1 : Int32) (x2 : Int32) (B44 : Int32 → Int32 → Int32 → Sg → Prop) (K : Int32 → Sg → Prop) (y3 : Int32) (y5 : Int32) (y6 : Int32) (y7 : Int32) (y8 : Int32) (z0 : Int32) (σ : Sg) : Prop :=
  vp_in y6 13 ∧ (vp_in y6 13 ∧ (∀ τ211 : Sg, τ211 = up σ 255 y6.toNatClampNeg ((σ 255 y6.toNatClampNeg) + y8) → (vp_in y7 13 ∧ (vp_in y7 13 ∧ (∀ τ223 : Sg, τ223 = up τ211 255 y7.toNatClampNeg ((τ211 255 y7.toNatClampNeg) - y8) → (∀ v224 : Int32, v224 = y3 + 1 → (B44 v224 z0 y5 τ223)))))))
set_option maxRecDepth 20000 in
set_option maxHeartbeats 2000000 in
theorem bt_X10_pays_198 (l : Launch) (x1 : Int32) (x2 : Int32) {K : Int32 → Sg → Prop} (B44 : Int32 → Int32 → Int32 → Sg → Prop) (hB44 : ∀ (y3 : Int32) (y4 : Int32) (y5 : Int32)  (τ : Sg), B44 y3 y4 y5 τ → AV l RX10 cX10_pays 9 (some .int) 9 (qI K) 44 [(0, .ref 233), (1, .int x1), (2, .int x2), (3, .int y3), (4, .int y4), (5, .int y5)] [] τ) (y3 : Int32) (y5 : Int32) (y6 : Int32) (y7 : Int32) (y8 : Int32) (z0 : Int32)  (σ : Sg) (h : b_X10_pays_198 x1 x2 B44 K y3 y5 y6 y7 y8 z0 σ) : AV l RX10 cX10_pays 9 (some .int) 9 (qI K) 198 [(0, .ref 233), (1, .int x1), (2, .int x2), (3, .int y3), (5, .int y5), (6, .int y6), (7, .int y7), (8, .int y8)] [.int z0] σ := by
  refine aw_istore (pc := 198) [(4, .int z0), (0, .ref 233), (1, .int x1), (2, .int x2), (3, .int y3), (5, .int y5), (6, .int y6), (7, .int y7), (8, .int y8)] dX10_pays_198 (by decide) rfl ?_
  refine aw_aload_n (pc := 200) 1 dX10_pays_200 rfl ?_
  refine aw_getR (pc := 201) 41 kcX10 dX10_pays_201 lfX10_79 nn_233 ki_233 (by decide) rfl rf_233_41 ?_
  refine aw_iload (pc := 204) 6 dX10_pays_204 rfl ?_
  refine aw_dup2 (pc := 206) dX10_pays_206 rfl rfl ?_
  refine aw_iald (pc := 207) (j := y6.toNatClampNeg) dX10_pays_207 nn_255 ki_255 ln_255 h.1 rfl ?_
  have h := h.2
  refine aw_iload (pc := 208) 8 dX10_pays_208 rfl ?_
  refine aw_iadd (pc := 210) dX10_pays_210 ?_
  refine aw_iast (pc := 211) (j := y6.toNatClampNeg) (v := ((σ 255 y6.toNatClampNeg) + y8)) dX10_pays_211 nn_255 ki_255 ln_255 h.1 rfl rfl ?_
  have h := h.2
  refine aw_tops (fun τ211 eτ211 => ?_)
  have h := h τ211 eτ211
  refine aw_aload_n (pc := 212) 1 dX10_pays_212 rfl ?_
  refine aw_getR (pc := 213) 41 kcX10 dX10_pays_213 lfX10_79 nn_233 ki_233 (by decide) rfl rf_233_41 ?_
  refine aw_iload (pc := 216) 7 dX10_pays_216 rfl ?_
  refine aw_dup2 (pc := 218) dX10_pays_218 rfl rfl ?_
  refine aw_iald (pc := 219) (j := y7.toNatClampNeg) dX10_pays_219 nn_255 ki_255 ln_255 h.1 rfl ?_
  have h := h.2
  refine aw_iload (pc := 220) 8 dX10_pays_220 rfl ?_
  refine aw_isub (pc := 222) dX10_pays_222 ?_
  refine aw_iast (pc := 223) (j := y7.toNatClampNeg) (v := ((τ211 255 y7.toNatClampNeg) - y8)) dX10_pays_223 nn_255 ki_255 ln_255 h.1 rfl rfl ?_
  have h := h.2
  refine aw_tops (fun τ223 eτ223 => ?_)
  have h := h τ223 eτ223
  obtain ⟨v224, ev224⟩ : ∃ v : Int32, v = y3 + 1 := ⟨_, rfl⟩
  have h := h v224 ev224
  refine aw_iinc (pc := 224) 4 v224 [(3, .int v224), (4, .int z0), (0, .ref 233), (1, .int x1), (2, .int x2), (5, .int y5), (6, .int y6), (7, .int y7), (8, .int y8)] dX10_pays_224 rfl (by rw [ev224]; rfl) (by decide) rfl ?_
  refine aw_goto (pc := 227) 44 dX10_pays_227 (by decide) ?_
  refine aw_sub (L' := [(0, .ref 233), (1, .int x1), (2, .int x2), (3, .int v224), (4, .int z0), (5, .int y5)]) [2, 3, 4, 0, 1, 5] rfl ?_
  exact hB44 v224 z0 y5  _ h
def b_X10_pays_140 (x1 : Int32) (x2 : Int32) (B44 : Int32 → Int32 → Int32 → Sg → Prop) (K : Int32 → Sg → Prop) (y3 : Int32) (y4 : Int32) (y6 : Int32) (y7 : Int32) (z0 : Int32) (σ : Sg) : Prop :=
  br (z0 = 0) (B44 y3 y4 z0 σ) (vp_in y6 13 ∧ (vp_in y7 13 ∧ (wp_X10_less (0 - (σ 255 y6.toNatClampNeg)) (σ 255 y7.toNatClampNeg) σ <| fun r162_ τ162 => (br (y3 = x1) (br (x2 = 0) (b_X10_pays_198 x1 x2 B44 K y3 z0 y6 y7 r162_ y6 τ162) (br (x2 = 1) (b_X10_pays_198 x1 x2 B44 K y3 z0 y6 y7 r162_ y7 τ162) (b_X10_pays_198 x1 x2 B44 K y3 z0 y6 y7 r162_ r162_ τ162))) (b_X10_pays_198 x1 x2 B44 K y3 z0 y6 y7 r162_ y4 τ162)))))
set_option maxRecDepth 20000 in
set_option maxHeartbeats 2000000 in
theorem bt_X10_pays_140 (l : Launch) (x1 : Int32) (x2 : Int32) {K : Int32 → Sg → Prop} (B44 : Int32 → Int32 → Int32 → Sg → Prop) (hB44 : ∀ (y3 : Int32) (y4 : Int32) (y5 : Int32)  (τ : Sg), B44 y3 y4 y5 τ → AV l RX10 cX10_pays 9 (some .int) 9 (qI K) 44 [(0, .ref 233), (1, .int x1), (2, .int x2), (3, .int y3), (4, .int y4), (5, .int y5)] [] τ) (y3 : Int32) (y4 : Int32) (y6 : Int32) (y7 : Int32) (z0 : Int32)  (σ : Sg) (h : b_X10_pays_140 x1 x2 B44 K y3 y4 y6 y7 z0 σ) : AV l RX10 cX10_pays 9 (some .int) 9 (qI K) 140 [(0, .ref 233), (1, .int x1), (2, .int x2), (3, .int y3), (4, .int y4), (6, .int y6), (7, .int y7)] [.int z0] σ := by
  refine aw_istore (pc := 140) [(5, .int z0), (0, .ref 233), (1, .int x1), (2, .int x2), (3, .int y3), (4, .int y4), (6, .int y6), (7, .int y7)] dX10_pays_140 (by decide) rfl ?_
  refine aw_iload (pc := 142) 0 dX10_pays_142 rfl ?_
  refine aw_if_eq (pc := 144) 227 dX10_pays_144 (by decide) (fun q => ?_) (fun q => ?_)
  · have h := h.1 q
    refine aw_goto (pc := 227) 44 dX10_pays_227 (by decide) ?_
    refine aw_sub (L' := [(0, .ref 233), (1, .int x1), (2, .int x2), (3, .int y3), (4, .int y4), (5, .int z0)]) [1, 2, 3, 4, 5, 0] rfl ?_
    exact hB44 y3 y4 z0  _ h
  · have h := h.2 q
    refine aw_aload_n (pc := 147) 1 dX10_pays_147 rfl ?_
    refine aw_getR (pc := 148) 41 kcX10 dX10_pays_148 lfX10_79 nn_233 ki_233 (by decide) rfl rf_233_41 ?_
    refine aw_iload (pc := 151) 6 dX10_pays_151 rfl ?_
    refine aw_iald (pc := 153) (j := y6.toNatClampNeg) dX10_pays_153 nn_255 ki_255 ln_255 h.1 rfl ?_
    have h := h.2
    refine aw_ineg (pc := 154) dX10_pays_154 ?_
    refine aw_aload_n (pc := 155) 1 dX10_pays_155 rfl ?_
    refine aw_getR (pc := 156) 41 kcX10 dX10_pays_156 lfX10_79 nn_233 ki_233 (by decide) rfl rf_233_41 ?_
    refine aw_iload (pc := 159) 7 dX10_pays_159 rfl ?_
    refine aw_iald (pc := 161) (j := y7.toNatClampNeg) dX10_pays_161 nn_255 ki_255 ln_255 h.1 rfl ?_
    have h := h.2
    refine aw_callS (pc := 162) (As := [.int (0 - (σ 255 y6.toNatClampNeg)), .int (σ 255 y7.toNatClampNeg)]) (rest := []) (ev_X10_less l (0 - (σ 255 y6.toNatClampNeg)) (σ 255 y7.toNatClampNeg) h) mfX10_less dX10_pays_162 lmX10_318 ⟨Nat.le_refl _, Nat.le_refl _⟩ (by decide) rfl rfl (Nat.le_of_ble_eq_true rfl) (nxI (fun r162_ τ162 h => ?_))
    refine aw_istore (pc := 165) [(8, .int r162_), (5, .int z0), (0, .ref 233), (1, .int x1), (2, .int x2), (3, .int y3), (4, .int y4), (6, .int y6), (7, .int y7)] dX10_pays_165 (by decide) rfl ?_
    refine aw_iload_n (pc := 167) 5 dX10_pays_167 rfl ?_
    refine aw_iload_n (pc := 168) 3 dX10_pays_168 rfl ?_
    refine aw_icmp_ne (pc := 169) 196 dX10_pays_169 (by decide) (fun q => ?_) (fun q => ?_)
    · have h := h.2 q
      refine aw_iload (pc := 196) 6 dX10_pays_196 rfl ?_
      refine aw_sub (L' := [(0, .ref 233), (1, .int x1), (2, .int x2), (3, .int y3), (5, .int z0), (6, .int y6), (7, .int y7), (8, .int r162_)]) [2, 3, 4, 5, 1, 7, 8, 0] rfl ?_
      exact bt_X10_pays_198 l x1 x2 B44 hB44 y3 z0 y6 y7 r162_ y4  _ h
    · have h := h.1 q
      refine aw_iload_n (pc := 172) 4 dX10_pays_172 rfl ?_
      refine aw_if_ne (pc := 173) 181 dX10_pays_173 (by decide) (fun q => ?_) (fun q => ?_)
      · have h := h.2 q
        refine aw_iload_n (pc := 181) 4 dX10_pays_181 rfl ?_
        refine aw_iconst (pc := 182) 1 dX10_pays_182 (by decide) ?_
        refine aw_icmp_ne (pc := 183) 191 dX10_pays_183 (by decide) (fun q => ?_) (fun q => ?_)
        · have h := h.2 q
          refine aw_iload (pc := 191) 0 dX10_pays_191 rfl ?_
          refine aw_goto (pc := 193) 198 dX10_pays_193 (by decide) ?_
          refine aw_sub (L' := [(0, .ref 233), (1, .int x1), (2, .int x2), (3, .int y3), (5, .int z0), (6, .int y6), (7, .int y7), (8, .int r162_)]) [2, 3, 4, 5, 1, 7, 8, 0] rfl ?_
          exact bt_X10_pays_198 l x1 x2 B44 hB44 y3 z0 y6 y7 r162_ r162_  _ h
        · have h := h.1 q
          refine aw_iload (pc := 186) 8 dX10_pays_186 rfl ?_
          refine aw_goto (pc := 188) 198 dX10_pays_188 (by decide) ?_
          refine aw_sub (L' := [(0, .ref 233), (1, .int x1), (2, .int x2), (3, .int y3), (5, .int z0), (6, .int y6), (7, .int y7), (8, .int r162_)]) [2, 3, 4, 5, 1, 7, 8, 0] rfl ?_
          exact bt_X10_pays_198 l x1 x2 B44 hB44 y3 z0 y6 y7 r162_ y7  _ h
      · have h := h.1 q
        refine aw_iload (pc := 176) 7 dX10_pays_176 rfl ?_
        refine aw_goto (pc := 178) 198 dX10_pays_178 (by decide) ?_
        refine aw_sub (L' := [(0, .ref 233), (1, .int x1), (2, .int x2), (3, .int y3), (5, .int z0), (6, .int y6), (7, .int y7), (8, .int r162_)]) [2, 3, 4, 5, 1, 7, 8, 0] rfl ?_
        exact bt_X10_pays_198 l x1 x2 B44 hB44 y3 z0 y6 y7 r162_ y6  _ h
def b_X10_pays_91 (x1 : Int32) (x2 : Int32) (B44 : Int32 → Int32 → Int32 → Sg → Prop) (B58 : Int32 → Int32 → Int32 → Int32 → Int32 → Sg → Prop) (K : Int32 → Sg → Prop) (y3 : Int32) (y4 : Int32) (y7 : Int32) (y8 : Int32) (z0 : Int32) (σ : Sg) : Prop :=
  vp_in y8 13 ∧ (vp_in y7 13 ∧ (br ((σ 255 y8.toNatClampNeg) ≤ (σ 255 y7.toNatClampNeg)) (∀ v119 : Int32, v119 = y8 + 1 → (B58 y3 y4 z0 y7 v119 σ)) (∀ v119 : Int32, v119 = y8 + 1 → (B58 y3 y4 z0 y8 v119 σ))))
set_option maxRecDepth 20000 in
set_option maxHeartbeats 2000000 in
theorem bt_X10_pays_91 (l : Launch) (x1 : Int32) (x2 : Int32) {K : Int32 → Sg → Prop} (B44 : Int32 → Int32 → Int32 → Sg → Prop) (B58 : Int32 → Int32 → Int32 → Int32 → Int32 → Sg → Prop) (hB44 : ∀ (y3 : Int32) (y4 : Int32) (y5 : Int32)  (τ : Sg), B44 y3 y4 y5 τ → AV l RX10 cX10_pays 9 (some .int) 9 (qI K) 44 [(0, .ref 233), (1, .int x1), (2, .int x2), (3, .int y3), (4, .int y4), (5, .int y5)] [] τ) (hB58 : ∀ (y3 : Int32) (y4 : Int32) (y6 : Int32) (y7 : Int32) (y8 : Int32)  (τ : Sg), B58 y3 y4 y6 y7 y8 τ → AV l RX10 cX10_pays 9 (some .int) 9 (qI K) 58 [(0, .ref 233), (1, .int x1), (2, .int x2), (3, .int y3), (4, .int y4), (6, .int y6), (7, .int y7), (8, .int y8)] [] τ) (y3 : Int32) (y4 : Int32) (y7 : Int32) (y8 : Int32) (z0 : Int32)  (σ : Sg) (h : b_X10_pays_91 x1 x2 B44 B58 K y3 y4 y7 y8 z0 σ) : AV l RX10 cX10_pays 9 (some .int) 9 (qI K) 91 [(0, .ref 233), (1, .int x1), (2, .int x2), (3, .int y3), (4, .int y4), (7, .int y7), (8, .int y8)] [.int z0] σ := by
  refine aw_istore (pc := 91) [(6, .int z0), (0, .ref 233), (1, .int x1), (2, .int x2), (3, .int y3), (4, .int y4), (7, .int y7), (8, .int y8)] dX10_pays_91 (by decide) rfl ?_
  refine aw_aload_n (pc := 93) 1 dX10_pays_93 rfl ?_
  refine aw_getR (pc := 94) 41 kcX10 dX10_pays_94 lfX10_79 nn_233 ki_233 (by decide) rfl rf_233_41 ?_
  refine aw_iload (pc := 97) 7 dX10_pays_97 rfl ?_
  refine aw_iald (pc := 99) (j := y8.toNatClampNeg) dX10_pays_99 nn_255 ki_255 ln_255 h.1 rfl ?_
  have h := h.2
  refine aw_aload_n (pc := 100) 1 dX10_pays_100 rfl ?_
  refine aw_getR (pc := 101) 41 kcX10 dX10_pays_101 lfX10_79 nn_233 ki_233 (by decide) rfl rf_233_41 ?_
  refine aw_iload (pc := 104) 6 dX10_pays_104 rfl ?_
  refine aw_iald (pc := 106) (j := y7.toNatClampNeg) dX10_pays_106 nn_255 ki_255 ln_255 h.1 rfl ?_
  have h := h.2
  refine aw_icmp_le (pc := 107) 115 dX10_pays_107 (by decide) (fun q => ?_) (fun q => ?_)
  · have h := h.1 q
    refine aw_iload (pc := 115) 6 dX10_pays_115 rfl ?_
    refine aw_istore (pc := 117) [(7, .int y7), (6, .int z0), (0, .ref 233), (1, .int x1), (2, .int x2), (3, .int y3), (4, .int y4), (8, .int y8)] dX10_pays_117 (by decide) rfl ?_
    obtain ⟨v119, ev119⟩ : ∃ v : Int32, v = y8 + 1 := ⟨_, rfl⟩
    have h := h v119 ev119
    refine aw_iinc (pc := 119) 7 v119 [(8, .int v119), (7, .int y7), (6, .int z0), (0, .ref 233), (1, .int x1), (2, .int x2), (3, .int y3), (4, .int y4)] dX10_pays_119 rfl (by rw [ev119]; rfl) (by decide) rfl ?_
    refine aw_goto (pc := 122) 58 dX10_pays_122 (by decide) ?_
    refine aw_sub (L' := [(0, .ref 233), (1, .int x1), (2, .int x2), (3, .int y3), (4, .int y4), (6, .int z0), (7, .int y7), (8, .int v119)]) [3, 4, 5, 6, 7, 2, 1, 0] rfl ?_
    exact hB58 y3 y4 z0 y7 v119  _ h
  · have h := h.2 q
    refine aw_iload (pc := 110) 7 dX10_pays_110 rfl ?_
    refine aw_goto (pc := 112) 117 dX10_pays_112 (by decide) ?_
    refine aw_istore (pc := 117) [(7, .int y8), (6, .int z0), (0, .ref 233), (1, .int x1), (2, .int x2), (3, .int y3), (4, .int y4), (8, .int y8)] dX10_pays_117 (by decide) rfl ?_
    obtain ⟨v119, ev119⟩ : ∃ v : Int32, v = y8 + 1 := ⟨_, rfl⟩
    have h := h v119 ev119
    refine aw_iinc (pc := 119) 7 v119 [(8, .int v119), (7, .int y8), (6, .int z0), (0, .ref 233), (1, .int x1), (2, .int x2), (3, .int y3), (4, .int y4)] dX10_pays_119 rfl (by rw [ev119]; rfl) (by decide) rfl ?_
    refine aw_goto (pc := 122) 58 dX10_pays_122 (by decide) ?_
    refine aw_sub (L' := [(0, .ref 233), (1, .int x1), (2, .int x2), (3, .int y3), (4, .int y4), (6, .int z0), (7, .int y8), (8, .int v119)]) [3, 4, 5, 6, 7, 2, 1, 0] rfl ?_
    exact hB58 y3 y4 z0 y8 v119  _ h
def b_X10_pays_58 (x1 : Int32) (x2 : Int32) (B44 : Int32 → Int32 → Int32 → Sg → Prop) (K : Int32 → Sg → Prop) : Nat → Int32 → Int32 → Int32 → Int32 → Int32 → Sg → Prop
  | 0, _, _, _, _, _, _ => False
  | n + 1, y3, y4, y6, y7, y8, σ =>
  wp_X10_clubs  σ <| fun r61_ τ61 => (br (r61_ < y8) (vp_in y6 13 ∧ (br (0 ≤ (τ61 255 y6.toNatClampNeg)) (b_X10_pays_140 x1 x2 B44 K y3 y4 y6 y7 0 τ61) (b_X10_pays_140 x1 x2 B44 K y3 y4 y6 y7 1 τ61))) (vp_in y8 13 ∧ (vp_in y6 13 ∧ (br ((τ61 255 y6.toNatClampNeg) ≤ (τ61 255 y8.toNatClampNeg)) (b_X10_pays_91 x1 x2 B44 (fun y3' y4' y6' y7' y8' τ => b_X10_pays_58 x1 x2 B44 K n y3' y4' y6' y7' y8' τ) K y3 y4 y7 y8 y6 τ61) (b_X10_pays_91 x1 x2 B44 (fun y3' y4' y6' y7' y8' τ => b_X10_pays_58 x1 x2 B44 K n y3' y4' y6' y7' y8' τ) K y3 y4 y7 y8 y8 τ61)))))
set_option maxRecDepth 20000 in
set_option maxHeartbeats 2000000 in
theorem bt_X10_pays_58 (l : Launch) (x1 : Int32) (x2 : Int32) {K : Int32 → Sg → Prop} (B44 : Int32 → Int32 → Int32 → Sg → Prop) (hB44 : ∀ (y3 : Int32) (y4 : Int32) (y5 : Int32)  (τ : Sg), B44 y3 y4 y5 τ → AV l RX10 cX10_pays 9 (some .int) 9 (qI K) 44 [(0, .ref 233), (1, .int x1), (2, .int x2), (3, .int y3), (4, .int y4), (5, .int y5)] [] τ) : ∀ (n : Nat) (y3 : Int32) (y4 : Int32) (y6 : Int32) (y7 : Int32) (y8 : Int32)  (σ : Sg), b_X10_pays_58 x1 x2 B44 K n y3 y4 y6 y7 y8 σ → AV l RX10 cX10_pays 9 (some .int) 9 (qI K) 58 [(0, .ref 233), (1, .int x1), (2, .int x2), (3, .int y3), (4, .int y4), (6, .int y6), (7, .int y7), (8, .int y8)] [] σ := by
  intro n
  induction n with
  | zero => intro y3 y4 y6 y7 y8 σ h; exact h.elim
  | succ n ih =>
    intro y3 y4 y6 y7 y8 σ h
    refine aw_iload (pc := 58) 7 dX10_pays_58 rfl ?_
    refine aw_aload_n (pc := 60) 0 dX10_pays_60 rfl ?_
    refine aw_callV (pc := 61) (As := []) (rest := [.int y8]) kcX10 nn_233 ki_233 rfl (ev_X10_clubs l  h) mfX10_clubs dX10_pays_61 lmX10_384 ⟨Nat.le_refl _, Nat.le_refl _⟩ (by decide) rfl rfl (Nat.le_of_ble_eq_true rfl) (nxI (fun r61_ τ61 h => ?_))
    refine aw_icmp_gt (pc := 64) 125 dX10_pays_64 (by decide) (fun q => ?_) (fun q => ?_)
    · have h := h.1 q
      refine aw_aload_n (pc := 125) 0 dX10_pays_125 rfl ?_
      refine aw_getR (pc := 126) 41 kcX10 dX10_pays_126 lfX10_79 nn_233 ki_233 (by decide) rfl rf_233_41 ?_
      refine aw_iload (pc := 129) 5 dX10_pays_129 rfl ?_
      refine aw_iald (pc := 131) (j := y6.toNatClampNeg) dX10_pays_131 nn_255 ki_255 ln_255 h.1 rfl ?_
      have h := h.2
      refine aw_if_ge (pc := 132) 139 dX10_pays_132 (by decide) (fun q => ?_) (fun q => ?_)
      · have h := h.1 q
        refine aw_iconst (pc := 139) 0 dX10_pays_139 (by decide) ?_
        refine aw_sub (L' := [(0, .ref 233), (1, .int x1), (2, .int x2), (3, .int y3), (4, .int y4), (6, .int y6), (7, .int y7)]) [0, 1, 2, 3, 4, 5, 6] rfl ?_
        exact bt_X10_pays_140 l x1 x2 B44 hB44 y3 y4 y6 y7 0  _ h
      · have h := h.2 q
        refine aw_iconst (pc := 135) 1 dX10_pays_135 (by decide) ?_
        refine aw_goto (pc := 136) 140 dX10_pays_136 (by decide) ?_
        refine aw_sub (L' := [(0, .ref 233), (1, .int x1), (2, .int x2), (3, .int y3), (4, .int y4), (6, .int y6), (7, .int y7)]) [0, 1, 2, 3, 4, 5, 6] rfl ?_
        exact bt_X10_pays_140 l x1 x2 B44 hB44 y3 y4 y6 y7 1  _ h
    · have h := h.2 q
      refine aw_aload_n (pc := 67) 0 dX10_pays_67 rfl ?_
      refine aw_getR (pc := 68) 41 kcX10 dX10_pays_68 lfX10_79 nn_233 ki_233 (by decide) rfl rf_233_41 ?_
      refine aw_iload (pc := 71) 7 dX10_pays_71 rfl ?_
      refine aw_iald (pc := 73) (j := y8.toNatClampNeg) dX10_pays_73 nn_255 ki_255 ln_255 h.1 rfl ?_
      have h := h.2
      refine aw_aload_n (pc := 74) 0 dX10_pays_74 rfl ?_
      refine aw_getR (pc := 75) 41 kcX10 dX10_pays_75 lfX10_79 nn_233 ki_233 (by decide) rfl rf_233_41 ?_
      refine aw_iload (pc := 78) 5 dX10_pays_78 rfl ?_
      refine aw_iald (pc := 80) (j := y6.toNatClampNeg) dX10_pays_80 nn_255 ki_255 ln_255 h.1 rfl ?_
      have h := h.2
      refine aw_icmp_ge (pc := 81) 89 dX10_pays_81 (by decide) (fun q => ?_) (fun q => ?_)
      · have h := h.1 q
        refine aw_iload (pc := 89) 5 dX10_pays_89 rfl ?_
        refine aw_sub (L' := [(0, .ref 233), (1, .int x1), (2, .int x2), (3, .int y3), (4, .int y4), (7, .int y7), (8, .int y8)]) [0, 1, 2, 3, 4, 6, 7] rfl ?_
        exact bt_X10_pays_91 l x1 x2 B44 (fun y3' y4' y6' y7' y8' τ => b_X10_pays_58 x1 x2 B44 K n y3' y4' y6' y7' y8' τ) hB44 (fun y3' y4' y6' y7' y8' τ h => ih y3' y4' y6' y7' y8' τ h) y3 y4 y7 y8 y6  _ h
      · have h := h.2 q
        refine aw_iload (pc := 84) 7 dX10_pays_84 rfl ?_
        refine aw_goto (pc := 86) 91 dX10_pays_86 (by decide) ?_
        refine aw_sub (L' := [(0, .ref 233), (1, .int x1), (2, .int x2), (3, .int y3), (4, .int y4), (7, .int y7), (8, .int y8)]) [0, 1, 2, 3, 4, 6, 7] rfl ?_
        exact bt_X10_pays_91 l x1 x2 B44 (fun y3' y4' y6' y7' y8' τ => b_X10_pays_58 x1 x2 B44 K n y3' y4' y6' y7' y8' τ) hB44 (fun y3' y4' y6' y7' y8' τ h => ih y3' y4' y6' y7' y8' τ h) y3 y4 y7 y8 y8  _ h
def b_X10_pays_44 (x1 : Int32) (x2 : Int32)  (K : Int32 → Sg → Prop) : Nat → Int32 → Int32 → Int32 → Sg → Prop
  | 0, _, _, _, _ => False
  | n + 1, y3, y4, y5, σ =>
  br (y5 = 0) (br (x1 = (-1)) (K y3 σ) (K y4 σ)) (∃ nf, b_X10_pays_58 x1 x2 (fun y3' y4' y5' τ => b_X10_pays_44 x1 x2  K n y3' y4' y5' τ) K nf y3 y4 0 0 1 σ)
set_option maxRecDepth 20000 in
set_option maxHeartbeats 2000000 in
theorem bt_X10_pays_44 (l : Launch) (x1 : Int32) (x2 : Int32) {K : Int32 → Sg → Prop}   : ∀ (n : Nat) (y3 : Int32) (y4 : Int32) (y5 : Int32)  (σ : Sg), b_X10_pays_44 x1 x2  K n y3 y4 y5 σ → AV l RX10 cX10_pays 9 (some .int) 9 (qI K) 44 [(0, .ref 233), (1, .int x1), (2, .int x2), (3, .int y3), (4, .int y4), (5, .int y5)] [] σ := by
  intro n
  induction n with
  | zero => intro y3 y4 y5 σ h; exact h.elim
  | succ n ih =>
    intro y3 y4 y5 σ h
    refine aw_iload (pc := 44) 5 dX10_pays_44 rfl ?_
    refine aw_if_eq (pc := 46) 230 dX10_pays_46 (by decide) (fun q => ?_) (fun q => ?_)
    · have h := h.1 q
      refine aw_iload_n (pc := 230) 1 dX10_pays_230 rfl ?_
      refine aw_iconst (pc := 231) (-1) dX10_pays_231 (by decide) ?_
      refine aw_icmp_ne (pc := 232) 239 dX10_pays_232 (by decide) (fun q => ?_) (fun q => ?_)
      · have h := h.2 q
        refine aw_iload (pc := 239) 4 dX10_pays_239 rfl ?_
        exact aw_iret (pc := 241) rfl dX10_pays_241 ⟨_, rfl, h⟩
      · have h := h.1 q
        refine aw_iload_n (pc := 235) 3 dX10_pays_235 rfl ?_
        refine aw_goto (pc := 236) 241 dX10_pays_236 (by decide) ?_
        exact aw_iret (pc := 241) rfl dX10_pays_241 ⟨_, rfl, h⟩
    · have h := h.2 q
      refine aw_iconst (pc := 49) 0 dX10_pays_49 (by decide) ?_
      refine aw_istore (pc := 50) [(6, .int 0), (0, .ref 233), (1, .int x1), (2, .int x2), (3, .int y3), (4, .int y4), (5, .int y5)] dX10_pays_50 (by decide) rfl ?_
      refine aw_iconst (pc := 52) 0 dX10_pays_52 (by decide) ?_
      refine aw_istore (pc := 53) [(7, .int 0), (6, .int 0), (0, .ref 233), (1, .int x1), (2, .int x2), (3, .int y3), (4, .int y4), (5, .int y5)] dX10_pays_53 (by decide) rfl ?_
      refine aw_iconst (pc := 55) 1 dX10_pays_55 (by decide) ?_
      refine aw_istore (pc := 56) [(8, .int 1), (7, .int 0), (6, .int 0), (0, .ref 233), (1, .int x1), (2, .int x2), (3, .int y3), (4, .int y4), (5, .int y5)] dX10_pays_56 (by decide) rfl ?_
      refine aw_sub (L' := [(0, .ref 233), (1, .int x1), (2, .int x2), (3, .int y3), (4, .int y4), (6, .int 0), (7, .int 0), (8, .int 1)]) [3, 4, 5, 6, 7, 2, 1, 0] rfl ?_
      obtain ⟨nf, h⟩ := h
      exact bt_X10_pays_58 l x1 x2 (fun y3' y4' y5' τ => b_X10_pays_44 x1 x2  K n y3' y4' y5' τ) (fun y3' y4' y5' τ h => ih y3' y4' y5' τ h) nf y3 y4 0 0 1  _ h
def wp_X10_pays (x1 : Int32) (x2 : Int32) (σ : Sg) (K : Int32 → Sg → Prop) : Prop :=
  ∀ τ2 : Sg, τ2 = up σ 233 0 0 → (wp_X10_isTold  τ2 <| fun r6_ τ6 => (br (r6_ = 0) (K (-1) τ6) (wp_X10_within (Int32.toInt64 x2) 0 2 τ6 <| fun r18_ τ18 => (br (r18_ = 0) (K (-1) τ18) (br ((-1) ≤ x1) (wp_X10_layBalances  τ18 <| fun τ32 => (∃ nf, b_X10_pays_44 x1 x2  K nf 0 (-2) 1 τ32)) (K (-1) τ18))))))
set_option maxRecDepth 20000 in
set_option maxHeartbeats 2000000 in
theorem ev_X10_pays (l : Launch) (x1 : Int32) (x2 : Int32) {σ : Sg} {K : Int32 → Sg → Prop} (h : wp_X10_pays x1 x2 σ K) : Ev l yX10_pays cX10_pays 9 (some .int) 9 [.ref 233, .int x1, .int x2] σ (qI K) := by
  refine ev_ov (by decide) (Nat.le_of_ble_eq_true rfl) ?_
  show AV l RX10 cX10_pays 9 (some .int) 9 (qI K) 0 [(0, .ref 233), (1, .int x1), (2, .int x2)] [] σ
  refine aw_aload_n (pc := 0) 0 dX10_pays_0 rfl ?_
  refine aw_iconst (pc := 1) 0 dX10_pays_1 (by decide) ?_
  refine aw_put (pc := 2) 0 kcX10 dX10_pays_2 lfX10_91 nn_233 ki_233 (by decide) rfl rfl rfl rfl ?_
  refine aw_tops (fun τ2 eτ2 => ?_)
  have h := h τ2 eτ2
  refine aw_aload_n (pc := 5) 0 dX10_pays_5 rfl ?_
  refine aw_callV (pc := 6) (As := []) (rest := []) kcX10 nn_233 ki_233 rfl (ev_X10_isTold l  h) mfX10_isTold dX10_pays_6 lmX10_232 ⟨Nat.le_refl _, Nat.le_refl _⟩ (by decide) rfl rfl (Nat.le_of_ble_eq_true rfl) (nxI (fun r6_ τ6 h => ?_))
  refine aw_if_eq (pc := 9) 29 dX10_pays_9 (by decide) (fun q => ?_) (fun q => ?_)
  · have h := h.1 q
    refine aw_iconst (pc := 29) (-1) dX10_pays_29 (by decide) ?_
    exact aw_iret (pc := 30) rfl dX10_pays_30 ⟨_, rfl, h⟩
  · have h := h.2 q
    refine aw_iload_n (pc := 12) 2 dX10_pays_12 rfl ?_
    refine aw_i2l (pc := 13) dX10_pays_13 ?_
    refine aw_lconst (pc := 14) 0 dX10_pays_14 (by decide) ?_
    refine aw_ldc2 (pc := 15) 2 dX10_pays_15 lclX10_299 ?_
    refine aw_callS (pc := 18) (As := [.long (Int32.toInt64 x2), .long 0, .long 2]) (rest := []) (ev_X10_within l (Int32.toInt64 x2) 0 2 h) mfX10_within dX10_pays_18 lmX10_94 ⟨Nat.le_refl _, Nat.le_refl _⟩ (by decide) rfl rfl (Nat.le_of_ble_eq_true rfl) (nxI (fun r18_ τ18 h => ?_))
    refine aw_if_eq (pc := 21) 29 dX10_pays_21 (by decide) (fun q => ?_) (fun q => ?_)
    · have h := h.1 q
      refine aw_iconst (pc := 29) (-1) dX10_pays_29 (by decide) ?_
      exact aw_iret (pc := 30) rfl dX10_pays_30 ⟨_, rfl, h⟩
    · have h := h.2 q
      refine aw_iload_n (pc := 24) 1 dX10_pays_24 rfl ?_
      refine aw_iconst (pc := 25) (-1) dX10_pays_25 (by decide) ?_
      refine aw_icmp_ge (pc := 26) 31 dX10_pays_26 (by decide) (fun q => ?_) (fun q => ?_)
      · have h := h.1 q
        refine aw_aload_n (pc := 31) 0 dX10_pays_31 rfl ?_
        refine aw_callV (pc := 32) (As := []) (rest := []) kcX10 nn_233 ki_233 rfl (ev_X10_layBalances l  h) mfX10_layBalances dX10_pays_32 lmX10_426 ⟨Nat.le_refl _, Nat.le_refl _⟩ (by decide) rfl rfl (Nat.le_of_ble_eq_true rfl) (nxV (fun τ32 h => ?_))
        refine aw_iconst (pc := 35) 0 dX10_pays_35 (by decide) ?_
        refine aw_istore_n (pc := 36) (i := 3) [(3, .int 0), (0, .ref 233), (1, .int x1), (2, .int x2)] dX10_pays_36 rfl (by decide) rfl ?_
        refine aw_bipush (pc := 37) (-2) dX10_pays_37 (by decide) ?_
        refine aw_istore (pc := 39) [(4, .int (-2)), (3, .int 0), (0, .ref 233), (1, .int x1), (2, .int x2)] dX10_pays_39 (by decide) rfl ?_
        refine aw_iconst (pc := 41) 1 dX10_pays_41 (by decide) ?_
        refine aw_istore (pc := 42) [(5, .int 1), (4, .int (-2)), (3, .int 0), (0, .ref 233), (1, .int x1), (2, .int x2)] dX10_pays_42 (by decide) rfl ?_
        refine aw_sub (L' := [(0, .ref 233), (1, .int x1), (2, .int x2), (3, .int 0), (4, .int (-2)), (5, .int 1)]) [3, 4, 5, 2, 1, 0] rfl ?_
        obtain ⟨nf, h⟩ := h
        exact bt_X10_pays_44 l x1 x2   nf 0 (-2) 1  _ h
      · have h := h.2 q
        refine aw_iconst (pc := 29) (-1) dX10_pays_29 (by decide) ?_
        exact aw_iret (pc := 30) rfl dX10_pays_30 ⟨_, rfl, h⟩
def b_X10_mark_24   (K : Int64 → Sg → Prop) : Nat → Int64 → Int32 → Sg → Prop
  | 0, _, _, _ => False
  | n + 1, y1, y3, σ =>
  wp_X10_clubs  σ <| fun r26_ τ26 => (br (r26_ < y3) (K y1 τ26) (vp_in y3 13 ∧ (∀ v45 : Int64, v45 = (y1 * 31) + (Int32.toInt64 (τ26 255 y3.toNatClampNeg)) → (∀ v52 : Int64, v52 = v45 ^^^ ((v45.toUInt64 >>> ((Int32.toInt64 13).toUInt64 &&& Int64.toUInt64 63)).toInt64) → (∀ v53 : Int32, v53 = y3 + 1 → (b_X10_mark_24   K n v52 v53 τ26))))))
set_option maxRecDepth 20000 in
set_option maxHeartbeats 2000000 in
theorem bt_X10_mark_24 (l : Launch)  {K : Int64 → Sg → Prop}   : ∀ (n : Nat) (y1 : Int64) (y3 : Int32)  (σ : Sg), b_X10_mark_24   K n y1 y3 σ → AV l RX10 cX10_mark 4 (some .long) 9 (qL K) 24 [(0, .ref 233), (1, .long y1), (3, .int y3)] [] σ := by
  intro n
  induction n with
  | zero => intro y1 y3 σ h; exact h.elim
  | succ n ih =>
    intro y1 y3 σ h
    refine aw_iload_n (pc := 24) 2 dX10_mark_24 rfl ?_
    refine aw_aload_n (pc := 25) 0 dX10_mark_25 rfl ?_
    refine aw_callV (pc := 26) (As := []) (rest := [.int y3]) kcX10 nn_233 ki_233 rfl (ev_X10_clubs l  h) mfX10_clubs dX10_mark_26 lmX10_384 ⟨Nat.le_refl _, Nat.le_refl _⟩ (by decide) rfl rfl (Nat.le_of_ble_eq_true rfl) (nxI (fun r26_ τ26 h => ?_))
    refine aw_icmp_gt (pc := 29) 59 dX10_mark_29 (by decide) (fun q => ?_) (fun q => ?_)
    · have h := h.1 q
      refine aw_lload_n (pc := 59) 1 dX10_mark_59 rfl ?_
      exact aw_lret (pc := 60) rfl dX10_mark_60 ⟨_, rfl, h⟩
    · have h := h.2 q
      refine aw_lload_n (pc := 32) 1 dX10_mark_32 rfl ?_
      refine aw_ldc2 (pc := 33) 31 dX10_mark_33 lclX10_431 ?_
      refine aw_lmul (pc := 36) dX10_mark_36 ?_
      refine aw_aload_n (pc := 37) 0 dX10_mark_37 rfl ?_
      refine aw_getR (pc := 38) 41 kcX10 dX10_mark_38 lfX10_79 nn_233 ki_233 (by decide) rfl rf_233_41 ?_
      refine aw_iload_n (pc := 41) 2 dX10_mark_41 rfl ?_
      refine aw_iald (pc := 42) (j := y3.toNatClampNeg) dX10_mark_42 nn_255 ki_255 ln_255 h.1 rfl ?_
      have h := h.2
      refine aw_i2l (pc := 43) dX10_mark_43 ?_
      refine aw_ladd (pc := 44) dX10_mark_44 ?_
      refine aw_topl (fun v45 ev45 => ?_)
      have h := h v45 ev45
      refine aw_lstore_n (pc := 45) (i := 1) [(1, .long v45), (0, .ref 233), (3, .int y3)] dX10_mark_45 rfl (by decide) rfl ?_
      refine aw_lload_n (pc := 46) 0 dX10_mark_46 rfl ?_
      refine aw_lload_n (pc := 47) 0 dX10_mark_47 rfl ?_
      refine aw_bipush (pc := 48) 13 dX10_mark_48 (by decide) ?_
      refine aw_lushr (pc := 50) dX10_mark_50 ?_
      refine aw_lxor (pc := 51) dX10_mark_51 ?_
      refine aw_topl (fun v52 ev52 => ?_)
      have h := h v52 ev52
      refine aw_lstore_n (pc := 52) (i := 1) [(1, .long v52), (0, .ref 233), (3, .int y3)] dX10_mark_52 rfl (by decide) rfl ?_
      obtain ⟨v53, ev53⟩ : ∃ v : Int32, v = y3 + 1 := ⟨_, rfl⟩
      have h := h v53 ev53
      refine aw_iinc (pc := 53) 2 v53 [(3, .int v53), (1, .long v52), (0, .ref 233)] dX10_mark_53 rfl (by rw [ev53]; rfl) (by decide) rfl ?_
      refine aw_goto (pc := 56) 24 dX10_mark_56 (by decide) ?_
      refine aw_sub (L' := [(0, .ref 233), (1, .long v52), (3, .int v53)]) [2, 1, 0] rfl ?_
      exact ih v52 v53  _ h
def wp_X10_mark  (σ : Sg) (K : Int64 → Sg → Prop) : Prop :=
  ∀ τ2 : Sg, τ2 = up σ 233 0 0 → (wp_X10_isTold  τ2 <| fun r6_ τ6 => (br (r6_ = 0) (K 0 τ6) (wp_X10_layBalances  τ6 <| fun τ15 => (∃ nf, b_X10_mark_24   K nf 17 0 τ15))))
set_option maxRecDepth 20000 in
set_option maxHeartbeats 2000000 in
theorem ev_X10_mark (l : Launch)  {σ : Sg} {K : Int64 → Sg → Prop} (h : wp_X10_mark  σ K) : Ev l yX10_mark cX10_mark 4 (some .long) 9 [.ref 233] σ (qL K) := by
  refine ev_ov (by decide) (Nat.le_of_ble_eq_true rfl) ?_
  show AV l RX10 cX10_mark 4 (some .long) 9 (qL K) 0 [(0, .ref 233)] [] σ
  refine aw_aload_n (pc := 0) 0 dX10_mark_0 rfl ?_
  refine aw_iconst (pc := 1) 0 dX10_mark_1 (by decide) ?_
  refine aw_put (pc := 2) 0 kcX10 dX10_mark_2 lfX10_91 nn_233 ki_233 (by decide) rfl rfl rfl rfl ?_
  refine aw_tops (fun τ2 eτ2 => ?_)
  have h := h τ2 eτ2
  refine aw_aload_n (pc := 5) 0 dX10_mark_5 rfl ?_
  refine aw_callV (pc := 6) (As := []) (rest := []) kcX10 nn_233 ki_233 rfl (ev_X10_isTold l  h) mfX10_isTold dX10_mark_6 lmX10_232 ⟨Nat.le_refl _, Nat.le_refl _⟩ (by decide) rfl rfl (Nat.le_of_ble_eq_true rfl) (nxI (fun r6_ τ6 h => ?_))
  refine aw_if_ne (pc := 9) 14 dX10_mark_9 (by decide) (fun q => ?_) (fun q => ?_)
  · have h := h.2 q
    refine aw_aload_n (pc := 14) 0 dX10_mark_14 rfl ?_
    refine aw_callV (pc := 15) (As := []) (rest := []) kcX10 nn_233 ki_233 rfl (ev_X10_layBalances l  h) mfX10_layBalances dX10_mark_15 lmX10_426 ⟨Nat.le_refl _, Nat.le_refl _⟩ (by decide) rfl rfl (Nat.le_of_ble_eq_true rfl) (nxV (fun τ15 h => ?_))
    refine aw_ldc2 (pc := 18) 17 dX10_mark_18 lclX10_429 ?_
    refine aw_lstore_n (pc := 21) (i := 1) [(1, .long 17), (0, .ref 233)] dX10_mark_21 rfl (by decide) rfl ?_
    refine aw_iconst (pc := 22) 0 dX10_mark_22 (by decide) ?_
    refine aw_istore_n (pc := 23) (i := 3) [(3, .int 0), (1, .long 17), (0, .ref 233)] dX10_mark_23 rfl (by decide) rfl ?_
    refine aw_sub (L' := [(0, .ref 233), (1, .long 17), (3, .int 0)]) [2, 1, 0] rfl ?_
    obtain ⟨nf, h⟩ := h
    exact bt_X10_mark_24 l    nf 17 0  _ h
  · have h := h.1 q
    refine aw_lconst (pc := 12) 0 dX10_mark_12 (by decide) ?_
    exact aw_lret (pc := 13) rfl dX10_mark_13 ⟨_, rfl, h⟩
def b_X10_metBy_4 (x1 : Int32)  (K : Int32 → Sg → Prop) : Nat → Int32 → Int32 → Sg → Prop
  | 0, _, _, _ => False
  | n + 1, y2, y3, σ =>
  br ((σ 236 0) ≤ y3) (K y2 σ) (wp_X10_ofTie y3 2 σ <| fun r18_ τ18 => (br (r18_ = x1) (wp_X10_ofTie y3 3 τ18 <| fun r29_ τ29 => (∀ v59 : Int32, v59 = y2 ||| (1 <<< (r29_ &&& 31)) → (∀ v60 : Int32, v60 = y3 + 1 → (b_X10_metBy_4 x1  K n v59 v60 τ29)))) (wp_X10_ofTie y3 3 τ18 <| fun r39_ τ39 => (br (r39_ = x1) (wp_X10_ofTie y3 2 τ39 <| fun r50_ τ50 => (∀ v59 : Int32, v59 = y2 ||| (1 <<< (r50_ &&& 31)) → (∀ v60 : Int32, v60 = y3 + 1 → (b_X10_metBy_4 x1  K n v59 v60 τ50)))) (∀ v59 : Int32, v59 = y2 ||| 0 → (∀ v60 : Int32, v60 = y3 + 1 → (b_X10_metBy_4 x1  K n v59 v60 τ39)))))))
set_option maxRecDepth 20000 in
set_option maxHeartbeats 2000000 in
theorem bt_X10_metBy_4 (l : Launch) (x1 : Int32) {K : Int32 → Sg → Prop}   : ∀ (n : Nat) (y2 : Int32) (y3 : Int32)  (σ : Sg), b_X10_metBy_4 x1  K n y2 y3 σ → AV l RX10 cX10_metBy 4 (some .int) 1 (qI K) 4 [(0, .ref 233), (1, .int x1), (2, .int y2), (3, .int y3)] [] σ := by
  intro n
  induction n with
  | zero => intro y2 y3 σ h; exact h.elim
  | succ n ih =>
    intro y2 y3 σ h
    refine aw_iload_n (pc := 4) 3 dX10_metBy_4 rfl ?_
    refine aw_aload_n (pc := 5) 0 dX10_metBy_5 rfl ?_
    refine aw_getR (pc := 6) 3 kcX10 dX10_metBy_6 lfX10_16 nn_233 ki_233 (by decide) rfl rf_233_3 ?_
    refine aw_iconst (pc := 9) 0 dX10_metBy_9 (by decide) ?_
    refine aw_iald (pc := 10) (j := 0) dX10_metBy_10 nn_236 ki_236 ln_236 (show vp_in _ _ by unfold vp_in; decide) (by decide) ?_
    refine aw_icmp_ge (pc := 11) 66 dX10_metBy_11 (by decide) (fun q => ?_) (fun q => ?_)
    · have h := h.1 q
      refine aw_iload_n (pc := 66) 2 dX10_metBy_66 rfl ?_
      exact aw_iret (pc := 67) rfl dX10_metBy_67 ⟨_, rfl, h⟩
    · have h := h.2 q
      refine aw_iload_n (pc := 14) 2 dX10_metBy_14 rfl ?_
      refine aw_aload_n (pc := 15) 0 dX10_metBy_15 rfl ?_
      refine aw_iload_n (pc := 16) 3 dX10_metBy_16 rfl ?_
      refine aw_iconst (pc := 17) 2 dX10_metBy_17 (by decide) ?_
      refine aw_callV (pc := 18) (As := [.int y3, .int 2]) (rest := [.int y2]) kcX10 nn_233 ki_233 rfl (ev_X10_ofTie l y3 2 h) mfX10_ofTie dX10_metBy_18 lmX10_252 ⟨Nat.le_refl _, Nat.le_refl _⟩ (by decide) rfl rfl (Nat.le_of_ble_eq_true rfl) (nxI (fun r18_ τ18 h => ?_))
      refine aw_iload_n (pc := 21) 1 dX10_metBy_21 rfl ?_
      refine aw_icmp_ne (pc := 22) 36 dX10_metBy_22 (by decide) (fun q => ?_) (fun q => ?_)
      · have h := h.2 q
        refine aw_aload_n (pc := 36) 0 dX10_metBy_36 rfl ?_
        refine aw_iload_n (pc := 37) 3 dX10_metBy_37 rfl ?_
        refine aw_iconst (pc := 38) 3 dX10_metBy_38 (by decide) ?_
        refine aw_callV (pc := 39) (As := [.int y3, .int 3]) (rest := [.int y2]) kcX10 nn_233 ki_233 rfl (ev_X10_ofTie l y3 3 h) mfX10_ofTie dX10_metBy_39 lmX10_252 ⟨Nat.le_refl _, Nat.le_refl _⟩ (by decide) rfl rfl (Nat.le_of_ble_eq_true rfl) (nxI (fun r39_ τ39 h => ?_))
        refine aw_iload_n (pc := 42) 1 dX10_metBy_42 rfl ?_
        refine aw_icmp_ne (pc := 43) 57 dX10_metBy_43 (by decide) (fun q => ?_) (fun q => ?_)
        · have h := h.2 q
          refine aw_iconst (pc := 57) 0 dX10_metBy_57 (by decide) ?_
          refine aw_ior (pc := 58) dX10_metBy_58 ?_
          refine aw_topi (fun v59 ev59 => ?_)
          have h := h v59 ev59
          refine aw_istore_n (pc := 59) (i := 2) [(2, .int v59), (0, .ref 233), (1, .int x1), (3, .int y3)] dX10_metBy_59 rfl (by decide) rfl ?_
          obtain ⟨v60, ev60⟩ : ∃ v : Int32, v = y3 + 1 := ⟨_, rfl⟩
          have h := h v60 ev60
          refine aw_iinc (pc := 60) 3 v60 [(3, .int v60), (2, .int v59), (0, .ref 233), (1, .int x1)] dX10_metBy_60 rfl (by rw [ev60]; rfl) (by decide) rfl ?_
          refine aw_goto (pc := 63) 4 dX10_metBy_63 (by decide) ?_
          refine aw_sub (L' := [(0, .ref 233), (1, .int x1), (2, .int v59), (3, .int v60)]) [2, 3, 1, 0] rfl ?_
          exact ih v59 v60  _ h
        · have h := h.1 q
          refine aw_iconst (pc := 46) 1 dX10_metBy_46 (by decide) ?_
          refine aw_aload_n (pc := 47) 0 dX10_metBy_47 rfl ?_
          refine aw_iload_n (pc := 48) 3 dX10_metBy_48 rfl ?_
          refine aw_iconst (pc := 49) 2 dX10_metBy_49 (by decide) ?_
          refine aw_callV (pc := 50) (As := [.int y3, .int 2]) (rest := [.int 1, .int y2]) kcX10 nn_233 ki_233 rfl (ev_X10_ofTie l y3 2 h) mfX10_ofTie dX10_metBy_50 lmX10_252 ⟨Nat.le_refl _, Nat.le_refl _⟩ (by decide) rfl rfl (Nat.le_of_ble_eq_true rfl) (nxI (fun r50_ τ50 h => ?_))
          refine aw_ishl (pc := 53) dX10_metBy_53 ?_
          refine aw_goto (pc := 54) 58 dX10_metBy_54 (by decide) ?_
          refine aw_ior (pc := 58) dX10_metBy_58 ?_
          refine aw_topi (fun v59 ev59 => ?_)
          have h := h v59 ev59
          refine aw_istore_n (pc := 59) (i := 2) [(2, .int v59), (0, .ref 233), (1, .int x1), (3, .int y3)] dX10_metBy_59 rfl (by decide) rfl ?_
          obtain ⟨v60, ev60⟩ : ∃ v : Int32, v = y3 + 1 := ⟨_, rfl⟩
          have h := h v60 ev60
          refine aw_iinc (pc := 60) 3 v60 [(3, .int v60), (2, .int v59), (0, .ref 233), (1, .int x1)] dX10_metBy_60 rfl (by rw [ev60]; rfl) (by decide) rfl ?_
          refine aw_goto (pc := 63) 4 dX10_metBy_63 (by decide) ?_
          refine aw_sub (L' := [(0, .ref 233), (1, .int x1), (2, .int v59), (3, .int v60)]) [2, 3, 1, 0] rfl ?_
          exact ih v59 v60  _ h
      · have h := h.1 q
        refine aw_iconst (pc := 25) 1 dX10_metBy_25 (by decide) ?_
        refine aw_aload_n (pc := 26) 0 dX10_metBy_26 rfl ?_
        refine aw_iload_n (pc := 27) 3 dX10_metBy_27 rfl ?_
        refine aw_iconst (pc := 28) 3 dX10_metBy_28 (by decide) ?_
        refine aw_callV (pc := 29) (As := [.int y3, .int 3]) (rest := [.int 1, .int y2]) kcX10 nn_233 ki_233 rfl (ev_X10_ofTie l y3 3 h) mfX10_ofTie dX10_metBy_29 lmX10_252 ⟨Nat.le_refl _, Nat.le_refl _⟩ (by decide) rfl rfl (Nat.le_of_ble_eq_true rfl) (nxI (fun r29_ τ29 h => ?_))
        refine aw_ishl (pc := 32) dX10_metBy_32 ?_
        refine aw_goto (pc := 33) 58 dX10_metBy_33 (by decide) ?_
        refine aw_ior (pc := 58) dX10_metBy_58 ?_
        refine aw_topi (fun v59 ev59 => ?_)
        have h := h v59 ev59
        refine aw_istore_n (pc := 59) (i := 2) [(2, .int v59), (0, .ref 233), (1, .int x1), (3, .int y3)] dX10_metBy_59 rfl (by decide) rfl ?_
        obtain ⟨v60, ev60⟩ : ∃ v : Int32, v = y3 + 1 := ⟨_, rfl⟩
        have h := h v60 ev60
        refine aw_iinc (pc := 60) 3 v60 [(3, .int v60), (2, .int v59), (0, .ref 233), (1, .int x1)] dX10_metBy_60 rfl (by rw [ev60]; rfl) (by decide) rfl ?_
        refine aw_goto (pc := 63) 4 dX10_metBy_63 (by decide) ?_
        refine aw_sub (L' := [(0, .ref 233), (1, .int x1), (2, .int v59), (3, .int v60)]) [2, 3, 1, 0] rfl ?_
        exact ih v59 v60  _ h
def wp_X10_metBy (x1 : Int32) (σ : Sg) (K : Int32 → Sg → Prop) : Prop :=
  ∃ nf, b_X10_metBy_4 x1  K nf 0 0 σ
set_option maxRecDepth 20000 in
set_option maxHeartbeats 2000000 in
theorem ev_X10_metBy (l : Launch) (x1 : Int32) {σ : Sg} {K : Int32 → Sg → Prop} (h : wp_X10_metBy x1 σ K) : Ev l yX10_metBy cX10_metBy 4 (some .int) 1 [.ref 233, .int x1] σ (qI K) := by
  refine ev_ov (by decide) (Nat.le_of_ble_eq_true rfl) ?_
  show AV l RX10 cX10_metBy 4 (some .int) 1 (qI K) 0 [(0, .ref 233), (1, .int x1)] [] σ
  refine aw_iconst (pc := 0) 0 dX10_metBy_0 (by decide) ?_
  refine aw_istore_n (pc := 1) (i := 2) [(2, .int 0), (0, .ref 233), (1, .int x1)] dX10_metBy_1 rfl (by decide) rfl ?_
  refine aw_iconst (pc := 2) 0 dX10_metBy_2 (by decide) ?_
  refine aw_istore_n (pc := 3) (i := 3) [(3, .int 0), (2, .int 0), (0, .ref 233), (1, .int x1)] dX10_metBy_3 rfl (by decide) rfl ?_
  refine aw_sub (L' := [(0, .ref 233), (1, .int x1), (2, .int 0), (3, .int 0)]) [2, 3, 1, 0] rfl ?_
  obtain ⟨nf, h⟩ := h
  exact bt_X10_metBy_4 l x1   nf 0 0  _ h
def wp_X10_met (x1 : Int32) (σ : Sg) (K : Int32 → Sg → Prop) : Prop :=
  ∀ τ2 : Sg, τ2 = up σ 233 0 0 → (wp_X10_isClub x1 τ2 <| fun r7_ τ7 => (br (r7_ = 0) (K (-1) τ7) (wp_X10_metBy x1 τ7 <| fun r15_ τ15 => (K r15_ τ15))))
set_option maxRecDepth 20000 in
set_option maxHeartbeats 2000000 in
theorem ev_X10_met (l : Launch) (x1 : Int32) {σ : Sg} {K : Int32 → Sg → Prop} (h : wp_X10_met x1 σ K) : Ev l yX10_met cX10_met 2 (some .int) 2 [.ref 233, .int x1] σ (qI K) := by
  refine ev_ov (by decide) (Nat.le_of_ble_eq_true rfl) ?_
  show AV l RX10 cX10_met 2 (some .int) 2 (qI K) 0 [(0, .ref 233), (1, .int x1)] [] σ
  refine aw_aload_n (pc := 0) 0 dX10_met_0 rfl ?_
  refine aw_iconst (pc := 1) 0 dX10_met_1 (by decide) ?_
  refine aw_put (pc := 2) 0 kcX10 dX10_met_2 lfX10_91 nn_233 ki_233 (by decide) rfl rfl rfl rfl ?_
  refine aw_tops (fun τ2 eτ2 => ?_)
  have h := h τ2 eτ2
  refine aw_aload_n (pc := 5) 0 dX10_met_5 rfl ?_
  refine aw_iload_n (pc := 6) 1 dX10_met_6 rfl ?_
  refine aw_callV (pc := 7) (As := [.int x1]) (rest := []) kcX10 nn_233 ki_233 rfl (ev_X10_isClub l x1 h) mfX10_isClub dX10_met_7 lmX10_284 ⟨Nat.le_refl _, Nat.le_refl _⟩ (by decide) rfl rfl (Nat.le_of_ble_eq_true rfl) (nxI (fun r7_ τ7 h => ?_))
  refine aw_if_eq (pc := 10) 21 dX10_met_10 (by decide) (fun q => ?_) (fun q => ?_)
  · have h := h.1 q
    refine aw_iconst (pc := 21) (-1) dX10_met_21 (by decide) ?_
    exact aw_iret (pc := 22) rfl dX10_met_22 ⟨_, rfl, h⟩
  · have h := h.2 q
    refine aw_aload_n (pc := 13) 0 dX10_met_13 rfl ?_
    refine aw_iload_n (pc := 14) 1 dX10_met_14 rfl ?_
    refine aw_callV (pc := 15) (As := [.int x1]) (rest := []) kcX10 nn_233 ki_233 rfl (ev_X10_metBy l x1 h) mfX10_metBy dX10_met_15 lmX10_433 ⟨Nat.le_refl _, Nat.le_refl _⟩ (by decide) rfl rfl (Nat.le_of_ble_eq_true rfl) (nxI (fun r15_ τ15 h => ?_))
    refine aw_goto (pc := 18) 22 dX10_met_18 (by decide) ?_
    exact aw_iret (pc := 22) rfl dX10_met_22 ⟨_, rfl, h⟩
def b_X10_spread_4 (x1 : Int32)  (K : Int32 → Sg → Prop) : Nat → Int32 → Int32 → Sg → Prop
  | 0, _, _, _ => False
  | n + 1, y2, y3, σ =>
  wp_X10_clubs  σ <| fun r6_ τ6 => (br (r6_ ≤ y3) (K y2 τ6) (br (((x1 >>> (y3 &&& 31)) &&& 1) = 1) (wp_X10_metBy y3 τ6 <| fun r24_ τ24 => (∀ v32 : Int32, v32 = y2 ||| r24_ → (∀ v33 : Int32, v33 = y3 + 1 → (b_X10_spread_4 x1  K n v32 v33 τ24)))) (∀ v32 : Int32, v32 = y2 ||| 0 → (∀ v33 : Int32, v33 = y3 + 1 → (b_X10_spread_4 x1  K n v32 v33 τ6)))))
set_option maxRecDepth 20000 in
set_option maxHeartbeats 2000000 in
theorem bt_X10_spread_4 (l : Launch) (x1 : Int32) {K : Int32 → Sg → Prop}   : ∀ (n : Nat) (y2 : Int32) (y3 : Int32)  (σ : Sg), b_X10_spread_4 x1  K n y2 y3 σ → AV l RX10 cX10_spread 4 (some .int) 2 (qI K) 4 [(0, .ref 233), (1, .int x1), (2, .int y2), (3, .int y3)] [] σ := by
  intro n
  induction n with
  | zero => intro y2 y3 σ h; exact h.elim
  | succ n ih =>
    intro y2 y3 σ h
    refine aw_iload_n (pc := 4) 3 dX10_spread_4 rfl ?_
    refine aw_aload_n (pc := 5) 0 dX10_spread_5 rfl ?_
    refine aw_callV (pc := 6) (As := []) (rest := [.int y3]) kcX10 nn_233 ki_233 rfl (ev_X10_clubs l  h) mfX10_clubs dX10_spread_6 lmX10_384 ⟨Nat.le_refl _, Nat.le_refl _⟩ (by decide) rfl rfl (Nat.le_of_ble_eq_true rfl) (nxI (fun r6_ τ6 h => ?_))
    refine aw_icmp_ge (pc := 9) 39 dX10_spread_9 (by decide) (fun q => ?_) (fun q => ?_)
    · have h := h.1 q
      refine aw_iload_n (pc := 39) 2 dX10_spread_39 rfl ?_
      exact aw_iret (pc := 40) rfl dX10_spread_40 ⟨_, rfl, h⟩
    · have h := h.2 q
      refine aw_iload_n (pc := 12) 2 dX10_spread_12 rfl ?_
      refine aw_iload_n (pc := 13) 1 dX10_spread_13 rfl ?_
      refine aw_iload_n (pc := 14) 3 dX10_spread_14 rfl ?_
      refine aw_ishr (pc := 15) dX10_spread_15 ?_
      refine aw_iconst (pc := 16) 1 dX10_spread_16 (by decide) ?_
      refine aw_iand (pc := 17) dX10_spread_17 ?_
      refine aw_iconst (pc := 18) 1 dX10_spread_18 (by decide) ?_
      refine aw_icmp_ne (pc := 19) 30 dX10_spread_19 (by decide) (fun q => ?_) (fun q => ?_)
      · have h := h.2 q
        refine aw_iconst (pc := 30) 0 dX10_spread_30 (by decide) ?_
        refine aw_ior (pc := 31) dX10_spread_31 ?_
        refine aw_topi (fun v32 ev32 => ?_)
        have h := h v32 ev32
        refine aw_istore_n (pc := 32) (i := 2) [(2, .int v32), (0, .ref 233), (1, .int x1), (3, .int y3)] dX10_spread_32 rfl (by decide) rfl ?_
        obtain ⟨v33, ev33⟩ : ∃ v : Int32, v = y3 + 1 := ⟨_, rfl⟩
        have h := h v33 ev33
        refine aw_iinc (pc := 33) 3 v33 [(3, .int v33), (2, .int v32), (0, .ref 233), (1, .int x1)] dX10_spread_33 rfl (by rw [ev33]; rfl) (by decide) rfl ?_
        refine aw_goto (pc := 36) 4 dX10_spread_36 (by decide) ?_
        refine aw_sub (L' := [(0, .ref 233), (1, .int x1), (2, .int v32), (3, .int v33)]) [2, 3, 1, 0] rfl ?_
        exact ih v32 v33  _ h
      · have h := h.1 q
        refine aw_aload_n (pc := 22) 0 dX10_spread_22 rfl ?_
        refine aw_iload_n (pc := 23) 3 dX10_spread_23 rfl ?_
        refine aw_callV (pc := 24) (As := [.int y3]) (rest := [.int y2]) kcX10 nn_233 ki_233 rfl (ev_X10_metBy l y3 h) mfX10_metBy dX10_spread_24 lmX10_433 ⟨Nat.le_refl _, Nat.le_refl _⟩ (by decide) rfl rfl (Nat.le_of_ble_eq_true rfl) (nxI (fun r24_ τ24 h => ?_))
        refine aw_goto (pc := 27) 31 dX10_spread_27 (by decide) ?_
        refine aw_ior (pc := 31) dX10_spread_31 ?_
        refine aw_topi (fun v32 ev32 => ?_)
        have h := h v32 ev32
        refine aw_istore_n (pc := 32) (i := 2) [(2, .int v32), (0, .ref 233), (1, .int x1), (3, .int y3)] dX10_spread_32 rfl (by decide) rfl ?_
        obtain ⟨v33, ev33⟩ : ∃ v : Int32, v = y3 + 1 := ⟨_, rfl⟩
        have h := h v33 ev33
        refine aw_iinc (pc := 33) 3 v33 [(3, .int v33), (2, .int v32), (0, .ref 233), (1, .int x1)] dX10_spread_33 rfl (by rw [ev33]; rfl) (by decide) rfl ?_
        refine aw_goto (pc := 36) 4 dX10_spread_36 (by decide) ?_
        refine aw_sub (L' := [(0, .ref 233), (1, .int x1), (2, .int v32), (3, .int v33)]) [2, 3, 1, 0] rfl ?_
        exact ih v32 v33  _ h
def wp_X10_spread (x1 : Int32) (σ : Sg) (K : Int32 → Sg → Prop) : Prop :=
  ∃ nf, b_X10_spread_4 x1  K nf x1 0 σ
set_option maxRecDepth 20000 in
set_option maxHeartbeats 2000000 in
theorem ev_X10_spread (l : Launch) (x1 : Int32) {σ : Sg} {K : Int32 → Sg → Prop} (h : wp_X10_spread x1 σ K) : Ev l yX10_spread cX10_spread 4 (some .int) 2 [.ref 233, .int x1] σ (qI K) := by
  refine ev_ov (by decide) (Nat.le_of_ble_eq_true rfl) ?_
  show AV l RX10 cX10_spread 4 (some .int) 2 (qI K) 0 [(0, .ref 233), (1, .int x1)] [] σ
  refine aw_iload_n (pc := 0) 1 dX10_spread_0 rfl ?_
  refine aw_istore_n (pc := 1) (i := 2) [(2, .int x1), (0, .ref 233), (1, .int x1)] dX10_spread_1 rfl (by decide) rfl ?_
  refine aw_iconst (pc := 2) 0 dX10_spread_2 (by decide) ?_
  refine aw_istore_n (pc := 3) (i := 3) [(3, .int 0), (2, .int x1), (0, .ref 233), (1, .int x1)] dX10_spread_3 rfl (by decide) rfl ?_
  refine aw_sub (L' := [(0, .ref 233), (1, .int x1), (2, .int x1), (3, .int 0)]) [2, 3, 1, 0] rfl ?_
  obtain ⟨nf, h⟩ := h
  exact bt_X10_spread_4 l x1   nf x1 0  _ h
def b_X10_chain_30 (x1 : Int32) (x2 : Int32)  (K : Int32 → Sg → Prop) : Nat → Int32 → Int32 → Sg → Prop
  | 0, _, _, _ => False
  | n + 1, y3, y4, σ =>
  br (12 ≤ y4) (K (-2) σ) (br (((y3 >>> (x2 &&& 31)) &&& 1) = 1) (K y4 σ) (wp_X10_spread y3 σ <| fun r51_ τ51 => (∀ v55 : Int32, v55 = y4 + 1 → (b_X10_chain_30 x1 x2  K n r51_ v55 τ51))))
set_option maxRecDepth 20000 in
set_option maxHeartbeats 2000000 in
theorem bt_X10_chain_30 (l : Launch) (x1 : Int32) (x2 : Int32) {K : Int32 → Sg → Prop}   : ∀ (n : Nat) (y3 : Int32) (y4 : Int32)  (σ : Sg), b_X10_chain_30 x1 x2  K n y3 y4 σ → AV l RX10 cX10_chain 5 (some .int) 3 (qI K) 30 [(0, .ref 233), (2, .int x2), (3, .int y3), (4, .int y4)] [] σ := by
  intro n
  induction n with
  | zero => intro y3 y4 σ h; exact h.elim
  | succ n ih =>
    intro y3 y4 σ h
    refine aw_iload (pc := 30) 3 dX10_chain_30 rfl ?_
    refine aw_bipush (pc := 32) 12 dX10_chain_32 (by decide) ?_
    refine aw_icmp_ge (pc := 34) 61 dX10_chain_34 (by decide) (fun q => ?_) (fun q => ?_)
    · have h := h.1 q
      refine aw_bipush (pc := 61) (-2) dX10_chain_61 (by decide) ?_
      exact aw_iret (pc := 63) rfl dX10_chain_63 ⟨_, rfl, h⟩
    · have h := h.2 q
      refine aw_iload_n (pc := 37) 2 dX10_chain_37 rfl ?_
      refine aw_iload_n (pc := 38) 1 dX10_chain_38 rfl ?_
      refine aw_ishr (pc := 39) dX10_chain_39 ?_
      refine aw_iconst (pc := 40) 1 dX10_chain_40 (by decide) ?_
      refine aw_iand (pc := 41) dX10_chain_41 ?_
      refine aw_iconst (pc := 42) 1 dX10_chain_42 (by decide) ?_
      refine aw_icmp_ne (pc := 43) 49 dX10_chain_43 (by decide) (fun q => ?_) (fun q => ?_)
      · have h := h.2 q
        refine aw_aload_n (pc := 49) 0 dX10_chain_49 rfl ?_
        refine aw_iload_n (pc := 50) 2 dX10_chain_50 rfl ?_
        refine aw_callV (pc := 51) (As := [.int y3]) (rest := []) kcX10 nn_233 ki_233 rfl (ev_X10_spread l y3 h) mfX10_spread dX10_chain_51 lmX10_436 ⟨Nat.le_refl _, Nat.le_refl _⟩ (by decide) rfl rfl (Nat.le_of_ble_eq_true rfl) (nxI (fun r51_ τ51 h => ?_))
        refine aw_istore_n (pc := 54) (i := 3) [(3, .int r51_), (0, .ref 233), (2, .int x2), (4, .int y4)] dX10_chain_54 rfl (by decide) rfl ?_
        obtain ⟨v55, ev55⟩ : ∃ v : Int32, v = y4 + 1 := ⟨_, rfl⟩
        have h := h v55 ev55
        refine aw_iinc (pc := 55) 3 v55 [(4, .int v55), (3, .int r51_), (0, .ref 233), (2, .int x2)] dX10_chain_55 rfl (by rw [ev55]; rfl) (by decide) rfl ?_
        refine aw_goto (pc := 58) 30 dX10_chain_58 (by decide) ?_
        refine aw_sub (L' := [(0, .ref 233), (2, .int x2), (3, .int r51_), (4, .int v55)]) [2, 3, 1, 0] rfl ?_
        exact ih r51_ v55  _ h
      · have h := h.1 q
        refine aw_iload (pc := 46) 3 dX10_chain_46 rfl ?_
        exact aw_iret (pc := 48) rfl dX10_chain_48 ⟨_, rfl, h⟩
def wp_X10_chain (x1 : Int32) (x2 : Int32) (σ : Sg) (K : Int32 → Sg → Prop) : Prop :=
  ∀ τ2 : Sg, τ2 = up σ 233 0 0 → (wp_X10_isClub x1 τ2 <| fun r7_ τ7 => (br (r7_ = 0) (K (-1) τ7) (wp_X10_isClub x2 τ7 <| fun r15_ τ15 => (br (r15_ = 0) (K (-1) τ15) (∀ v26 : Int32, v26 = 1 <<< (x1 &&& 31) → (∃ nf, b_X10_chain_30 x1 x2  K nf v26 0 τ15))))))
set_option maxRecDepth 20000 in
set_option maxHeartbeats 2000000 in
theorem ev_X10_chain (l : Launch) (x1 : Int32) (x2 : Int32) {σ : Sg} {K : Int32 → Sg → Prop} (h : wp_X10_chain x1 x2 σ K) : Ev l yX10_chain cX10_chain 5 (some .int) 3 [.ref 233, .int x1, .int x2] σ (qI K) := by
  refine ev_ov (by decide) (Nat.le_of_ble_eq_true rfl) ?_
  show AV l RX10 cX10_chain 5 (some .int) 3 (qI K) 0 [(0, .ref 233), (1, .int x1), (2, .int x2)] [] σ
  refine aw_aload_n (pc := 0) 0 dX10_chain_0 rfl ?_
  refine aw_iconst (pc := 1) 0 dX10_chain_1 (by decide) ?_
  refine aw_put (pc := 2) 0 kcX10 dX10_chain_2 lfX10_91 nn_233 ki_233 (by decide) rfl rfl rfl rfl ?_
  refine aw_tops (fun τ2 eτ2 => ?_)
  have h := h τ2 eτ2
  refine aw_aload_n (pc := 5) 0 dX10_chain_5 rfl ?_
  refine aw_iload_n (pc := 6) 1 dX10_chain_6 rfl ?_
  refine aw_callV (pc := 7) (As := [.int x1]) (rest := []) kcX10 nn_233 ki_233 rfl (ev_X10_isClub l x1 h) mfX10_isClub dX10_chain_7 lmX10_284 ⟨Nat.le_refl _, Nat.le_refl _⟩ (by decide) rfl rfl (Nat.le_of_ble_eq_true rfl) (nxI (fun r7_ τ7 h => ?_))
  refine aw_if_eq (pc := 10) 21 dX10_chain_10 (by decide) (fun q => ?_) (fun q => ?_)
  · have h := h.1 q
    refine aw_iconst (pc := 21) (-1) dX10_chain_21 (by decide) ?_
    exact aw_iret (pc := 22) rfl dX10_chain_22 ⟨_, rfl, h⟩
  · have h := h.2 q
    refine aw_aload_n (pc := 13) 0 dX10_chain_13 rfl ?_
    refine aw_iload_n (pc := 14) 2 dX10_chain_14 rfl ?_
    refine aw_callV (pc := 15) (As := [.int x2]) (rest := []) kcX10 nn_233 ki_233 rfl (ev_X10_isClub l x2 h) mfX10_isClub dX10_chain_15 lmX10_284 ⟨Nat.le_refl _, Nat.le_refl _⟩ (by decide) rfl rfl (Nat.le_of_ble_eq_true rfl) (nxI (fun r15_ τ15 h => ?_))
    refine aw_if_ne (pc := 18) 23 dX10_chain_18 (by decide) (fun q => ?_) (fun q => ?_)
    · have h := h.2 q
      refine aw_iconst (pc := 23) 1 dX10_chain_23 (by decide) ?_
      refine aw_iload_n (pc := 24) 1 dX10_chain_24 rfl ?_
      refine aw_ishl (pc := 25) dX10_chain_25 ?_
      refine aw_topi (fun v26 ev26 => ?_)
      have h := h v26 ev26
      refine aw_istore_n (pc := 26) (i := 3) [(3, .int v26), (0, .ref 233), (1, .int x1), (2, .int x2)] dX10_chain_26 rfl (by decide) rfl ?_
      refine aw_iconst (pc := 27) 0 dX10_chain_27 (by decide) ?_
      refine aw_istore (pc := 28) [(4, .int 0), (3, .int v26), (0, .ref 233), (1, .int x1), (2, .int x2)] dX10_chain_28 (by decide) rfl ?_
      refine aw_sub (L' := [(0, .ref 233), (2, .int x2), (3, .int v26), (4, .int 0)]) [2, 4, 1, 0] rfl ?_
      obtain ⟨nf, h⟩ := h
      exact bt_X10_chain_30 l x1 x2   nf v26 0  _ h
    · have h := h.1 q
      refine aw_iconst (pc := 21) (-1) dX10_chain_21 (by decide) ?_
      exact aw_iret (pc := 22) rfl dX10_chain_22 ⟨_, rfl, h⟩
def b_X10_in_22 (x1 : Int32)  (K : Int32 → Sg → Prop) : Nat → Int32 → Int32 → Int32 → Sg → Prop
  | 0, _, _, _, _ => False
  | n + 1, y2, y3, y4, σ =>
  br ((σ 236 0) ≤ y4) (K (y2 &&& (y3 ^^^ (-1))) σ) (wp_X10_ofTie y4 0 σ <| fun r37_ τ37 => (br (r37_ = x1) (wp_X10_ofTie y4 2 τ37 <| fun r50_ τ50 => (wp_X10_ofTie y4 3 τ50 <| fun r59_ τ59 => (∀ v65 : Int32, v65 = y2 ||| ((1 <<< (r50_ &&& 31)) ||| (1 <<< (r59_ &&& 31))) → (wp_X10_isDecided y4 τ59 <| fun r70_ τ70 => (br (r70_ = 0) (∀ v89 : Int32, v89 = y3 ||| 0 → (∀ v90 : Int32, v90 = y4 + 1 → (b_X10_in_22 x1  K n v65 v89 v90 τ70))) (wp_X10_loser y4 τ70 <| fun r80_ τ80 => (∀ v89 : Int32, v89 = y3 ||| (1 <<< (r80_ &&& 31)) → (∀ v90 : Int32, v90 = y4 + 1 → (b_X10_in_22 x1  K n v65 v89 v90 τ80))))))))) (∀ v90 : Int32, v90 = y4 + 1 → (b_X10_in_22 x1  K n y2 y3 v90 τ37))))
set_option maxRecDepth 20000 in
set_option maxHeartbeats 2000000 in
theorem bt_X10_in_22 (l : Launch) (x1 : Int32) {K : Int32 → Sg → Prop}   : ∀ (n : Nat) (y2 : Int32) (y3 : Int32) (y4 : Int32)  (σ : Sg), b_X10_in_22 x1  K n y2 y3 y4 σ → AV l RX10 cX10_in 5 (some .int) 4 (qI K) 22 [(0, .ref 233), (1, .int x1), (2, .int y2), (3, .int y3), (4, .int y4)] [] σ := by
  intro n
  induction n with
  | zero => intro y2 y3 y4 σ h; exact h.elim
  | succ n ih =>
    intro y2 y3 y4 σ h
    refine aw_iload (pc := 22) 4 dX10_in_22 rfl ?_
    refine aw_aload_n (pc := 24) 0 dX10_in_24 rfl ?_
    refine aw_getR (pc := 25) 3 kcX10 dX10_in_25 lfX10_16 nn_233 ki_233 (by decide) rfl rf_233_3 ?_
    refine aw_iconst (pc := 28) 0 dX10_in_28 (by decide) ?_
    refine aw_iald (pc := 29) (j := 0) dX10_in_29 nn_236 ki_236 ln_236 (show vp_in _ _ by unfold vp_in; decide) (by decide) ?_
    refine aw_icmp_ge (pc := 30) 96 dX10_in_30 (by decide) (fun q => ?_) (fun q => ?_)
    · have h := h.1 q
      refine aw_iload_n (pc := 96) 2 dX10_in_96 rfl ?_
      refine aw_iload_n (pc := 97) 3 dX10_in_97 rfl ?_
      refine aw_iconst (pc := 98) (-1) dX10_in_98 (by decide) ?_
      refine aw_ixor (pc := 99) dX10_in_99 ?_
      refine aw_iand (pc := 100) dX10_in_100 ?_
      exact aw_iret (pc := 101) rfl dX10_in_101 ⟨_, rfl, h⟩
    · have h := h.2 q
      refine aw_aload_n (pc := 33) 0 dX10_in_33 rfl ?_
      refine aw_iload (pc := 34) 4 dX10_in_34 rfl ?_
      refine aw_iconst (pc := 36) 0 dX10_in_36 (by decide) ?_
      refine aw_callV (pc := 37) (As := [.int y4, .int 0]) (rest := []) kcX10 nn_233 ki_233 rfl (ev_X10_ofTie l y4 0 h) mfX10_ofTie dX10_in_37 lmX10_252 ⟨Nat.le_refl _, Nat.le_refl _⟩ (by decide) rfl rfl (Nat.le_of_ble_eq_true rfl) (nxI (fun r37_ τ37 h => ?_))
      refine aw_iload_n (pc := 40) 1 dX10_in_40 rfl ?_
      refine aw_icmp_ne (pc := 41) 90 dX10_in_41 (by decide) (fun q => ?_) (fun q => ?_)
      · have h := h.2 q
        obtain ⟨v90, ev90⟩ : ∃ v : Int32, v = y4 + 1 := ⟨_, rfl⟩
        have h := h v90 ev90
        refine aw_iinc (pc := 90) 4 v90 [(4, .int v90), (0, .ref 233), (1, .int x1), (2, .int y2), (3, .int y3)] dX10_in_90 rfl (by rw [ev90]; rfl) (by decide) rfl ?_
        refine aw_goto (pc := 93) 22 dX10_in_93 (by decide) ?_
        refine aw_sub (L' := [(0, .ref 233), (1, .int x1), (2, .int y2), (3, .int y3), (4, .int v90)]) [1, 2, 3, 4, 0] rfl ?_
        exact ih y2 y3 v90  _ h
      · have h := h.1 q
        refine aw_iload_n (pc := 44) 2 dX10_in_44 rfl ?_
        refine aw_iconst (pc := 45) 1 dX10_in_45 (by decide) ?_
        refine aw_aload_n (pc := 46) 0 dX10_in_46 rfl ?_
        refine aw_iload (pc := 47) 4 dX10_in_47 rfl ?_
        refine aw_iconst (pc := 49) 2 dX10_in_49 (by decide) ?_
        refine aw_callV (pc := 50) (As := [.int y4, .int 2]) (rest := [.int 1, .int y2]) kcX10 nn_233 ki_233 rfl (ev_X10_ofTie l y4 2 h) mfX10_ofTie dX10_in_50 lmX10_252 ⟨Nat.le_refl _, Nat.le_refl _⟩ (by decide) rfl rfl (Nat.le_of_ble_eq_true rfl) (nxI (fun r50_ τ50 h => ?_))
        refine aw_ishl (pc := 53) dX10_in_53 ?_
        refine aw_iconst (pc := 54) 1 dX10_in_54 (by decide) ?_
        refine aw_aload_n (pc := 55) 0 dX10_in_55 rfl ?_
        refine aw_iload (pc := 56) 4 dX10_in_56 rfl ?_
        refine aw_iconst (pc := 58) 3 dX10_in_58 (by decide) ?_
        refine aw_callV (pc := 59) (As := [.int y4, .int 3]) (rest := [.int 1, .int (1 <<< (r50_ &&& 31)), .int y2]) kcX10 nn_233 ki_233 rfl (ev_X10_ofTie l y4 3 h) mfX10_ofTie dX10_in_59 lmX10_252 ⟨Nat.le_refl _, Nat.le_refl _⟩ (by decide) rfl rfl (Nat.le_of_ble_eq_true rfl) (nxI (fun r59_ τ59 h => ?_))
        refine aw_ishl (pc := 62) dX10_in_62 ?_
        refine aw_ior (pc := 63) dX10_in_63 ?_
        refine aw_ior (pc := 64) dX10_in_64 ?_
        refine aw_topi (fun v65 ev65 => ?_)
        have h := h v65 ev65
        refine aw_istore_n (pc := 65) (i := 2) [(2, .int v65), (0, .ref 233), (1, .int x1), (3, .int y3), (4, .int y4)] dX10_in_65 rfl (by decide) rfl ?_
        refine aw_iload_n (pc := 66) 3 dX10_in_66 rfl ?_
        refine aw_aload_n (pc := 67) 1 dX10_in_67 rfl ?_
        refine aw_iload (pc := 68) 4 dX10_in_68 rfl ?_
        refine aw_callV (pc := 70) (As := [.int y4]) (rest := [.int y3]) kcX10 nn_233 ki_233 rfl (ev_X10_isDecided l y4 h) mfX10_isDecided dX10_in_70 lmX10_261 ⟨Nat.le_refl _, Nat.le_refl _⟩ (by decide) rfl rfl (Nat.le_of_ble_eq_true rfl) (nxI (fun r70_ τ70 h => ?_))
        refine aw_if_eq (pc := 73) 87 dX10_in_73 (by decide) (fun q => ?_) (fun q => ?_)
        · have h := h.1 q
          refine aw_iconst (pc := 87) 0 dX10_in_87 (by decide) ?_
          refine aw_ior (pc := 88) dX10_in_88 ?_
          refine aw_topi (fun v89 ev89 => ?_)
          have h := h v89 ev89
          refine aw_istore_n (pc := 89) (i := 3) [(3, .int v89), (2, .int v65), (0, .ref 233), (1, .int x1), (4, .int y4)] dX10_in_89 rfl (by decide) rfl ?_
          obtain ⟨v90, ev90⟩ : ∃ v : Int32, v = y4 + 1 := ⟨_, rfl⟩
          have h := h v90 ev90
          refine aw_iinc (pc := 90) 4 v90 [(4, .int v90), (3, .int v89), (2, .int v65), (0, .ref 233), (1, .int x1)] dX10_in_90 rfl (by rw [ev90]; rfl) (by decide) rfl ?_
          refine aw_goto (pc := 93) 22 dX10_in_93 (by decide) ?_
          refine aw_sub (L' := [(0, .ref 233), (1, .int x1), (2, .int v65), (3, .int v89), (4, .int v90)]) [3, 4, 2, 1, 0] rfl ?_
          exact ih v65 v89 v90  _ h
        · have h := h.2 q
          refine aw_iconst (pc := 76) 1 dX10_in_76 (by decide) ?_
          refine aw_aload_n (pc := 77) 1 dX10_in_77 rfl ?_
          refine aw_iload (pc := 78) 4 dX10_in_78 rfl ?_
          refine aw_callV (pc := 80) (As := [.int y4]) (rest := [.int 1, .int y3]) kcX10 nn_233 ki_233 rfl (ev_X10_loser l y4 h) mfX10_loser dX10_in_80 lmX10_369 ⟨Nat.le_refl _, Nat.le_refl _⟩ (by decide) rfl rfl (Nat.le_of_ble_eq_true rfl) (nxI (fun r80_ τ80 h => ?_))
          refine aw_ishl (pc := 83) dX10_in_83 ?_
          refine aw_goto (pc := 84) 88 dX10_in_84 (by decide) ?_
          refine aw_ior (pc := 88) dX10_in_88 ?_
          refine aw_topi (fun v89 ev89 => ?_)
          have h := h v89 ev89
          refine aw_istore_n (pc := 89) (i := 3) [(3, .int v89), (2, .int v65), (0, .ref 233), (1, .int x1), (4, .int y4)] dX10_in_89 rfl (by decide) rfl ?_
          obtain ⟨v90, ev90⟩ : ∃ v : Int32, v = y4 + 1 := ⟨_, rfl⟩
          have h := h v90 ev90
          refine aw_iinc (pc := 90) 4 v90 [(4, .int v90), (3, .int v89), (2, .int v65), (0, .ref 233), (1, .int x1)] dX10_in_90 rfl (by rw [ev90]; rfl) (by decide) rfl ?_
          refine aw_goto (pc := 93) 22 dX10_in_93 (by decide) ?_
          refine aw_sub (L' := [(0, .ref 233), (1, .int x1), (2, .int v65), (3, .int v89), (4, .int v90)]) [3, 4, 2, 1, 0] rfl ?_
          exact ih v65 v89 v90  _ h
def wp_X10_in (x1 : Int32) (σ : Sg) (K : Int32 → Sg → Prop) : Prop :=
  ∀ τ2 : Sg, τ2 = up σ 233 0 0 → (wp_X10_isCup x1 τ2 <| fun r7_ τ7 => (br (r7_ = 0) (K (-1) τ7) (∃ nf, b_X10_in_22 x1  K nf 0 0 0 τ7)))
set_option maxRecDepth 20000 in
set_option maxHeartbeats 2000000 in
theorem ev_X10_in (l : Launch) (x1 : Int32) {σ : Sg} {K : Int32 → Sg → Prop} (h : wp_X10_in x1 σ K) : Ev l yX10_in cX10_in 5 (some .int) 4 [.ref 233, .int x1] σ (qI K) := by
  refine ev_ov (by decide) (Nat.le_of_ble_eq_true rfl) ?_
  show AV l RX10 cX10_in 5 (some .int) 4 (qI K) 0 [(0, .ref 233), (1, .int x1)] [] σ
  refine aw_aload_n (pc := 0) 0 dX10_in_0 rfl ?_
  refine aw_iconst (pc := 1) 0 dX10_in_1 (by decide) ?_
  refine aw_put (pc := 2) 0 kcX10 dX10_in_2 lfX10_91 nn_233 ki_233 (by decide) rfl rfl rfl rfl ?_
  refine aw_tops (fun τ2 eτ2 => ?_)
  have h := h τ2 eτ2
  refine aw_aload_n (pc := 5) 0 dX10_in_5 rfl ?_
  refine aw_iload_n (pc := 6) 1 dX10_in_6 rfl ?_
  refine aw_callV (pc := 7) (As := [.int x1]) (rest := []) kcX10 nn_233 ki_233 rfl (ev_X10_isCup l x1 h) mfX10_isCup dX10_in_7 lmX10_278 ⟨Nat.le_refl _, Nat.le_refl _⟩ (by decide) rfl rfl (Nat.le_of_ble_eq_true rfl) (nxI (fun r7_ τ7 h => ?_))
  refine aw_if_ne (pc := 10) 15 dX10_in_10 (by decide) (fun q => ?_) (fun q => ?_)
  · have h := h.2 q
    refine aw_iconst (pc := 15) 0 dX10_in_15 (by decide) ?_
    refine aw_istore_n (pc := 16) (i := 2) [(2, .int 0), (0, .ref 233), (1, .int x1)] dX10_in_16 rfl (by decide) rfl ?_
    refine aw_iconst (pc := 17) 0 dX10_in_17 (by decide) ?_
    refine aw_istore_n (pc := 18) (i := 3) [(3, .int 0), (2, .int 0), (0, .ref 233), (1, .int x1)] dX10_in_18 rfl (by decide) rfl ?_
    refine aw_iconst (pc := 19) 0 dX10_in_19 (by decide) ?_
    refine aw_istore (pc := 20) [(4, .int 0), (3, .int 0), (2, .int 0), (0, .ref 233), (1, .int x1)] dX10_in_20 (by decide) rfl ?_
    refine aw_sub (L' := [(0, .ref 233), (1, .int x1), (2, .int 0), (3, .int 0), (4, .int 0)]) [3, 4, 2, 1, 0] rfl ?_
    obtain ⟨nf, h⟩ := h
    exact bt_X10_in_22 l x1   nf 0 0 0  _ h
  · have h := h.1 q
    refine aw_iconst (pc := 13) (-1) dX10_in_13 (by decide) ?_
    exact aw_iret (pc := 14) rfl dX10_in_14 ⟨_, rfl, h⟩
def b_X10_ranked_37 (x1 : Int32) (B23 : Int32 → Int32 → Sg → Prop) (K : Int32 → Sg → Prop) : Nat → Int32 → Int32 → Int32 → Int32 → Sg → Prop
  | 0, _, _, _, _, _ => False
  | n + 1, y2, y3, y4, y5, σ =>
  wp_X10_clubs  σ <| fun r40_ τ40 => (br (r40_ ≤ y5) (br (y4 = x1) (∀ v108 : Int32, v108 = y3 + 1 → (B23 y3 v108 τ40)) (∀ v108 : Int32, v108 = y3 + 1 → (B23 y2 v108 τ40))) (wp_X10_has y5 τ40 <| fun r51_ τ51 => (wp_X10_has y3 τ51 <| fun r56_ τ56 => (br (r56_ < r51_) (∀ v88 : Int32, v88 = y4 + 1 → (∀ v90 : Int32, v90 = y5 + 1 → (b_X10_ranked_37 x1 B23 K n y2 y3 v88 v90 τ56))) (wp_X10_has y5 τ56 <| fun r65_ τ65 => (wp_X10_has y3 τ65 <| fun r70_ τ70 => (br (r65_ = r70_) (br (y3 ≤ y5) (∀ v88 : Int32, v88 = y4 + 0 → (∀ v90 : Int32, v90 = y5 + 1 → (b_X10_ranked_37 x1 B23 K n y2 y3 v88 v90 τ70))) (∀ v88 : Int32, v88 = y4 + 1 → (∀ v90 : Int32, v90 = y5 + 1 → (b_X10_ranked_37 x1 B23 K n y2 y3 v88 v90 τ70)))) (∀ v88 : Int32, v88 = y4 + 0 → (∀ v90 : Int32, v90 = y5 + 1 → (b_X10_ranked_37 x1 B23 K n y2 y3 v88 v90 τ70))))))))))
set_option maxRecDepth 20000 in
set_option maxHeartbeats 2000000 in
theorem bt_X10_ranked_37 (l : Launch) (x1 : Int32) {K : Int32 → Sg → Prop} (B23 : Int32 → Int32 → Sg → Prop) (hB23 : ∀ (y2 : Int32) (y3 : Int32)  (τ : Sg), B23 y2 y3 τ → AV l RX10 cX10_ranked 6 (some .int) 8 (qI K) 23 [(0, .ref 233), (1, .int x1), (2, .int y2), (3, .int y3)] [] τ) : ∀ (n : Nat) (y2 : Int32) (y3 : Int32) (y4 : Int32) (y5 : Int32)  (σ : Sg), b_X10_ranked_37 x1 B23 K n y2 y3 y4 y5 σ → AV l RX10 cX10_ranked 6 (some .int) 8 (qI K) 37 [(0, .ref 233), (1, .int x1), (2, .int y2), (3, .int y3), (4, .int y4), (5, .int y5)] [] σ := by
  intro n
  induction n with
  | zero => intro y2 y3 y4 y5 σ h; exact h.elim
  | succ n ih =>
    intro y2 y3 y4 y5 σ h
    refine aw_iload (pc := 37) 5 dX10_ranked_37 rfl ?_
    refine aw_aload_n (pc := 39) 0 dX10_ranked_39 rfl ?_
    refine aw_callV (pc := 40) (As := []) (rest := [.int y5]) kcX10 nn_233 ki_233 rfl (ev_X10_clubs l  h) mfX10_clubs dX10_ranked_40 lmX10_384 ⟨Nat.le_refl _, Nat.le_refl _⟩ (by decide) rfl rfl (Nat.le_of_ble_eq_true rfl) (nxI (fun r40_ τ40 h => ?_))
    refine aw_icmp_ge (pc := 43) 96 dX10_ranked_43 (by decide) (fun q => ?_) (fun q => ?_)
    · have h := h.1 q
      refine aw_iload (pc := 96) 4 dX10_ranked_96 rfl ?_
      refine aw_iload_n (pc := 98) 1 dX10_ranked_98 rfl ?_
      refine aw_icmp_ne (pc := 99) 106 dX10_ranked_99 (by decide) (fun q => ?_) (fun q => ?_)
      · have h := h.2 q
        refine aw_iload_n (pc := 106) 2 dX10_ranked_106 rfl ?_
        refine aw_istore_n (pc := 107) (i := 2) [(2, .int y2), (0, .ref 233), (1, .int x1), (3, .int y3), (4, .int y4), (5, .int y5)] dX10_ranked_107 rfl (by decide) rfl ?_
        obtain ⟨v108, ev108⟩ : ∃ v : Int32, v = y3 + 1 := ⟨_, rfl⟩
        have h := h v108 ev108
        refine aw_iinc (pc := 108) 3 v108 [(3, .int v108), (2, .int y2), (0, .ref 233), (1, .int x1), (4, .int y4), (5, .int y5)] dX10_ranked_108 rfl (by rw [ev108]; rfl) (by decide) rfl ?_
        refine aw_goto (pc := 111) 23 dX10_ranked_111 (by decide) ?_
        refine aw_sub (L' := [(0, .ref 233), (1, .int x1), (2, .int y2), (3, .int v108)]) [2, 3, 1, 0] rfl ?_
        exact hB23 y2 v108  _ h
      · have h := h.1 q
        refine aw_iload_n (pc := 102) 3 dX10_ranked_102 rfl ?_
        refine aw_goto (pc := 103) 107 dX10_ranked_103 (by decide) ?_
        refine aw_istore_n (pc := 107) (i := 2) [(2, .int y3), (0, .ref 233), (1, .int x1), (3, .int y3), (4, .int y4), (5, .int y5)] dX10_ranked_107 rfl (by decide) rfl ?_
        obtain ⟨v108, ev108⟩ : ∃ v : Int32, v = y3 + 1 := ⟨_, rfl⟩
        have h := h v108 ev108
        refine aw_iinc (pc := 108) 3 v108 [(3, .int v108), (2, .int y3), (0, .ref 233), (1, .int x1), (4, .int y4), (5, .int y5)] dX10_ranked_108 rfl (by rw [ev108]; rfl) (by decide) rfl ?_
        refine aw_goto (pc := 111) 23 dX10_ranked_111 (by decide) ?_
        refine aw_sub (L' := [(0, .ref 233), (1, .int x1), (2, .int y3), (3, .int v108)]) [2, 3, 1, 0] rfl ?_
        exact hB23 y3 v108  _ h
    · have h := h.2 q
      refine aw_iload (pc := 46) 4 dX10_ranked_46 rfl ?_
      refine aw_aload_n (pc := 48) 0 dX10_ranked_48 rfl ?_
      refine aw_iload (pc := 49) 5 dX10_ranked_49 rfl ?_
      refine aw_callV (pc := 51) (As := [.int y5]) (rest := [.int y4]) kcX10 nn_233 ki_233 rfl (ev_X10_has l y5 h) mfX10_has dX10_ranked_51 lmX10_378 ⟨Nat.le_refl _, Nat.le_refl _⟩ (by decide) rfl rfl (Nat.le_of_ble_eq_true rfl) (nxI (fun r51_ τ51 h => ?_))
      refine aw_aload_n (pc := 54) 0 dX10_ranked_54 rfl ?_
      refine aw_iload_n (pc := 55) 3 dX10_ranked_55 rfl ?_
      refine aw_callV (pc := 56) (As := [.int y3]) (rest := [.int r51_, .int y4]) kcX10 nn_233 ki_233 rfl (ev_X10_has l y3 h) mfX10_has dX10_ranked_56 lmX10_378 ⟨Nat.le_refl _, Nat.le_refl _⟩ (by decide) rfl rfl (Nat.le_of_ble_eq_true rfl) (nxI (fun r56_ τ56 h => ?_))
      refine aw_icmp_gt (pc := 59) 82 dX10_ranked_59 (by decide) (fun q => ?_) (fun q => ?_)
      · have h := h.1 q
        refine aw_iconst (pc := 82) 1 dX10_ranked_82 (by decide) ?_
        refine aw_goto (pc := 83) 87 dX10_ranked_83 (by decide) ?_
        refine aw_iadd (pc := 87) dX10_ranked_87 ?_
        refine aw_topi (fun v88 ev88 => ?_)
        have h := h v88 ev88
        refine aw_istore (pc := 88) [(4, .int v88), (0, .ref 233), (1, .int x1), (2, .int y2), (3, .int y3), (5, .int y5)] dX10_ranked_88 (by decide) rfl ?_
        obtain ⟨v90, ev90⟩ : ∃ v : Int32, v = y5 + 1 := ⟨_, rfl⟩
        have h := h v90 ev90
        refine aw_iinc (pc := 90) 5 v90 [(5, .int v90), (4, .int v88), (0, .ref 233), (1, .int x1), (2, .int y2), (3, .int y3)] dX10_ranked_90 rfl (by rw [ev90]; rfl) (by decide) rfl ?_
        refine aw_goto (pc := 93) 37 dX10_ranked_93 (by decide) ?_
        refine aw_sub (L' := [(0, .ref 233), (1, .int x1), (2, .int y2), (3, .int y3), (4, .int v88), (5, .int v90)]) [2, 3, 4, 5, 1, 0] rfl ?_
        exact ih y2 y3 v88 v90  _ h
      · have h := h.2 q
        refine aw_aload_n (pc := 62) 0 dX10_ranked_62 rfl ?_
        refine aw_iload (pc := 63) 5 dX10_ranked_63 rfl ?_
        refine aw_callV (pc := 65) (As := [.int y5]) (rest := [.int y4]) kcX10 nn_233 ki_233 rfl (ev_X10_has l y5 h) mfX10_has dX10_ranked_65 lmX10_378 ⟨Nat.le_refl _, Nat.le_refl _⟩ (by decide) rfl rfl (Nat.le_of_ble_eq_true rfl) (nxI (fun r65_ τ65 h => ?_))
        refine aw_aload_n (pc := 68) 0 dX10_ranked_68 rfl ?_
        refine aw_iload_n (pc := 69) 3 dX10_ranked_69 rfl ?_
        refine aw_callV (pc := 70) (As := [.int y3]) (rest := [.int r65_, .int y4]) kcX10 nn_233 ki_233 rfl (ev_X10_has l y3 h) mfX10_has dX10_ranked_70 lmX10_378 ⟨Nat.le_refl _, Nat.le_refl _⟩ (by decide) rfl rfl (Nat.le_of_ble_eq_true rfl) (nxI (fun r70_ τ70 h => ?_))
        refine aw_icmp_ne (pc := 73) 86 dX10_ranked_73 (by decide) (fun q => ?_) (fun q => ?_)
        · have h := h.2 q
          refine aw_iconst (pc := 86) 0 dX10_ranked_86 (by decide) ?_
          refine aw_iadd (pc := 87) dX10_ranked_87 ?_
          refine aw_topi (fun v88 ev88 => ?_)
          have h := h v88 ev88
          refine aw_istore (pc := 88) [(4, .int v88), (0, .ref 233), (1, .int x1), (2, .int y2), (3, .int y3), (5, .int y5)] dX10_ranked_88 (by decide) rfl ?_
          obtain ⟨v90, ev90⟩ : ∃ v : Int32, v = y5 + 1 := ⟨_, rfl⟩
          have h := h v90 ev90
          refine aw_iinc (pc := 90) 5 v90 [(5, .int v90), (4, .int v88), (0, .ref 233), (1, .int x1), (2, .int y2), (3, .int y3)] dX10_ranked_90 rfl (by rw [ev90]; rfl) (by decide) rfl ?_
          refine aw_goto (pc := 93) 37 dX10_ranked_93 (by decide) ?_
          refine aw_sub (L' := [(0, .ref 233), (1, .int x1), (2, .int y2), (3, .int y3), (4, .int v88), (5, .int v90)]) [2, 3, 4, 5, 1, 0] rfl ?_
          exact ih y2 y3 v88 v90  _ h
        · have h := h.1 q
          refine aw_iload (pc := 76) 5 dX10_ranked_76 rfl ?_
          refine aw_iload_n (pc := 78) 3 dX10_ranked_78 rfl ?_
          refine aw_icmp_ge (pc := 79) 86 dX10_ranked_79 (by decide) (fun q => ?_) (fun q => ?_)
          · have h := h.1 q
            refine aw_iconst (pc := 86) 0 dX10_ranked_86 (by decide) ?_
            refine aw_iadd (pc := 87) dX10_ranked_87 ?_
            refine aw_topi (fun v88 ev88 => ?_)
            have h := h v88 ev88
            refine aw_istore (pc := 88) [(4, .int v88), (0, .ref 233), (1, .int x1), (2, .int y2), (3, .int y3), (5, .int y5)] dX10_ranked_88 (by decide) rfl ?_
            obtain ⟨v90, ev90⟩ : ∃ v : Int32, v = y5 + 1 := ⟨_, rfl⟩
            have h := h v90 ev90
            refine aw_iinc (pc := 90) 5 v90 [(5, .int v90), (4, .int v88), (0, .ref 233), (1, .int x1), (2, .int y2), (3, .int y3)] dX10_ranked_90 rfl (by rw [ev90]; rfl) (by decide) rfl ?_
            refine aw_goto (pc := 93) 37 dX10_ranked_93 (by decide) ?_
            refine aw_sub (L' := [(0, .ref 233), (1, .int x1), (2, .int y2), (3, .int y3), (4, .int v88), (5, .int v90)]) [2, 3, 4, 5, 1, 0] rfl ?_
            exact ih y2 y3 v88 v90  _ h
          · have h := h.2 q
            refine aw_iconst (pc := 82) 1 dX10_ranked_82 (by decide) ?_
            refine aw_goto (pc := 83) 87 dX10_ranked_83 (by decide) ?_
            refine aw_iadd (pc := 87) dX10_ranked_87 ?_
            refine aw_topi (fun v88 ev88 => ?_)
            have h := h v88 ev88
            refine aw_istore (pc := 88) [(4, .int v88), (0, .ref 233), (1, .int x1), (2, .int y2), (3, .int y3), (5, .int y5)] dX10_ranked_88 (by decide) rfl ?_
            obtain ⟨v90, ev90⟩ : ∃ v : Int32, v = y5 + 1 := ⟨_, rfl⟩
            have h := h v90 ev90
            refine aw_iinc (pc := 90) 5 v90 [(5, .int v90), (4, .int v88), (0, .ref 233), (1, .int x1), (2, .int y2), (3, .int y3)] dX10_ranked_90 rfl (by rw [ev90]; rfl) (by decide) rfl ?_
            refine aw_goto (pc := 93) 37 dX10_ranked_93 (by decide) ?_
            refine aw_sub (L' := [(0, .ref 233), (1, .int x1), (2, .int y2), (3, .int y3), (4, .int v88), (5, .int v90)]) [2, 3, 4, 5, 1, 0] rfl ?_
            exact ih y2 y3 v88 v90  _ h
def b_X10_ranked_23 (x1 : Int32)  (K : Int32 → Sg → Prop) : Nat → Int32 → Int32 → Sg → Prop
  | 0, _, _, _ => False
  | n + 1, y2, y3, σ =>
  wp_X10_clubs  σ <| fun r25_ τ25 => (br (r25_ ≤ y3) (K y2 τ25) (∃ nf, b_X10_ranked_37 x1 (fun y2' y3' τ => b_X10_ranked_23 x1  K n y2' y3' τ) K nf y2 y3 0 0 τ25))
set_option maxRecDepth 20000 in
set_option maxHeartbeats 2000000 in
theorem bt_X10_ranked_23 (l : Launch) (x1 : Int32) {K : Int32 → Sg → Prop}   : ∀ (n : Nat) (y2 : Int32) (y3 : Int32)  (σ : Sg), b_X10_ranked_23 x1  K n y2 y3 σ → AV l RX10 cX10_ranked 6 (some .int) 8 (qI K) 23 [(0, .ref 233), (1, .int x1), (2, .int y2), (3, .int y3)] [] σ := by
  intro n
  induction n with
  | zero => intro y2 y3 σ h; exact h.elim
  | succ n ih =>
    intro y2 y3 σ h
    refine aw_iload_n (pc := 23) 3 dX10_ranked_23 rfl ?_
    refine aw_aload_n (pc := 24) 0 dX10_ranked_24 rfl ?_
    refine aw_callV (pc := 25) (As := []) (rest := [.int y3]) kcX10 nn_233 ki_233 rfl (ev_X10_clubs l  h) mfX10_clubs dX10_ranked_25 lmX10_384 ⟨Nat.le_refl _, Nat.le_refl _⟩ (by decide) rfl rfl (Nat.le_of_ble_eq_true rfl) (nxI (fun r25_ τ25 h => ?_))
    refine aw_icmp_ge (pc := 28) 114 dX10_ranked_28 (by decide) (fun q => ?_) (fun q => ?_)
    · have h := h.1 q
      refine aw_iload_n (pc := 114) 2 dX10_ranked_114 rfl ?_
      exact aw_iret (pc := 115) rfl dX10_ranked_115 ⟨_, rfl, h⟩
    · have h := h.2 q
      refine aw_iconst (pc := 31) 0 dX10_ranked_31 (by decide) ?_
      refine aw_istore (pc := 32) [(4, .int 0), (0, .ref 233), (1, .int x1), (2, .int y2), (3, .int y3)] dX10_ranked_32 (by decide) rfl ?_
      refine aw_iconst (pc := 34) 0 dX10_ranked_34 (by decide) ?_
      refine aw_istore (pc := 35) [(5, .int 0), (4, .int 0), (0, .ref 233), (1, .int x1), (2, .int y2), (3, .int y3)] dX10_ranked_35 (by decide) rfl ?_
      refine aw_sub (L' := [(0, .ref 233), (1, .int x1), (2, .int y2), (3, .int y3), (4, .int 0), (5, .int 0)]) [2, 3, 4, 5, 1, 0] rfl ?_
      obtain ⟨nf, h⟩ := h
      exact bt_X10_ranked_37 l x1 (fun y2' y3' τ => b_X10_ranked_23 x1  K n y2' y3' τ) (fun y2' y3' τ h => ih y2' y3' τ h) nf y2 y3 0 0  _ h
def wp_X10_ranked (x1 : Int32) (σ : Sg) (K : Int32 → Sg → Prop) : Prop :=
  ∀ τ2 : Sg, τ2 = up σ 233 0 0 → (wp_X10_isClub x1 τ2 <| fun r7_ τ7 => (br (r7_ = 0) (K (-1) τ7) (wp_X10_layAll  τ7 <| fun τ16 => (∃ nf, b_X10_ranked_23 x1  K nf (-1) 0 τ16))))
set_option maxRecDepth 20000 in
set_option maxHeartbeats 2000000 in
theorem ev_X10_ranked (l : Launch) (x1 : Int32) {σ : Sg} {K : Int32 → Sg → Prop} (h : wp_X10_ranked x1 σ K) : Ev l yX10_ranked cX10_ranked 6 (some .int) 8 [.ref 233, .int x1] σ (qI K) := by
  refine ev_ov (by decide) (Nat.le_of_ble_eq_true rfl) ?_
  show AV l RX10 cX10_ranked 6 (some .int) 8 (qI K) 0 [(0, .ref 233), (1, .int x1)] [] σ
  refine aw_aload_n (pc := 0) 0 dX10_ranked_0 rfl ?_
  refine aw_iconst (pc := 1) 0 dX10_ranked_1 (by decide) ?_
  refine aw_put (pc := 2) 0 kcX10 dX10_ranked_2 lfX10_91 nn_233 ki_233 (by decide) rfl rfl rfl rfl ?_
  refine aw_tops (fun τ2 eτ2 => ?_)
  have h := h τ2 eτ2
  refine aw_aload_n (pc := 5) 0 dX10_ranked_5 rfl ?_
  refine aw_iload_n (pc := 6) 1 dX10_ranked_6 rfl ?_
  refine aw_callV (pc := 7) (As := [.int x1]) (rest := []) kcX10 nn_233 ki_233 rfl (ev_X10_isClub l x1 h) mfX10_isClub dX10_ranked_7 lmX10_284 ⟨Nat.le_refl _, Nat.le_refl _⟩ (by decide) rfl rfl (Nat.le_of_ble_eq_true rfl) (nxI (fun r7_ τ7 h => ?_))
  refine aw_if_ne (pc := 10) 15 dX10_ranked_10 (by decide) (fun q => ?_) (fun q => ?_)
  · have h := h.2 q
    refine aw_aload_n (pc := 15) 0 dX10_ranked_15 rfl ?_
    refine aw_callV (pc := 16) (As := []) (rest := []) kcX10 nn_233 ki_233 rfl (ev_X10_layAll l  h) mfX10_layAll dX10_ranked_16 lmX10_310 ⟨Nat.le_refl _, Nat.le_refl _⟩ (by decide) rfl rfl (Nat.le_of_ble_eq_true rfl) (nxV (fun τ16 h => ?_))
    refine aw_iconst (pc := 19) (-1) dX10_ranked_19 (by decide) ?_
    refine aw_istore_n (pc := 20) (i := 2) [(2, .int (-1)), (0, .ref 233), (1, .int x1)] dX10_ranked_20 rfl (by decide) rfl ?_
    refine aw_iconst (pc := 21) 0 dX10_ranked_21 (by decide) ?_
    refine aw_istore_n (pc := 22) (i := 3) [(3, .int 0), (2, .int (-1)), (0, .ref 233), (1, .int x1)] dX10_ranked_22 rfl (by decide) rfl ?_
    refine aw_sub (L' := [(0, .ref 233), (1, .int x1), (2, .int (-1)), (3, .int 0)]) [2, 3, 1, 0] rfl ?_
    obtain ⟨nf, h⟩ := h
    exact bt_X10_ranked_23 l x1   nf (-1) 0  _ h
  · have h := h.1 q
    refine aw_iconst (pc := 13) (-1) dX10_ranked_13 (by decide) ?_
    exact aw_iret (pc := 14) rfl dX10_ranked_14 ⟨_, rfl, h⟩
def b_X10_bands_47  (B20 : Int32 → Int32 → Int32 → Sg → Prop) (K : Int32 → Sg → Prop) : Nat → Int32 → Int32 → Int32 → Int32 → Int32 → Sg → Prop
  | 0, _, _, _, _, _, _ => False
  | n + 1, y1, y2, y3, y4, y5, σ =>
  br (12 ≤ y5) (∀ v72 : Int32, v72 = y2 ||| y4 → (∀ v73 : Int32, v73 = y3 + 1 → (B20 y1 v72 v73 σ))) (wp_X10_spread y4 σ <| fun r57_ τ57 => (∀ v62 : Int32, v62 = y5 + 1 → (b_X10_bands_47  B20 K n y1 y2 y3 r57_ v62 τ57)))
set_option maxRecDepth 20000 in
set_option maxHeartbeats 2000000 in
theorem bt_X10_bands_47 (l : Launch)  {K : Int32 → Sg → Prop} (B20 : Int32 → Int32 → Int32 → Sg → Prop) (hB20 : ∀ (y1 : Int32) (y2 : Int32) (y3 : Int32)  (τ : Sg), B20 y1 y2 y3 τ → AV l RX10 cX10_bands 6 (some .int) 3 (qI K) 20 [(0, .ref 233), (1, .int y1), (2, .int y2), (3, .int y3)] [] τ) : ∀ (n : Nat) (y1 : Int32) (y2 : Int32) (y3 : Int32) (y4 : Int32) (y5 : Int32)  (σ : Sg), b_X10_bands_47  B20 K n y1 y2 y3 y4 y5 σ → AV l RX10 cX10_bands 6 (some .int) 3 (qI K) 47 [(0, .ref 233), (1, .int y1), (2, .int y2), (3, .int y3), (4, .int y4), (5, .int y5)] [] σ := by
  intro n
  induction n with
  | zero => intro y1 y2 y3 y4 y5 σ h; exact h.elim
  | succ n ih =>
    intro y1 y2 y3 y4 y5 σ h
    refine aw_iload (pc := 47) 5 dX10_bands_47 rfl ?_
    refine aw_bipush (pc := 49) 12 dX10_bands_49 (by decide) ?_
    refine aw_icmp_ge (pc := 51) 68 dX10_bands_51 (by decide) (fun q => ?_) (fun q => ?_)
    · have h := h.1 q
      refine aw_iload_n (pc := 68) 2 dX10_bands_68 rfl ?_
      refine aw_iload (pc := 69) 4 dX10_bands_69 rfl ?_
      refine aw_ior (pc := 71) dX10_bands_71 ?_
      refine aw_topi (fun v72 ev72 => ?_)
      have h := h v72 ev72
      refine aw_istore_n (pc := 72) (i := 2) [(2, .int v72), (0, .ref 233), (1, .int y1), (3, .int y3), (4, .int y4), (5, .int y5)] dX10_bands_72 rfl (by decide) rfl ?_
      obtain ⟨v73, ev73⟩ : ∃ v : Int32, v = y3 + 1 := ⟨_, rfl⟩
      have h := h v73 ev73
      refine aw_iinc (pc := 73) 3 v73 [(3, .int v73), (2, .int v72), (0, .ref 233), (1, .int y1), (4, .int y4), (5, .int y5)] dX10_bands_73 rfl (by rw [ev73]; rfl) (by decide) rfl ?_
      refine aw_goto (pc := 76) 20 dX10_bands_76 (by decide) ?_
      refine aw_sub (L' := [(0, .ref 233), (1, .int y1), (2, .int v72), (3, .int v73)]) [2, 3, 1, 0] rfl ?_
      exact hB20 y1 v72 v73  _ h
    · have h := h.2 q
      refine aw_aload_n (pc := 54) 0 dX10_bands_54 rfl ?_
      refine aw_iload (pc := 55) 4 dX10_bands_55 rfl ?_
      refine aw_callV (pc := 57) (As := [.int y4]) (rest := []) kcX10 nn_233 ki_233 rfl (ev_X10_spread l y4 h) mfX10_spread dX10_bands_57 lmX10_436 ⟨Nat.le_refl _, Nat.le_refl _⟩ (by decide) rfl rfl (Nat.le_of_ble_eq_true rfl) (nxI (fun r57_ τ57 h => ?_))
      refine aw_istore (pc := 60) [(4, .int r57_), (0, .ref 233), (1, .int y1), (2, .int y2), (3, .int y3), (5, .int y5)] dX10_bands_60 (by decide) rfl ?_
      obtain ⟨v62, ev62⟩ : ∃ v : Int32, v = y5 + 1 := ⟨_, rfl⟩
      have h := h v62 ev62
      refine aw_iinc (pc := 62) 5 v62 [(5, .int v62), (4, .int r57_), (0, .ref 233), (1, .int y1), (2, .int y2), (3, .int y3)] dX10_bands_62 rfl (by rw [ev62]; rfl) (by decide) rfl ?_
      refine aw_goto (pc := 65) 47 dX10_bands_65 (by decide) ?_
      refine aw_sub (L' := [(0, .ref 233), (1, .int y1), (2, .int y2), (3, .int y3), (4, .int r57_), (5, .int v62)]) [2, 3, 4, 5, 1, 0] rfl ?_
      exact ih y1 y2 y3 r57_ v62  _ h
def b_X10_bands_20   (K : Int32 → Sg → Prop) : Nat → Int32 → Int32 → Int32 → Sg → Prop
  | 0, _, _, _, _ => False
  | n + 1, y1, y2, y3, σ =>
  wp_X10_clubs  σ <| fun r22_ τ22 => (br (r22_ ≤ y3) (K y1 τ22) (br (((y2 >>> (y3 &&& 31)) &&& 1) = 0) (∀ v36 : Int32, v36 = y1 + 1 → (∀ v42 : Int32, v42 = 1 <<< (y3 &&& 31) → (∃ nf, b_X10_bands_47  (fun y1' y2' y3' τ => b_X10_bands_20   K n y1' y2' y3' τ) K nf v36 y2 y3 v42 0 τ22))) (∀ v73 : Int32, v73 = y3 + 1 → (b_X10_bands_20   K n y1 y2 v73 τ22))))
set_option maxRecDepth 20000 in
set_option maxHeartbeats 2000000 in
theorem bt_X10_bands_20 (l : Launch)  {K : Int32 → Sg → Prop}   : ∀ (n : Nat) (y1 : Int32) (y2 : Int32) (y3 : Int32)  (σ : Sg), b_X10_bands_20   K n y1 y2 y3 σ → AV l RX10 cX10_bands 6 (some .int) 3 (qI K) 20 [(0, .ref 233), (1, .int y1), (2, .int y2), (3, .int y3)] [] σ := by
  intro n
  induction n with
  | zero => intro y1 y2 y3 σ h; exact h.elim
  | succ n ih =>
    intro y1 y2 y3 σ h
    refine aw_iload_n (pc := 20) 3 dX10_bands_20 rfl ?_
    refine aw_aload_n (pc := 21) 0 dX10_bands_21 rfl ?_
    refine aw_callV (pc := 22) (As := []) (rest := [.int y3]) kcX10 nn_233 ki_233 rfl (ev_X10_clubs l  h) mfX10_clubs dX10_bands_22 lmX10_384 ⟨Nat.le_refl _, Nat.le_refl _⟩ (by decide) rfl rfl (Nat.le_of_ble_eq_true rfl) (nxI (fun r22_ τ22 h => ?_))
    refine aw_icmp_ge (pc := 25) 79 dX10_bands_25 (by decide) (fun q => ?_) (fun q => ?_)
    · have h := h.1 q
      refine aw_iload_n (pc := 79) 1 dX10_bands_79 rfl ?_
      exact aw_iret (pc := 80) rfl dX10_bands_80 ⟨_, rfl, h⟩
    · have h := h.2 q
      refine aw_iload_n (pc := 28) 2 dX10_bands_28 rfl ?_
      refine aw_iload_n (pc := 29) 3 dX10_bands_29 rfl ?_
      refine aw_ishr (pc := 30) dX10_bands_30 ?_
      refine aw_iconst (pc := 31) 1 dX10_bands_31 (by decide) ?_
      refine aw_iand (pc := 32) dX10_bands_32 ?_
      refine aw_if_ne (pc := 33) 73 dX10_bands_33 (by decide) (fun q => ?_) (fun q => ?_)
      · have h := h.2 q
        obtain ⟨v73, ev73⟩ : ∃ v : Int32, v = y3 + 1 := ⟨_, rfl⟩
        have h := h v73 ev73
        refine aw_iinc (pc := 73) 3 v73 [(3, .int v73), (0, .ref 233), (1, .int y1), (2, .int y2)] dX10_bands_73 rfl (by rw [ev73]; rfl) (by decide) rfl ?_
        refine aw_goto (pc := 76) 20 dX10_bands_76 (by decide) ?_
        refine aw_sub (L' := [(0, .ref 233), (1, .int y1), (2, .int y2), (3, .int v73)]) [1, 2, 3, 0] rfl ?_
        exact ih y1 y2 v73  _ h
      · have h := h.1 q
        obtain ⟨v36, ev36⟩ : ∃ v : Int32, v = y1 + 1 := ⟨_, rfl⟩
        have h := h v36 ev36
        refine aw_iinc (pc := 36) 1 v36 [(1, .int v36), (0, .ref 233), (2, .int y2), (3, .int y3)] dX10_bands_36 rfl (by rw [ev36]; rfl) (by decide) rfl ?_
        refine aw_iconst (pc := 39) 1 dX10_bands_39 (by decide) ?_
        refine aw_iload_n (pc := 40) 3 dX10_bands_40 rfl ?_
        refine aw_ishl (pc := 41) dX10_bands_41 ?_
        refine aw_topi (fun v42 ev42 => ?_)
        have h := h v42 ev42
        refine aw_istore (pc := 42) [(4, .int v42), (1, .int v36), (0, .ref 233), (2, .int y2), (3, .int y3)] dX10_bands_42 (by decide) rfl ?_
        refine aw_iconst (pc := 44) 0 dX10_bands_44 (by decide) ?_
        refine aw_istore (pc := 45) [(5, .int 0), (4, .int v42), (1, .int v36), (0, .ref 233), (2, .int y2), (3, .int y3)] dX10_bands_45 (by decide) rfl ?_
        refine aw_sub (L' := [(0, .ref 233), (1, .int v36), (2, .int y2), (3, .int y3), (4, .int v42), (5, .int 0)]) [3, 2, 4, 5, 1, 0] rfl ?_
        obtain ⟨nf, h⟩ := h
        exact bt_X10_bands_47 l  (fun y1' y2' y3' τ => b_X10_bands_20   K n y1' y2' y3' τ) (fun y1' y2' y3' τ h => ih y1' y2' y3' τ h) nf v36 y2 y3 v42 0  _ h
def wp_X10_bands  (σ : Sg) (K : Int32 → Sg → Prop) : Prop :=
  ∀ τ2 : Sg, τ2 = up σ 233 0 0 → (wp_X10_isTold  τ2 <| fun r6_ τ6 => (br (r6_ = 0) (K (-1) τ6) (∃ nf, b_X10_bands_20   K nf 0 0 0 τ6)))
set_option maxRecDepth 20000 in
set_option maxHeartbeats 2000000 in
theorem ev_X10_bands (l : Launch)  {σ : Sg} {K : Int32 → Sg → Prop} (h : wp_X10_bands  σ K) : Ev l yX10_bands cX10_bands 6 (some .int) 3 [.ref 233] σ (qI K) := by
  refine ev_ov (by decide) (Nat.le_of_ble_eq_true rfl) ?_
  show AV l RX10 cX10_bands 6 (some .int) 3 (qI K) 0 [(0, .ref 233)] [] σ
  refine aw_aload_n (pc := 0) 0 dX10_bands_0 rfl ?_
  refine aw_iconst (pc := 1) 0 dX10_bands_1 (by decide) ?_
  refine aw_put (pc := 2) 0 kcX10 dX10_bands_2 lfX10_91 nn_233 ki_233 (by decide) rfl rfl rfl rfl ?_
  refine aw_tops (fun τ2 eτ2 => ?_)
  have h := h τ2 eτ2
  refine aw_aload_n (pc := 5) 0 dX10_bands_5 rfl ?_
  refine aw_callV (pc := 6) (As := []) (rest := []) kcX10 nn_233 ki_233 rfl (ev_X10_isTold l  h) mfX10_isTold dX10_bands_6 lmX10_232 ⟨Nat.le_refl _, Nat.le_refl _⟩ (by decide) rfl rfl (Nat.le_of_ble_eq_true rfl) (nxI (fun r6_ τ6 h => ?_))
  refine aw_if_ne (pc := 9) 14 dX10_bands_9 (by decide) (fun q => ?_) (fun q => ?_)
  · have h := h.2 q
    refine aw_iconst (pc := 14) 0 dX10_bands_14 (by decide) ?_
    refine aw_istore_n (pc := 15) (i := 1) [(1, .int 0), (0, .ref 233)] dX10_bands_15 rfl (by decide) rfl ?_
    refine aw_iconst (pc := 16) 0 dX10_bands_16 (by decide) ?_
    refine aw_istore_n (pc := 17) (i := 2) [(2, .int 0), (1, .int 0), (0, .ref 233)] dX10_bands_17 rfl (by decide) rfl ?_
    refine aw_iconst (pc := 18) 0 dX10_bands_18 (by decide) ?_
    refine aw_istore_n (pc := 19) (i := 3) [(3, .int 0), (2, .int 0), (1, .int 0), (0, .ref 233)] dX10_bands_19 rfl (by decide) rfl ?_
    refine aw_sub (L' := [(0, .ref 233), (1, .int 0), (2, .int 0), (3, .int 0)]) [3, 2, 1, 0] rfl ?_
    obtain ⟨nf, h⟩ := h
    exact bt_X10_bands_20 l    nf 0 0 0  _ h
  · have h := h.1 q
    refine aw_iconst (pc := 12) (-1) dX10_bands_12 (by decide) ?_
    exact aw_iret (pc := 13) rfl dX10_bands_13 ⟨_, rfl, h⟩
def wp_X10_bringsNext (x1 : Int32) (x2 : Int32) (x3 : Int32) (σ : Sg) (K : Int32 → Sg → Prop) : Prop :=
  wp_X10_games x1 σ <| fun r4_ τ4 => (wp_X10_ofTie x1 0 τ4 <| fun r11_ τ11 => (wp_X10_layGame x1 r4_ x2 r11_ τ11 <| fun τ14 => (wp_X10_games x1 τ14 <| fun r20_ τ20 => (wp_X10_hasOf r20_ x3 τ20 <| fun r24_ τ24 => (K r24_ τ24)))))
set_option maxRecDepth 20000 in
set_option maxHeartbeats 2000000 in
theorem ev_X10_bringsNext (l : Launch) (x1 : Int32) (x2 : Int32) (x3 : Int32) {σ : Sg} {K : Int32 → Sg → Prop} (h : wp_X10_bringsNext x1 x2 x3 σ K) : Ev l yX10_bringsNext cX10_bringsNext 4 (some .int) 3 [.ref 233, .int x1, .int x2, .int x3] σ (qI K) := by
  refine ev_ov (by decide) (Nat.le_of_ble_eq_true rfl) ?_
  show AV l RX10 cX10_bringsNext 4 (some .int) 3 (qI K) 0 [(0, .ref 233), (1, .int x1), (2, .int x2), (3, .int x3)] [] σ
  refine aw_aload_n (pc := 0) 0 dX10_bringsNext_0 rfl ?_
  refine aw_iload_n (pc := 1) 1 dX10_bringsNext_1 rfl ?_
  refine aw_aload_n (pc := 2) 0 dX10_bringsNext_2 rfl ?_
  refine aw_iload_n (pc := 3) 1 dX10_bringsNext_3 rfl ?_
  refine aw_callV (pc := 4) (As := [.int x1]) (rest := [.int x1, .ref 233]) kcX10 nn_233 ki_233 rfl (ev_X10_games l x1 h) mfX10_games dX10_bringsNext_4 lmX10_255 ⟨Nat.le_refl _, Nat.le_refl _⟩ (by decide) rfl rfl (Nat.le_of_ble_eq_true rfl) (nxI (fun r4_ τ4 h => ?_))
  refine aw_iload_n (pc := 7) 2 dX10_bringsNext_7 rfl ?_
  refine aw_aload_n (pc := 8) 0 dX10_bringsNext_8 rfl ?_
  refine aw_iload_n (pc := 9) 1 dX10_bringsNext_9 rfl ?_
  refine aw_iconst (pc := 10) 0 dX10_bringsNext_10 (by decide) ?_
  refine aw_callV (pc := 11) (As := [.int x1, .int 0]) (rest := [.int x2, .int r4_, .int x1, .ref 233]) kcX10 nn_233 ki_233 rfl (ev_X10_ofTie l x1 0 h) mfX10_ofTie dX10_bringsNext_11 lmX10_252 ⟨Nat.le_refl _, Nat.le_refl _⟩ (by decide) rfl rfl (Nat.le_of_ble_eq_true rfl) (nxI (fun r11_ τ11 h => ?_))
  refine aw_callV (pc := 14) (As := [.int x1, .int r4_, .int x2, .int r11_]) (rest := []) kcX10 nn_233 ki_233 rfl (ev_X10_layGame l x1 r4_ x2 r11_ h) mfX10_layGame dX10_bringsNext_14 lmX10_365 ⟨Nat.le_refl _, Nat.le_refl _⟩ (by decide) rfl rfl (Nat.le_of_ble_eq_true rfl) (nxV (fun τ14 h => ?_))
  refine aw_aload_n (pc := 17) 0 dX10_bringsNext_17 rfl ?_
  refine aw_aload_n (pc := 18) 0 dX10_bringsNext_18 rfl ?_
  refine aw_iload_n (pc := 19) 1 dX10_bringsNext_19 rfl ?_
  refine aw_callV (pc := 20) (As := [.int x1]) (rest := [.ref 233]) kcX10 nn_233 ki_233 rfl (ev_X10_games l x1 h) mfX10_games dX10_bringsNext_20 lmX10_255 ⟨Nat.le_refl _, Nat.le_refl _⟩ (by decide) rfl rfl (Nat.le_of_ble_eq_true rfl) (nxI (fun r20_ τ20 h => ?_))
  refine aw_iload_n (pc := 23) 3 dX10_bringsNext_23 rfl ?_
  refine aw_callV (pc := 24) (As := [.int r20_, .int x3]) (rest := []) kcX10 nn_233 ki_233 rfl (ev_X10_hasOf l r20_ x3 h) mfX10_hasOf dX10_bringsNext_24 lmX10_415 ⟨Nat.le_refl _, Nat.le_refl _⟩ (by decide) rfl rfl (Nat.le_of_ble_eq_true rfl) (nxI (fun r24_ τ24 h => ?_))
  exact aw_iret (pc := 27) rfl dX10_bringsNext_27 ⟨_, rfl, h⟩
def wp_X10_brings (x1 : Int32) (x2 : Int32) (x3 : Int32) (σ : Sg) (K : Int32 → Sg → Prop) : Prop :=
  ∀ τ2 : Sg, τ2 = up σ 233 0 0 → (wp_X10_isTie x1 τ2 <| fun r7_ τ7 => (br (r7_ = 0) (K (-1) τ7) (wp_X10_within (Int32.toInt64 x2) 0 99999 τ7 <| fun r19_ τ19 => (br (r19_ = 0) (K (-1) τ19) (wp_X10_within (Int32.toInt64 x3) 0 2 τ19 <| fun r31_ τ31 => (br (r31_ = 0) (K (-1) τ31) (wp_X10_bringsNext x1 x2 x3 τ31 <| fun r41_ τ41 => (K r41_ τ41))))))))
set_option maxRecDepth 20000 in
set_option maxHeartbeats 2000000 in
theorem ev_X10_brings (l : Launch) (x1 : Int32) (x2 : Int32) (x3 : Int32) {σ : Sg} {K : Int32 → Sg → Prop} (h : wp_X10_brings x1 x2 x3 σ K) : Ev l yX10_brings cX10_brings 4 (some .int) 4 [.ref 233, .int x1, .int x2, .int x3] σ (qI K) := by
  refine ev_ov (by decide) (Nat.le_of_ble_eq_true rfl) ?_
  show AV l RX10 cX10_brings 4 (some .int) 4 (qI K) 0 [(0, .ref 233), (1, .int x1), (2, .int x2), (3, .int x3)] [] σ
  refine aw_aload_n (pc := 0) 0 dX10_brings_0 rfl ?_
  refine aw_iconst (pc := 1) 0 dX10_brings_1 (by decide) ?_
  refine aw_put (pc := 2) 0 kcX10 dX10_brings_2 lfX10_91 nn_233 ki_233 (by decide) rfl rfl rfl rfl ?_
  refine aw_tops (fun τ2 eτ2 => ?_)
  have h := h τ2 eτ2
  refine aw_aload_n (pc := 5) 0 dX10_brings_5 rfl ?_
  refine aw_iload_n (pc := 6) 1 dX10_brings_6 rfl ?_
  refine aw_callV (pc := 7) (As := [.int x1]) (rest := []) kcX10 nn_233 ki_233 rfl (ev_X10_isTie l x1 h) mfX10_isTie dX10_brings_7 lmX10_294 ⟨Nat.le_refl _, Nat.le_refl _⟩ (by decide) rfl rfl (Nat.le_of_ble_eq_true rfl) (nxI (fun r7_ τ7 h => ?_))
  refine aw_if_eq (pc := 10) 47 dX10_brings_10 (by decide) (fun q => ?_) (fun q => ?_)
  · have h := h.1 q
    refine aw_iconst (pc := 47) (-1) dX10_brings_47 (by decide) ?_
    exact aw_iret (pc := 48) rfl dX10_brings_48 ⟨_, rfl, h⟩
  · have h := h.2 q
    refine aw_iload_n (pc := 13) 2 dX10_brings_13 rfl ?_
    refine aw_i2l (pc := 14) dX10_brings_14 ?_
    refine aw_lconst (pc := 15) 0 dX10_brings_15 (by decide) ?_
    refine aw_ldc2 (pc := 16) 99999 dX10_brings_16 lclX10_297 ?_
    refine aw_callS (pc := 19) (As := [.long (Int32.toInt64 x2), .long 0, .long 99999]) (rest := []) (ev_X10_within l (Int32.toInt64 x2) 0 99999 h) mfX10_within dX10_brings_19 lmX10_94 ⟨Nat.le_refl _, Nat.le_refl _⟩ (by decide) rfl rfl (Nat.le_of_ble_eq_true rfl) (nxI (fun r19_ τ19 h => ?_))
    refine aw_if_eq (pc := 22) 47 dX10_brings_22 (by decide) (fun q => ?_) (fun q => ?_)
    · have h := h.1 q
      refine aw_iconst (pc := 47) (-1) dX10_brings_47 (by decide) ?_
      exact aw_iret (pc := 48) rfl dX10_brings_48 ⟨_, rfl, h⟩
    · have h := h.2 q
      refine aw_iload_n (pc := 25) 3 dX10_brings_25 rfl ?_
      refine aw_i2l (pc := 26) dX10_brings_26 ?_
      refine aw_lconst (pc := 27) 0 dX10_brings_27 (by decide) ?_
      refine aw_ldc2 (pc := 28) 2 dX10_brings_28 lclX10_299 ?_
      refine aw_callS (pc := 31) (As := [.long (Int32.toInt64 x3), .long 0, .long 2]) (rest := []) (ev_X10_within l (Int32.toInt64 x3) 0 2 h) mfX10_within dX10_brings_31 lmX10_94 ⟨Nat.le_refl _, Nat.le_refl _⟩ (by decide) rfl rfl (Nat.le_of_ble_eq_true rfl) (nxI (fun r31_ τ31 h => ?_))
      refine aw_if_eq (pc := 34) 47 dX10_brings_34 (by decide) (fun q => ?_) (fun q => ?_)
      · have h := h.1 q
        refine aw_iconst (pc := 47) (-1) dX10_brings_47 (by decide) ?_
        exact aw_iret (pc := 48) rfl dX10_brings_48 ⟨_, rfl, h⟩
      · have h := h.2 q
        refine aw_aload_n (pc := 37) 0 dX10_brings_37 rfl ?_
        refine aw_iload_n (pc := 38) 1 dX10_brings_38 rfl ?_
        refine aw_iload_n (pc := 39) 2 dX10_brings_39 rfl ?_
        refine aw_iload_n (pc := 40) 3 dX10_brings_40 rfl ?_
        refine aw_callV (pc := 41) (As := [.int x1, .int x2, .int x3]) (rest := []) kcX10 nn_233 ki_233 rfl (ev_X10_bringsNext l x1 x2 x3 h) mfX10_bringsNext dX10_brings_41 lmX10_439 ⟨Nat.le_refl _, Nat.le_refl _⟩ (by decide) rfl rfl (Nat.le_of_ble_eq_true rfl) (nxI (fun r41_ τ41 h => ?_))
        refine aw_goto (pc := 44) 48 dX10_brings_44 (by decide) ?_
        exact aw_iret (pc := 48) rfl dX10_brings_48 ⟨_, rfl, h⟩
def b_X10_least_34 (x1 : Int32) (x2 : Int32) (x3 : Int32)  (K : Int32 → Sg → Prop) : Nat → Int32 → Sg → Prop
  | 0, _, _ => False
  | n + 1, y4, σ =>
  br (99999 < y4) (K (-2) σ) (wp_X10_bringsNext x1 y4 x3 σ <| fun r46_ τ46 => (br (r46_ < x2) (∀ v56 : Int32, v56 = y4 + 1 → (b_X10_least_34 x1 x2 x3  K n v56 τ46)) (K y4 τ46)))
set_option maxRecDepth 20000 in
set_option maxHeartbeats 2000000 in
theorem bt_X10_least_34 (l : Launch) (x1 : Int32) (x2 : Int32) (x3 : Int32) {K : Int32 → Sg → Prop}   : ∀ (n : Nat) (y4 : Int32)  (σ : Sg), b_X10_least_34 x1 x2 x3  K n y4 σ → AV l RX10 cX10_least 5 (some .int) 4 (qI K) 34 [(0, .ref 233), (1, .int x1), (2, .int x2), (3, .int x3), (4, .int y4)] [] σ := by
  intro n
  induction n with
  | zero => intro y4 σ h; exact h.elim
  | succ n ih =>
    intro y4 σ h
    refine aw_iload (pc := 34) 4 dX10_least_34 rfl ?_
    refine aw_ldc (pc := 36) 99999 dX10_least_36 lcX10_149 ?_
    refine aw_icmp_gt (pc := 38) 62 dX10_least_38 (by decide) (fun q => ?_) (fun q => ?_)
    · have h := h.1 q
      refine aw_bipush (pc := 62) (-2) dX10_least_62 (by decide) ?_
      exact aw_iret (pc := 64) rfl dX10_least_64 ⟨_, rfl, h⟩
    · have h := h.2 q
      refine aw_aload_n (pc := 41) 0 dX10_least_41 rfl ?_
      refine aw_iload_n (pc := 42) 1 dX10_least_42 rfl ?_
      refine aw_iload (pc := 43) 4 dX10_least_43 rfl ?_
      refine aw_iload_n (pc := 45) 3 dX10_least_45 rfl ?_
      refine aw_callV (pc := 46) (As := [.int x1, .int y4, .int x3]) (rest := []) kcX10 nn_233 ki_233 rfl (ev_X10_bringsNext l x1 y4 x3 h) mfX10_bringsNext dX10_least_46 lmX10_439 ⟨Nat.le_refl _, Nat.le_refl _⟩ (by decide) rfl rfl (Nat.le_of_ble_eq_true rfl) (nxI (fun r46_ τ46 h => ?_))
      refine aw_iload_n (pc := 49) 2 dX10_least_49 rfl ?_
      refine aw_icmp_lt (pc := 50) 56 dX10_least_50 (by decide) (fun q => ?_) (fun q => ?_)
      · have h := h.1 q
        obtain ⟨v56, ev56⟩ : ∃ v : Int32, v = y4 + 1 := ⟨_, rfl⟩
        have h := h v56 ev56
        refine aw_iinc (pc := 56) 4 v56 [(4, .int v56), (0, .ref 233), (1, .int x1), (2, .int x2), (3, .int x3)] dX10_least_56 rfl (by rw [ev56]; rfl) (by decide) rfl ?_
        refine aw_goto (pc := 59) 34 dX10_least_59 (by decide) ?_
        refine aw_sub (L' := [(0, .ref 233), (1, .int x1), (2, .int x2), (3, .int x3), (4, .int v56)]) [1, 2, 3, 4, 0] rfl ?_
        exact ih v56  _ h
      · have h := h.2 q
        refine aw_iload (pc := 53) 4 dX10_least_53 rfl ?_
        exact aw_iret (pc := 55) rfl dX10_least_55 ⟨_, rfl, h⟩
def wp_X10_least (x1 : Int32) (x2 : Int32) (x3 : Int32) (σ : Sg) (K : Int32 → Sg → Prop) : Prop :=
  ∀ τ2 : Sg, τ2 = up σ 233 0 0 → (wp_X10_isTie x1 τ2 <| fun r7_ τ7 => (br (r7_ = 0) (K (-1) τ7) (br (x2 < 0) (K (-1) τ7) (wp_X10_within (Int32.toInt64 x3) 0 2 τ7 <| fun r23_ τ23 => (br (r23_ = 0) (K (-1) τ23) (∃ nf, b_X10_least_34 x1 x2 x3  K nf 0 τ23))))))
set_option maxRecDepth 20000 in
set_option maxHeartbeats 2000000 in
theorem ev_X10_least (l : Launch) (x1 : Int32) (x2 : Int32) (x3 : Int32) {σ : Sg} {K : Int32 → Sg → Prop} (h : wp_X10_least x1 x2 x3 σ K) : Ev l yX10_least cX10_least 5 (some .int) 4 [.ref 233, .int x1, .int x2, .int x3] σ (qI K) := by
  refine ev_ov (by decide) (Nat.le_of_ble_eq_true rfl) ?_
  show AV l RX10 cX10_least 5 (some .int) 4 (qI K) 0 [(0, .ref 233), (1, .int x1), (2, .int x2), (3, .int x3)] [] σ
  refine aw_aload_n (pc := 0) 0 dX10_least_0 rfl ?_
  refine aw_iconst (pc := 1) 0 dX10_least_1 (by decide) ?_
  refine aw_put (pc := 2) 0 kcX10 dX10_least_2 lfX10_91 nn_233 ki_233 (by decide) rfl rfl rfl rfl ?_
  refine aw_tops (fun τ2 eτ2 => ?_)
  have h := h τ2 eτ2
  refine aw_aload_n (pc := 5) 0 dX10_least_5 rfl ?_
  refine aw_iload_n (pc := 6) 1 dX10_least_6 rfl ?_
  refine aw_callV (pc := 7) (As := [.int x1]) (rest := []) kcX10 nn_233 ki_233 rfl (ev_X10_isTie l x1 h) mfX10_isTie dX10_least_7 lmX10_294 ⟨Nat.le_refl _, Nat.le_refl _⟩ (by decide) rfl rfl (Nat.le_of_ble_eq_true rfl) (nxI (fun r7_ τ7 h => ?_))
  refine aw_if_eq (pc := 10) 29 dX10_least_10 (by decide) (fun q => ?_) (fun q => ?_)
  · have h := h.1 q
    refine aw_iconst (pc := 29) (-1) dX10_least_29 (by decide) ?_
    exact aw_iret (pc := 30) rfl dX10_least_30 ⟨_, rfl, h⟩
  · have h := h.2 q
    refine aw_iload_n (pc := 13) 2 dX10_least_13 rfl ?_
    refine aw_if_lt (pc := 14) 29 dX10_least_14 (by decide) (fun q => ?_) (fun q => ?_)
    · have h := h.1 q
      refine aw_iconst (pc := 29) (-1) dX10_least_29 (by decide) ?_
      exact aw_iret (pc := 30) rfl dX10_least_30 ⟨_, rfl, h⟩
    · have h := h.2 q
      refine aw_iload_n (pc := 17) 3 dX10_least_17 rfl ?_
      refine aw_i2l (pc := 18) dX10_least_18 ?_
      refine aw_lconst (pc := 19) 0 dX10_least_19 (by decide) ?_
      refine aw_ldc2 (pc := 20) 2 dX10_least_20 lclX10_299 ?_
      refine aw_callS (pc := 23) (As := [.long (Int32.toInt64 x3), .long 0, .long 2]) (rest := []) (ev_X10_within l (Int32.toInt64 x3) 0 2 h) mfX10_within dX10_least_23 lmX10_94 ⟨Nat.le_refl _, Nat.le_refl _⟩ (by decide) rfl rfl (Nat.le_of_ble_eq_true rfl) (nxI (fun r23_ τ23 h => ?_))
      refine aw_if_ne (pc := 26) 31 dX10_least_26 (by decide) (fun q => ?_) (fun q => ?_)
      · have h := h.2 q
        refine aw_iconst (pc := 31) 0 dX10_least_31 (by decide) ?_
        refine aw_istore (pc := 32) [(4, .int 0), (0, .ref 233), (1, .int x1), (2, .int x2), (3, .int x3)] dX10_least_32 (by decide) rfl ?_
        refine aw_sub (L' := [(0, .ref 233), (1, .int x1), (2, .int x2), (3, .int x3), (4, .int 0)]) [1, 2, 3, 4, 0] rfl ?_
        obtain ⟨nf, h⟩ := h
        exact bt_X10_least_34 l x1 x2 x3   nf 0  _ h
      · have h := h.1 q
        refine aw_iconst (pc := 29) (-1) dX10_least_29 (by decide) ?_
        exact aw_iret (pc := 30) rfl dX10_least_30 ⟨_, rfl, h⟩
def wp_X10_byCup (x1 : Int32) (x2 : Int32) (x3 : Int32) (σ : Sg) (K : Int32 → Sg → Prop) : Prop :=
  ∀ τ2 : Sg, τ2 = up σ 233 0 0 → (wp_X10_isTie x1 τ2 <| fun r7_ τ7 => (br (r7_ = 0) (K (-1) τ7) (wp_X10_isCup x2 τ7 <| fun r15_ τ15 => (br (r15_ = 0) (K (-1) τ15) (wp_X10_within (Int32.toInt64 x3) 0 2 τ15 <| fun r27_ τ27 => (br (r27_ = 0) (K (-1) τ27) (wp_X10_hadBy x1 x2 x3 τ27 <| fun r37_ τ37 => (K r37_ τ37))))))))
set_option maxRecDepth 20000 in
set_option maxHeartbeats 2000000 in
theorem ev_X10_byCup (l : Launch) (x1 : Int32) (x2 : Int32) (x3 : Int32) {σ : Sg} {K : Int32 → Sg → Prop} (h : wp_X10_byCup x1 x2 x3 σ K) : Ev l yX10_byCup cX10_byCup 4 (some .int) 4 [.ref 233, .int x1, .int x2, .int x3] σ (qI K) := by
  refine ev_ov (by decide) (Nat.le_of_ble_eq_true rfl) ?_
  show AV l RX10 cX10_byCup 4 (some .int) 4 (qI K) 0 [(0, .ref 233), (1, .int x1), (2, .int x2), (3, .int x3)] [] σ
  refine aw_aload_n (pc := 0) 0 dX10_byCup_0 rfl ?_
  refine aw_iconst (pc := 1) 0 dX10_byCup_1 (by decide) ?_
  refine aw_put (pc := 2) 0 kcX10 dX10_byCup_2 lfX10_91 nn_233 ki_233 (by decide) rfl rfl rfl rfl ?_
  refine aw_tops (fun τ2 eτ2 => ?_)
  have h := h τ2 eτ2
  refine aw_aload_n (pc := 5) 0 dX10_byCup_5 rfl ?_
  refine aw_iload_n (pc := 6) 1 dX10_byCup_6 rfl ?_
  refine aw_callV (pc := 7) (As := [.int x1]) (rest := []) kcX10 nn_233 ki_233 rfl (ev_X10_isTie l x1 h) mfX10_isTie dX10_byCup_7 lmX10_294 ⟨Nat.le_refl _, Nat.le_refl _⟩ (by decide) rfl rfl (Nat.le_of_ble_eq_true rfl) (nxI (fun r7_ τ7 h => ?_))
  refine aw_if_eq (pc := 10) 43 dX10_byCup_10 (by decide) (fun q => ?_) (fun q => ?_)
  · have h := h.1 q
    refine aw_iconst (pc := 43) (-1) dX10_byCup_43 (by decide) ?_
    exact aw_iret (pc := 44) rfl dX10_byCup_44 ⟨_, rfl, h⟩
  · have h := h.2 q
    refine aw_aload_n (pc := 13) 0 dX10_byCup_13 rfl ?_
    refine aw_iload_n (pc := 14) 2 dX10_byCup_14 rfl ?_
    refine aw_callV (pc := 15) (As := [.int x2]) (rest := []) kcX10 nn_233 ki_233 rfl (ev_X10_isCup l x2 h) mfX10_isCup dX10_byCup_15 lmX10_278 ⟨Nat.le_refl _, Nat.le_refl _⟩ (by decide) rfl rfl (Nat.le_of_ble_eq_true rfl) (nxI (fun r15_ τ15 h => ?_))
    refine aw_if_eq (pc := 18) 43 dX10_byCup_18 (by decide) (fun q => ?_) (fun q => ?_)
    · have h := h.1 q
      refine aw_iconst (pc := 43) (-1) dX10_byCup_43 (by decide) ?_
      exact aw_iret (pc := 44) rfl dX10_byCup_44 ⟨_, rfl, h⟩
    · have h := h.2 q
      refine aw_iload_n (pc := 21) 3 dX10_byCup_21 rfl ?_
      refine aw_i2l (pc := 22) dX10_byCup_22 ?_
      refine aw_lconst (pc := 23) 0 dX10_byCup_23 (by decide) ?_
      refine aw_ldc2 (pc := 24) 2 dX10_byCup_24 lclX10_299 ?_
      refine aw_callS (pc := 27) (As := [.long (Int32.toInt64 x3), .long 0, .long 2]) (rest := []) (ev_X10_within l (Int32.toInt64 x3) 0 2 h) mfX10_within dX10_byCup_27 lmX10_94 ⟨Nat.le_refl _, Nat.le_refl _⟩ (by decide) rfl rfl (Nat.le_of_ble_eq_true rfl) (nxI (fun r27_ τ27 h => ?_))
      refine aw_if_eq (pc := 30) 43 dX10_byCup_30 (by decide) (fun q => ?_) (fun q => ?_)
      · have h := h.1 q
        refine aw_iconst (pc := 43) (-1) dX10_byCup_43 (by decide) ?_
        exact aw_iret (pc := 44) rfl dX10_byCup_44 ⟨_, rfl, h⟩
      · have h := h.2 q
        refine aw_aload_n (pc := 33) 0 dX10_byCup_33 rfl ?_
        refine aw_iload_n (pc := 34) 1 dX10_byCup_34 rfl ?_
        refine aw_iload_n (pc := 35) 2 dX10_byCup_35 rfl ?_
        refine aw_iload_n (pc := 36) 3 dX10_byCup_36 rfl ?_
        refine aw_callV (pc := 37) (As := [.int x1, .int x2, .int x3]) (rest := []) kcX10 nn_233 ki_233 rfl (ev_X10_hadBy l x1 x2 x3 h) mfX10_hadBy dX10_byCup_37 lmX10_420 ⟨Nat.le_refl _, Nat.le_refl _⟩ (by decide) rfl rfl (Nat.le_of_ble_eq_true rfl) (nxI (fun r37_ τ37 h => ?_))
        refine aw_goto (pc := 40) 44 dX10_byCup_40 (by decide) ?_
        exact aw_iret (pc := 44) rfl dX10_byCup_44 ⟨_, rfl, h⟩
def b_X10_fairest_65 (x1 : Int32) (B22 : Int32 → Int32 → Int32 → Sg → Prop) (K : Int32 → Sg → Prop) (y2 : Int32) (y3 : Int32) (y4 : Int32) (z0 : Int32) (σ : Sg) : Prop :=
  br (y2 = (-1)) (∀ v84 : Int32, v84 = y4 + 1 → (B22 y4 z0 v84 σ)) (br (y3 ≤ z0) (∀ v84 : Int32, v84 = y4 + 1 → (B22 y2 y3 v84 σ)) (∀ v84 : Int32, v84 = y4 + 1 → (B22 y4 z0 v84 σ)))
set_option maxRecDepth 20000 in
set_option maxHeartbeats 2000000 in
theorem bt_X10_fairest_65 (l : Launch) (x1 : Int32) {K : Int32 → Sg → Prop} (B22 : Int32 → Int32 → Int32 → Sg → Prop) (hB22 : ∀ (y2 : Int32) (y3 : Int32) (y4 : Int32)  (τ : Sg), B22 y2 y3 y4 τ → AV l RX10 cX10_fairest 6 (some .int) 4 (qI K) 22 [(0, .ref 233), (1, .int x1), (2, .int y2), (3, .int y3), (4, .int y4)] [] τ) (y2 : Int32) (y3 : Int32) (y4 : Int32) (z0 : Int32)  (σ : Sg) (h : b_X10_fairest_65 x1 B22 K y2 y3 y4 z0 σ) : AV l RX10 cX10_fairest 6 (some .int) 4 (qI K) 65 [(0, .ref 233), (1, .int x1), (2, .int y2), (3, .int y3), (4, .int y4)] [.int z0] σ := by
  refine aw_istore (pc := 65) [(5, .int z0), (0, .ref 233), (1, .int x1), (2, .int y2), (3, .int y3), (4, .int y4)] dX10_fairest_65 (by decide) rfl ?_
  refine aw_iload_n (pc := 67) 3 dX10_fairest_67 rfl ?_
  refine aw_iconst (pc := 68) (-1) dX10_fairest_68 (by decide) ?_
  refine aw_icmp_eq (pc := 69) 78 dX10_fairest_69 (by decide) (fun q => ?_) (fun q => ?_)
  · have h := h.1 q
    refine aw_iload (pc := 78) 5 dX10_fairest_78 rfl ?_
    refine aw_istore_n (pc := 80) (i := 2) [(2, .int y4), (5, .int z0), (0, .ref 233), (1, .int x1), (3, .int y3), (4, .int y4)] dX10_fairest_80 rfl (by decide) rfl ?_
    refine aw_iload (pc := 81) 1 dX10_fairest_81 rfl ?_
    refine aw_istore_n (pc := 83) (i := 3) [(3, .int z0), (2, .int y4), (5, .int z0), (0, .ref 233), (1, .int x1), (4, .int y4)] dX10_fairest_83 rfl (by decide) rfl ?_
    obtain ⟨v84, ev84⟩ : ∃ v : Int32, v = y4 + 1 := ⟨_, rfl⟩
    have h := h v84 ev84
    refine aw_iinc (pc := 84) 5 v84 [(4, .int v84), (3, .int z0), (2, .int y4), (5, .int z0), (0, .ref 233), (1, .int x1)] dX10_fairest_84 rfl (by rw [ev84]; rfl) (by decide) rfl ?_
    refine aw_goto (pc := 87) 22 dX10_fairest_87 (by decide) ?_
    refine aw_sub (L' := [(0, .ref 233), (1, .int x1), (2, .int y4), (3, .int z0), (4, .int v84)]) [4, 5, 2, 1, 0] rfl ?_
    exact hB22 y4 z0 v84  _ h
  · have h := h.2 q
    refine aw_iload (pc := 72) 0 dX10_fairest_72 rfl ?_
    refine aw_iload_n (pc := 74) 4 dX10_fairest_74 rfl ?_
    refine aw_icmp_ge (pc := 75) 84 dX10_fairest_75 (by decide) (fun q => ?_) (fun q => ?_)
    · have h := h.1 q
      obtain ⟨v84, ev84⟩ : ∃ v : Int32, v = y4 + 1 := ⟨_, rfl⟩
      have h := h v84 ev84
      refine aw_iinc (pc := 84) 5 v84 [(4, .int v84), (5, .int z0), (0, .ref 233), (1, .int x1), (2, .int y2), (3, .int y3)] dX10_fairest_84 rfl (by rw [ev84]; rfl) (by decide) rfl ?_
      refine aw_goto (pc := 87) 22 dX10_fairest_87 (by decide) ?_
      refine aw_sub (L' := [(0, .ref 233), (1, .int x1), (2, .int y2), (3, .int y3), (4, .int v84)]) [2, 3, 4, 5, 0] rfl ?_
      exact hB22 y2 y3 v84  _ h
    · have h := h.2 q
      refine aw_iload (pc := 78) 5 dX10_fairest_78 rfl ?_
      refine aw_istore_n (pc := 80) (i := 2) [(2, .int y4), (5, .int z0), (0, .ref 233), (1, .int x1), (3, .int y3), (4, .int y4)] dX10_fairest_80 rfl (by decide) rfl ?_
      refine aw_iload (pc := 81) 1 dX10_fairest_81 rfl ?_
      refine aw_istore_n (pc := 83) (i := 3) [(3, .int z0), (2, .int y4), (5, .int z0), (0, .ref 233), (1, .int x1), (4, .int y4)] dX10_fairest_83 rfl (by decide) rfl ?_
      obtain ⟨v84, ev84⟩ : ∃ v : Int32, v = y4 + 1 := ⟨_, rfl⟩
      have h := h v84 ev84
      refine aw_iinc (pc := 84) 5 v84 [(4, .int v84), (3, .int z0), (2, .int y4), (5, .int z0), (0, .ref 233), (1, .int x1)] dX10_fairest_84 rfl (by rw [ev84]; rfl) (by decide) rfl ?_
      refine aw_goto (pc := 87) 22 dX10_fairest_87 (by decide) ?_
      refine aw_sub (L' := [(0, .ref 233), (1, .int x1), (2, .int y4), (3, .int z0), (4, .int v84)]) [4, 5, 2, 1, 0] rfl ?_
      exact hB22 y4 z0 v84  _ h
def b_X10_fairest_22 (x1 : Int32)  (K : Int32 → Sg → Prop) : Nat → Int32 → Int32 → Int32 → Sg → Prop
  | 0, _, _, _, _ => False
  | n + 1, y2, y3, y4, σ =>
  br ((σ 234 1) ≤ y4) (K y2 σ) (wp_X10_hadBy x1 y4 0 σ <| fun r38_ τ38 => (wp_X10_hadBy x1 y4 1 τ38 <| fun r46_ τ46 => (∀ v50 : Int32, v50 = r38_ - r46_ → (br (0 ≤ v50) (b_X10_fairest_65 x1 (fun y2' y3' y4' τ => b_X10_fairest_22 x1  K n y2' y3' y4' τ) K y2 y3 y4 v50 τ46) (b_X10_fairest_65 x1 (fun y2' y3' y4' τ => b_X10_fairest_22 x1  K n y2' y3' y4' τ) K y2 y3 y4 (0 - v50) τ46)))))
set_option maxRecDepth 20000 in
set_option maxHeartbeats 2000000 in
theorem bt_X10_fairest_22 (l : Launch) (x1 : Int32) {K : Int32 → Sg → Prop}   : ∀ (n : Nat) (y2 : Int32) (y3 : Int32) (y4 : Int32)  (σ : Sg), b_X10_fairest_22 x1  K n y2 y3 y4 σ → AV l RX10 cX10_fairest 6 (some .int) 4 (qI K) 22 [(0, .ref 233), (1, .int x1), (2, .int y2), (3, .int y3), (4, .int y4)] [] σ := by
  intro n
  induction n with
  | zero => intro y2 y3 y4 σ h; exact h.elim
  | succ n ih =>
    intro y2 y3 y4 σ h
    refine aw_iload (pc := 22) 4 dX10_fairest_22 rfl ?_
    refine aw_aload_n (pc := 24) 0 dX10_fairest_24 rfl ?_
    refine aw_getR (pc := 25) 1 kcX10 dX10_fairest_25 lfX10_7 nn_233 ki_233 (by decide) rfl rf_233_1 ?_
    refine aw_iconst (pc := 28) 1 dX10_fairest_28 (by decide) ?_
    refine aw_iald (pc := 29) (j := 1) dX10_fairest_29 nn_234 ki_234 ln_234 (show vp_in _ _ by unfold vp_in; decide) (by decide) ?_
    refine aw_icmp_ge (pc := 30) 90 dX10_fairest_30 (by decide) (fun q => ?_) (fun q => ?_)
    · have h := h.1 q
      refine aw_iload_n (pc := 90) 2 dX10_fairest_90 rfl ?_
      exact aw_iret (pc := 91) rfl dX10_fairest_91 ⟨_, rfl, h⟩
    · have h := h.2 q
      refine aw_aload_n (pc := 33) 0 dX10_fairest_33 rfl ?_
      refine aw_iload_n (pc := 34) 1 dX10_fairest_34 rfl ?_
      refine aw_iload (pc := 35) 4 dX10_fairest_35 rfl ?_
      refine aw_iconst (pc := 37) 0 dX10_fairest_37 (by decide) ?_
      refine aw_callV (pc := 38) (As := [.int x1, .int y4, .int 0]) (rest := []) kcX10 nn_233 ki_233 rfl (ev_X10_hadBy l x1 y4 0 h) mfX10_hadBy dX10_fairest_38 lmX10_420 ⟨Nat.le_refl _, Nat.le_refl _⟩ (by decide) rfl rfl (Nat.le_of_ble_eq_true rfl) (nxI (fun r38_ τ38 h => ?_))
      refine aw_aload_n (pc := 41) 0 dX10_fairest_41 rfl ?_
      refine aw_iload_n (pc := 42) 1 dX10_fairest_42 rfl ?_
      refine aw_iload (pc := 43) 4 dX10_fairest_43 rfl ?_
      refine aw_iconst (pc := 45) 1 dX10_fairest_45 (by decide) ?_
      refine aw_callV (pc := 46) (As := [.int x1, .int y4, .int 1]) (rest := [.int r38_]) kcX10 nn_233 ki_233 rfl (ev_X10_hadBy l x1 y4 1 h) mfX10_hadBy dX10_fairest_46 lmX10_420 ⟨Nat.le_refl _, Nat.le_refl _⟩ (by decide) rfl rfl (Nat.le_of_ble_eq_true rfl) (nxI (fun r46_ τ46 h => ?_))
      refine aw_isub (pc := 49) dX10_fairest_49 ?_
      refine aw_topi (fun v50 ev50 => ?_)
      have h := h v50 ev50
      refine aw_istore (pc := 50) [(5, .int v50), (0, .ref 233), (1, .int x1), (2, .int y2), (3, .int y3), (4, .int y4)] dX10_fairest_50 (by decide) rfl ?_
      refine aw_iload (pc := 52) 0 dX10_fairest_52 rfl ?_
      refine aw_if_ge (pc := 54) 63 dX10_fairest_54 (by decide) (fun q => ?_) (fun q => ?_)
      · have h := h.1 q
        refine aw_iload (pc := 63) 0 dX10_fairest_63 rfl ?_
        refine aw_sub (L' := [(0, .ref 233), (1, .int x1), (2, .int y2), (3, .int y3), (4, .int y4)]) [1, 2, 3, 4, 5] rfl ?_
        exact bt_X10_fairest_65 l x1 (fun y2' y3' y4' τ => b_X10_fairest_22 x1  K n y2' y3' y4' τ) (fun y2' y3' y4' τ h => ih y2' y3' y4' τ h) y2 y3 y4 v50  _ h
      · have h := h.2 q
        refine aw_iload (pc := 57) 0 dX10_fairest_57 rfl ?_
        refine aw_ineg (pc := 59) dX10_fairest_59 ?_
        refine aw_goto (pc := 60) 65 dX10_fairest_60 (by decide) ?_
        refine aw_sub (L' := [(0, .ref 233), (1, .int x1), (2, .int y2), (3, .int y3), (4, .int y4)]) [1, 2, 3, 4, 5] rfl ?_
        exact bt_X10_fairest_65 l x1 (fun y2' y3' y4' τ => b_X10_fairest_22 x1  K n y2' y3' y4' τ) (fun y2' y3' y4' τ h => ih y2' y3' y4' τ h) y2 y3 y4 (0 - v50)  _ h
def wp_X10_fairest (x1 : Int32) (σ : Sg) (K : Int32 → Sg → Prop) : Prop :=
  ∀ τ2 : Sg, τ2 = up σ 233 0 0 → (wp_X10_isTie x1 τ2 <| fun r7_ τ7 => (br (r7_ = 0) (K (-1) τ7) (∃ nf, b_X10_fairest_22 x1  K nf (-1) 0 0 τ7)))
set_option maxRecDepth 20000 in
set_option maxHeartbeats 2000000 in
theorem ev_X10_fairest (l : Launch) (x1 : Int32) {σ : Sg} {K : Int32 → Sg → Prop} (h : wp_X10_fairest x1 σ K) : Ev l yX10_fairest cX10_fairest 6 (some .int) 4 [.ref 233, .int x1] σ (qI K) := by
  refine ev_ov (by decide) (Nat.le_of_ble_eq_true rfl) ?_
  show AV l RX10 cX10_fairest 6 (some .int) 4 (qI K) 0 [(0, .ref 233), (1, .int x1)] [] σ
  refine aw_aload_n (pc := 0) 0 dX10_fairest_0 rfl ?_
  refine aw_iconst (pc := 1) 0 dX10_fairest_1 (by decide) ?_
  refine aw_put (pc := 2) 0 kcX10 dX10_fairest_2 lfX10_91 nn_233 ki_233 (by decide) rfl rfl rfl rfl ?_
  refine aw_tops (fun τ2 eτ2 => ?_)
  have h := h τ2 eτ2
  refine aw_aload_n (pc := 5) 0 dX10_fairest_5 rfl ?_
  refine aw_iload_n (pc := 6) 1 dX10_fairest_6 rfl ?_
  refine aw_callV (pc := 7) (As := [.int x1]) (rest := []) kcX10 nn_233 ki_233 rfl (ev_X10_isTie l x1 h) mfX10_isTie dX10_fairest_7 lmX10_294 ⟨Nat.le_refl _, Nat.le_refl _⟩ (by decide) rfl rfl (Nat.le_of_ble_eq_true rfl) (nxI (fun r7_ τ7 h => ?_))
  refine aw_if_ne (pc := 10) 15 dX10_fairest_10 (by decide) (fun q => ?_) (fun q => ?_)
  · have h := h.2 q
    refine aw_iconst (pc := 15) (-1) dX10_fairest_15 (by decide) ?_
    refine aw_istore_n (pc := 16) (i := 2) [(2, .int (-1)), (0, .ref 233), (1, .int x1)] dX10_fairest_16 rfl (by decide) rfl ?_
    refine aw_iconst (pc := 17) 0 dX10_fairest_17 (by decide) ?_
    refine aw_istore_n (pc := 18) (i := 3) [(3, .int 0), (2, .int (-1)), (0, .ref 233), (1, .int x1)] dX10_fairest_18 rfl (by decide) rfl ?_
    refine aw_iconst (pc := 19) 0 dX10_fairest_19 (by decide) ?_
    refine aw_istore (pc := 20) [(4, .int 0), (3, .int 0), (2, .int (-1)), (0, .ref 233), (1, .int x1)] dX10_fairest_20 (by decide) rfl ?_
    refine aw_sub (L' := [(0, .ref 233), (1, .int x1), (2, .int (-1)), (3, .int 0), (4, .int 0)]) [3, 4, 2, 1, 0] rfl ?_
    obtain ⟨nf, h⟩ := h
    exact bt_X10_fairest_22 l x1   nf (-1) 0 0  _ h
  · have h := h.1 q
    refine aw_iconst (pc := 13) (-1) dX10_fairest_13 (by decide) ?_
    exact aw_iret (pc := 14) rfl dX10_fairest_14 ⟨_, rfl, h⟩
def wp_X10_tempt (x1 : Int32) (x2 : Int32) (x3 : Int32) (σ : Sg) (K : Int32 → Sg → Prop) : Prop :=
  ∀ τ2 : Sg, τ2 = up σ 233 0 0 → (wp_X10_isTie x1 τ2 <| fun r7_ τ7 => (br (r7_ = 0) (K (-2147483648) τ7) (wp_X10_within (Int32.toInt64 x2) 0 99999 τ7 <| fun r19_ τ19 => (br (r19_ = 0) (K (-2147483648) τ19) (wp_X10_within (Int32.toInt64 x3) 0 1 τ19 <| fun r29_ τ29 => (br (r29_ = 0) (K (-2147483648) τ29) (wp_X10_ofTie x1 0 τ29 <| fun r42_ τ42 => (wp_X10_games x1 τ42 <| fun r49_ τ49 => (wp_X10_layGame x1 r49_ (x2 / 2) r42_ τ49 <| fun τ63 => (wp_X10_hasOf r49_ x3 τ63 <| fun r70_ τ70 => (wp_X10_layGame x1 (r49_ + 1) (x2 - (x2 / 2)) r42_ τ70 <| fun τ88 => (wp_X10_hasOf (r49_ + 1) x3 τ88 <| fun r99_ τ99 => (∀ v103 : Int32, v103 = r70_ + r99_ → (wp_X10_layGame x1 r49_ x2 r42_ τ99 <| fun τ112 => (wp_X10_hasOf r49_ x3 τ112 <| fun r121_ τ121 => (K (v103 - r121_) τ121))))))))))))))))
set_option maxRecDepth 20000 in
set_option maxHeartbeats 2000000 in
theorem ev_X10_tempt (l : Launch) (x1 : Int32) (x2 : Int32) (x3 : Int32) {σ : Sg} {K : Int32 → Sg → Prop} (h : wp_X10_tempt x1 x2 x3 σ K) : Ev l yX10_tempt cX10_tempt 7 (some .int) 3 [.ref 233, .int x1, .int x2, .int x3] σ (qI K) := by
  refine ev_ov (by decide) (Nat.le_of_ble_eq_true rfl) ?_
  show AV l RX10 cX10_tempt 7 (some .int) 3 (qI K) 0 [(0, .ref 233), (1, .int x1), (2, .int x2), (3, .int x3)] [] σ
  refine aw_aload_n (pc := 0) 0 dX10_tempt_0 rfl ?_
  refine aw_iconst (pc := 1) 0 dX10_tempt_1 (by decide) ?_
  refine aw_put (pc := 2) 0 kcX10 dX10_tempt_2 lfX10_91 nn_233 ki_233 (by decide) rfl rfl rfl rfl ?_
  refine aw_tops (fun τ2 eτ2 => ?_)
  have h := h τ2 eτ2
  refine aw_aload_n (pc := 5) 0 dX10_tempt_5 rfl ?_
  refine aw_iload_n (pc := 6) 1 dX10_tempt_6 rfl ?_
  refine aw_callV (pc := 7) (As := [.int x1]) (rest := []) kcX10 nn_233 ki_233 rfl (ev_X10_isTie l x1 h) mfX10_isTie dX10_tempt_7 lmX10_294 ⟨Nat.le_refl _, Nat.le_refl _⟩ (by decide) rfl rfl (Nat.le_of_ble_eq_true rfl) (nxI (fun r7_ τ7 h => ?_))
  refine aw_if_eq (pc := 10) 35 dX10_tempt_10 (by decide) (fun q => ?_) (fun q => ?_)
  · have h := h.1 q
    refine aw_ldcw (pc := 35) (-2147483648) dX10_tempt_35 lcX10_425 ?_
    exact aw_iret (pc := 38) rfl dX10_tempt_38 ⟨_, rfl, h⟩
  · have h := h.2 q
    refine aw_iload_n (pc := 13) 2 dX10_tempt_13 rfl ?_
    refine aw_i2l (pc := 14) dX10_tempt_14 ?_
    refine aw_lconst (pc := 15) 0 dX10_tempt_15 (by decide) ?_
    refine aw_ldc2 (pc := 16) 99999 dX10_tempt_16 lclX10_297 ?_
    refine aw_callS (pc := 19) (As := [.long (Int32.toInt64 x2), .long 0, .long 99999]) (rest := []) (ev_X10_within l (Int32.toInt64 x2) 0 99999 h) mfX10_within dX10_tempt_19 lmX10_94 ⟨Nat.le_refl _, Nat.le_refl _⟩ (by decide) rfl rfl (Nat.le_of_ble_eq_true rfl) (nxI (fun r19_ τ19 h => ?_))
    refine aw_if_eq (pc := 22) 35 dX10_tempt_22 (by decide) (fun q => ?_) (fun q => ?_)
    · have h := h.1 q
      refine aw_ldcw (pc := 35) (-2147483648) dX10_tempt_35 lcX10_425 ?_
      exact aw_iret (pc := 38) rfl dX10_tempt_38 ⟨_, rfl, h⟩
    · have h := h.2 q
      refine aw_iload_n (pc := 25) 3 dX10_tempt_25 rfl ?_
      refine aw_i2l (pc := 26) dX10_tempt_26 ?_
      refine aw_lconst (pc := 27) 0 dX10_tempt_27 (by decide) ?_
      refine aw_lconst (pc := 28) 1 dX10_tempt_28 (by decide) ?_
      refine aw_callS (pc := 29) (As := [.long (Int32.toInt64 x3), .long 0, .long 1]) (rest := []) (ev_X10_within l (Int32.toInt64 x3) 0 1 h) mfX10_within dX10_tempt_29 lmX10_94 ⟨Nat.le_refl _, Nat.le_refl _⟩ (by decide) rfl rfl (Nat.le_of_ble_eq_true rfl) (nxI (fun r29_ τ29 h => ?_))
      refine aw_if_ne (pc := 32) 39 dX10_tempt_32 (by decide) (fun q => ?_) (fun q => ?_)
      · have h := h.2 q
        refine aw_aload_n (pc := 39) 0 dX10_tempt_39 rfl ?_
        refine aw_iload_n (pc := 40) 1 dX10_tempt_40 rfl ?_
        refine aw_iconst (pc := 41) 0 dX10_tempt_41 (by decide) ?_
        refine aw_callV (pc := 42) (As := [.int x1, .int 0]) (rest := []) kcX10 nn_233 ki_233 rfl (ev_X10_ofTie l x1 0 h) mfX10_ofTie dX10_tempt_42 lmX10_252 ⟨Nat.le_refl _, Nat.le_refl _⟩ (by decide) rfl rfl (Nat.le_of_ble_eq_true rfl) (nxI (fun r42_ τ42 h => ?_))
        refine aw_istore (pc := 45) [(4, .int r42_), (0, .ref 233), (1, .int x1), (2, .int x2), (3, .int x3)] dX10_tempt_45 (by decide) rfl ?_
        refine aw_aload_n (pc := 47) 1 dX10_tempt_47 rfl ?_
        refine aw_iload_n (pc := 48) 2 dX10_tempt_48 rfl ?_
        refine aw_callV (pc := 49) (As := [.int x1]) (rest := []) kcX10 nn_233 ki_233 rfl (ev_X10_games l x1 h) mfX10_games dX10_tempt_49 lmX10_255 ⟨Nat.le_refl _, Nat.le_refl _⟩ (by decide) rfl rfl (Nat.le_of_ble_eq_true rfl) (nxI (fun r49_ τ49 h => ?_))
        refine aw_istore (pc := 52) [(5, .int r49_), (4, .int r42_), (0, .ref 233), (1, .int x1), (2, .int x2), (3, .int x3)] dX10_tempt_52 (by decide) rfl ?_
        refine aw_aload_n (pc := 54) 2 dX10_tempt_54 rfl ?_
        refine aw_iload_n (pc := 55) 3 dX10_tempt_55 rfl ?_
        refine aw_iload (pc := 56) 0 dX10_tempt_56 rfl ?_
        refine aw_iload_n (pc := 58) 4 dX10_tempt_58 rfl ?_
        refine aw_iconst (pc := 59) 2 dX10_tempt_59 (by decide) ?_
        refine aw_idiv (pc := 60) dX10_tempt_60 (by decide) ?_
        refine aw_iload (pc := 61) 1 dX10_tempt_61 rfl ?_
        refine aw_callV (pc := 63) (As := [.int x1, .int r49_, .int (x2 / 2), .int r42_]) (rest := []) kcX10 nn_233 ki_233 rfl (ev_X10_layGame l x1 r49_ (x2 / 2) r42_ h) mfX10_layGame dX10_tempt_63 lmX10_365 ⟨Nat.le_refl _, Nat.le_refl _⟩ (by decide) rfl rfl (Nat.le_of_ble_eq_true rfl) (nxV (fun τ63 h => ?_))
        refine aw_aload_n (pc := 66) 2 dX10_tempt_66 rfl ?_
        refine aw_iload (pc := 67) 0 dX10_tempt_67 rfl ?_
        refine aw_iload_n (pc := 69) 5 dX10_tempt_69 rfl ?_
        refine aw_callV (pc := 70) (As := [.int r49_, .int x3]) (rest := []) kcX10 nn_233 ki_233 rfl (ev_X10_hasOf l r49_ x3 h) mfX10_hasOf dX10_tempt_70 lmX10_415 ⟨Nat.le_refl _, Nat.le_refl _⟩ (by decide) rfl rfl (Nat.le_of_ble_eq_true rfl) (nxI (fun r70_ τ70 h => ?_))
        refine aw_istore (pc := 73) [(6, .int r70_), (5, .int r49_), (4, .int r42_), (0, .ref 233), (1, .int x1), (2, .int x2), (3, .int x3)] dX10_tempt_73 (by decide) rfl ?_
        refine aw_aload_n (pc := 75) 3 dX10_tempt_75 rfl ?_
        refine aw_iload_n (pc := 76) 4 dX10_tempt_76 rfl ?_
        refine aw_iload (pc := 77) 1 dX10_tempt_77 rfl ?_
        refine aw_iconst (pc := 79) 1 dX10_tempt_79 (by decide) ?_
        refine aw_iadd (pc := 80) dX10_tempt_80 ?_
        refine aw_iload_n (pc := 81) 5 dX10_tempt_81 rfl ?_
        refine aw_iload_n (pc := 82) 5 dX10_tempt_82 rfl ?_
        refine aw_iconst (pc := 83) 2 dX10_tempt_83 (by decide) ?_
        refine aw_idiv (pc := 84) dX10_tempt_84 (by decide) ?_
        refine aw_isub (pc := 85) dX10_tempt_85 ?_
        refine aw_iload (pc := 86) 2 dX10_tempt_86 rfl ?_
        refine aw_callV (pc := 88) (As := [.int x1, .int (r49_ + 1), .int (x2 - (x2 / 2)), .int r42_]) (rest := []) kcX10 nn_233 ki_233 rfl (ev_X10_layGame l x1 (r49_ + 1) (x2 - (x2 / 2)) r42_ h) mfX10_layGame dX10_tempt_88 lmX10_365 ⟨Nat.le_refl _, Nat.le_refl _⟩ (by decide) rfl rfl (Nat.le_of_ble_eq_true rfl) (nxV (fun τ88 h => ?_))
        refine aw_iload (pc := 91) 0 dX10_tempt_91 rfl ?_
        refine aw_aload_n (pc := 93) 3 dX10_tempt_93 rfl ?_
        refine aw_iload (pc := 94) 1 dX10_tempt_94 rfl ?_
        refine aw_iconst (pc := 96) 1 dX10_tempt_96 (by decide) ?_
        refine aw_iadd (pc := 97) dX10_tempt_97 ?_
        refine aw_iload_n (pc := 98) 6 dX10_tempt_98 rfl ?_
        refine aw_callV (pc := 99) (As := [.int (r49_ + 1), .int x3]) (rest := [.int r70_]) kcX10 nn_233 ki_233 rfl (ev_X10_hasOf l (r49_ + 1) x3 h) mfX10_hasOf dX10_tempt_99 lmX10_415 ⟨Nat.le_refl _, Nat.le_refl _⟩ (by decide) rfl rfl (Nat.le_of_ble_eq_true rfl) (nxI (fun r99_ τ99 h => ?_))
        refine aw_iadd (pc := 102) dX10_tempt_102 ?_
        refine aw_topi (fun v103 ev103 => ?_)
        have h := h v103 ev103
        refine aw_istore (pc := 103) [(6, .int v103), (5, .int r49_), (4, .int r42_), (0, .ref 233), (1, .int x1), (2, .int x2), (3, .int x3)] dX10_tempt_103 (by decide) rfl ?_
        refine aw_aload_n (pc := 105) 3 dX10_tempt_105 rfl ?_
        refine aw_iload_n (pc := 106) 4 dX10_tempt_106 rfl ?_
        refine aw_iload (pc := 107) 1 dX10_tempt_107 rfl ?_
        refine aw_iload_n (pc := 109) 5 dX10_tempt_109 rfl ?_
        refine aw_iload (pc := 110) 2 dX10_tempt_110 rfl ?_
        refine aw_callV (pc := 112) (As := [.int x1, .int r49_, .int x2, .int r42_]) (rest := []) kcX10 nn_233 ki_233 rfl (ev_X10_layGame l x1 r49_ x2 r42_ h) mfX10_layGame dX10_tempt_112 lmX10_365 ⟨Nat.le_refl _, Nat.le_refl _⟩ (by decide) rfl rfl (Nat.le_of_ble_eq_true rfl) (nxV (fun τ112 h => ?_))
        refine aw_iload (pc := 115) 0 dX10_tempt_115 rfl ?_
        refine aw_aload_n (pc := 117) 3 dX10_tempt_117 rfl ?_
        refine aw_iload (pc := 118) 1 dX10_tempt_118 rfl ?_
        refine aw_iload_n (pc := 120) 6 dX10_tempt_120 rfl ?_
        refine aw_callV (pc := 121) (As := [.int r49_, .int x3]) (rest := [.int v103]) kcX10 nn_233 ki_233 rfl (ev_X10_hasOf l r49_ x3 h) mfX10_hasOf dX10_tempt_121 lmX10_415 ⟨Nat.le_refl _, Nat.le_refl _⟩ (by decide) rfl rfl (Nat.le_of_ble_eq_true rfl) (nxI (fun r121_ τ121 h => ?_))
        refine aw_isub (pc := 124) dX10_tempt_124 ?_
        exact aw_iret (pc := 125) rfl dX10_tempt_125 ⟨_, rfl, h⟩
      · have h := h.1 q
        refine aw_ldcw (pc := 35) (-2147483648) dX10_tempt_35 lcX10_425 ?_
        exact aw_iret (pc := 38) rfl dX10_tempt_38 ⟨_, rfl, h⟩
def b_X10_ifGate_94 (x1 : Int32) (x2 : Int32) (x3 : Int32)  (K : Int32 → Sg → Prop) : Nat → Int32 → Int32 → Sg → Prop
  | 0, _, _, _ => False
  | n + 1, y6, y7, σ =>
  wp_X10_clubs  σ <| fun r97_ τ97 => (br (r97_ ≤ y7) (K y6 τ97) (wp_X10_lacks y7 τ97 <| fun r108_ τ108 => (∀ v112 : Int32, v112 = y6 + r108_ → (∀ v114 : Int32, v114 = y7 + 1 → (b_X10_ifGate_94 x1 x2 x3  K n v112 v114 τ108)))))
set_option maxRecDepth 20000 in
set_option maxHeartbeats 2000000 in
theorem bt_X10_ifGate_94 (l : Launch) (x1 : Int32) (x2 : Int32) (x3 : Int32) {K : Int32 → Sg → Prop}   : ∀ (n : Nat) (y6 : Int32) (y7 : Int32)  (σ : Sg), b_X10_ifGate_94 x1 x2 x3  K n y6 y7 σ → AV l RX10 cX10_ifGate 8 (some .int) 8 (qI K) 94 [(0, .ref 233), (6, .int y6), (7, .int y7)] [] σ := by
  intro n
  induction n with
  | zero => intro y6 y7 σ h; exact h.elim
  | succ n ih =>
    intro y6 y7 σ h
    refine aw_iload (pc := 94) 2 dX10_ifGate_94 rfl ?_
    refine aw_aload_n (pc := 96) 0 dX10_ifGate_96 rfl ?_
    refine aw_callV (pc := 97) (As := []) (rest := [.int y7]) kcX10 nn_233 ki_233 rfl (ev_X10_clubs l  h) mfX10_clubs dX10_ifGate_97 lmX10_384 ⟨Nat.le_refl _, Nat.le_refl _⟩ (by decide) rfl rfl (Nat.le_of_ble_eq_true rfl) (nxI (fun r97_ τ97 h => ?_))
    refine aw_icmp_ge (pc := 100) 120 dX10_ifGate_100 (by decide) (fun q => ?_) (fun q => ?_)
    · have h := h.1 q
      refine aw_iload (pc := 120) 1 dX10_ifGate_120 rfl ?_
      exact aw_iret (pc := 122) rfl dX10_ifGate_122 ⟨_, rfl, h⟩
    · have h := h.2 q
      refine aw_iload (pc := 103) 1 dX10_ifGate_103 rfl ?_
      refine aw_aload_n (pc := 105) 0 dX10_ifGate_105 rfl ?_
      refine aw_iload (pc := 106) 2 dX10_ifGate_106 rfl ?_
      refine aw_callV (pc := 108) (As := [.int y7]) (rest := [.int y6]) kcX10 nn_233 ki_233 rfl (ev_X10_lacks l y7 h) mfX10_lacks dX10_ifGate_108 lmX10_387 ⟨Nat.le_refl _, Nat.le_refl _⟩ (by decide) rfl rfl (Nat.le_of_ble_eq_true rfl) (nxI (fun r108_ τ108 h => ?_))
      refine aw_iadd (pc := 111) dX10_ifGate_111 ?_
      refine aw_topi (fun v112 ev112 => ?_)
      have h := h v112 ev112
      refine aw_istore (pc := 112) [(6, .int v112), (0, .ref 233), (7, .int y7)] dX10_ifGate_112 (by decide) rfl ?_
      obtain ⟨v114, ev114⟩ : ∃ v : Int32, v = y7 + 1 := ⟨_, rfl⟩
      have h := h v114 ev114
      refine aw_iinc (pc := 114) 2 v114 [(7, .int v114), (6, .int v112), (0, .ref 233)] dX10_ifGate_114 rfl (by rw [ev114]; rfl) (by decide) rfl ?_
      refine aw_goto (pc := 117) 94 dX10_ifGate_117 (by decide) ?_
      refine aw_sub (L' := [(0, .ref 233), (6, .int v112), (7, .int v114)]) [2, 1, 0] rfl ?_
      exact ih v112 v114  _ h
def wp_X10_ifGate (x1 : Int32) (x2 : Int32) (x3 : Int32) (σ : Sg) (K : Int32 → Sg → Prop) : Prop :=
  ∀ τ2 : Sg, τ2 = up σ 233 0 0 → (wp_X10_isTie x1 τ2 <| fun r7_ τ7 => (br (r7_ = 0) (K (-1) τ7) (wp_X10_games x1 τ7 <| fun r18_ τ18 => (wp_X10_within (Int32.toInt64 x2) 0 ((Int32.toInt64 r18_) - 1) τ18 <| fun r24_ τ24 => (br (r24_ = 0) (K (-1) τ24) (wp_X10_within (Int32.toInt64 x3) 0 99999 τ24 <| fun r36_ τ36 => (br (r36_ = 0) (K (-1) τ36) (∀ v56 : Int32, v56 = ((1 + (13 * x1)) + 5) + (2 * x2) → (vp_in v56 415 ∧ (∀ v65 : Int32, v65 = τ36 236 v56.toNatClampNeg → (vp_in v56 415 ∧ (∀ τ74 : Sg, τ74 = up τ36 236 v56.toNatClampNeg x3 → (wp_X10_layAll  τ74 <| fun τ76 => (vp_in v56 415 ∧ (∀ τ87 : Sg, τ87 = up τ76 236 v56.toNatClampNeg v65 → (∃ nf, b_X10_ifGate_94 x1 x2 x3  K nf 0 0 τ87))))))))))))))))
set_option maxRecDepth 20000 in
set_option maxHeartbeats 2000000 in
theorem ev_X10_ifGate (l : Launch) (x1 : Int32) (x2 : Int32) (x3 : Int32) {σ : Sg} {K : Int32 → Sg → Prop} (h : wp_X10_ifGate x1 x2 x3 σ K) : Ev l yX10_ifGate cX10_ifGate 8 (some .int) 8 [.ref 233, .int x1, .int x2, .int x3] σ (qI K) := by
  refine ev_ov (by decide) (Nat.le_of_ble_eq_true rfl) ?_
  show AV l RX10 cX10_ifGate 8 (some .int) 8 (qI K) 0 [(0, .ref 233), (1, .int x1), (2, .int x2), (3, .int x3)] [] σ
  refine aw_aload_n (pc := 0) 0 dX10_ifGate_0 rfl ?_
  refine aw_iconst (pc := 1) 0 dX10_ifGate_1 (by decide) ?_
  refine aw_put (pc := 2) 0 kcX10 dX10_ifGate_2 lfX10_91 nn_233 ki_233 (by decide) rfl rfl rfl rfl ?_
  refine aw_tops (fun τ2 eτ2 => ?_)
  have h := h τ2 eτ2
  refine aw_aload_n (pc := 5) 0 dX10_ifGate_5 rfl ?_
  refine aw_iload_n (pc := 6) 1 dX10_ifGate_6 rfl ?_
  refine aw_callV (pc := 7) (As := [.int x1]) (rest := []) kcX10 nn_233 ki_233 rfl (ev_X10_isTie l x1 h) mfX10_isTie dX10_ifGate_7 lmX10_294 ⟨Nat.le_refl _, Nat.le_refl _⟩ (by decide) rfl rfl (Nat.le_of_ble_eq_true rfl) (nxI (fun r7_ τ7 h => ?_))
  refine aw_if_eq (pc := 10) 42 dX10_ifGate_10 (by decide) (fun q => ?_) (fun q => ?_)
  · have h := h.1 q
    refine aw_iconst (pc := 42) (-1) dX10_ifGate_42 (by decide) ?_
    exact aw_iret (pc := 43) rfl dX10_ifGate_43 ⟨_, rfl, h⟩
  · have h := h.2 q
    refine aw_iload_n (pc := 13) 2 dX10_ifGate_13 rfl ?_
    refine aw_i2l (pc := 14) dX10_ifGate_14 ?_
    refine aw_lconst (pc := 15) 0 dX10_ifGate_15 (by decide) ?_
    refine aw_aload_n (pc := 16) 0 dX10_ifGate_16 rfl ?_
    refine aw_iload_n (pc := 17) 1 dX10_ifGate_17 rfl ?_
    refine aw_callV (pc := 18) (As := [.int x1]) (rest := [.long 0, .long (Int32.toInt64 x2)]) kcX10 nn_233 ki_233 rfl (ev_X10_games l x1 h) mfX10_games dX10_ifGate_18 lmX10_255 ⟨Nat.le_refl _, Nat.le_refl _⟩ (by decide) rfl rfl (Nat.le_of_ble_eq_true rfl) (nxI (fun r18_ τ18 h => ?_))
    refine aw_i2l (pc := 21) dX10_ifGate_21 ?_
    refine aw_lconst (pc := 22) 1 dX10_ifGate_22 (by decide) ?_
    refine aw_lsub (pc := 23) dX10_ifGate_23 ?_
    refine aw_callS (pc := 24) (As := [.long (Int32.toInt64 x2), .long 0, .long ((Int32.toInt64 r18_) - 1)]) (rest := []) (ev_X10_within l (Int32.toInt64 x2) 0 ((Int32.toInt64 r18_) - 1) h) mfX10_within dX10_ifGate_24 lmX10_94 ⟨Nat.le_refl _, Nat.le_refl _⟩ (by decide) rfl rfl (Nat.le_of_ble_eq_true rfl) (nxI (fun r24_ τ24 h => ?_))
    refine aw_if_eq (pc := 27) 42 dX10_ifGate_27 (by decide) (fun q => ?_) (fun q => ?_)
    · have h := h.1 q
      refine aw_iconst (pc := 42) (-1) dX10_ifGate_42 (by decide) ?_
      exact aw_iret (pc := 43) rfl dX10_ifGate_43 ⟨_, rfl, h⟩
    · have h := h.2 q
      refine aw_iload_n (pc := 30) 3 dX10_ifGate_30 rfl ?_
      refine aw_i2l (pc := 31) dX10_ifGate_31 ?_
      refine aw_lconst (pc := 32) 0 dX10_ifGate_32 (by decide) ?_
      refine aw_ldc2 (pc := 33) 99999 dX10_ifGate_33 lclX10_297 ?_
      refine aw_callS (pc := 36) (As := [.long (Int32.toInt64 x3), .long 0, .long 99999]) (rest := []) (ev_X10_within l (Int32.toInt64 x3) 0 99999 h) mfX10_within dX10_ifGate_36 lmX10_94 ⟨Nat.le_refl _, Nat.le_refl _⟩ (by decide) rfl rfl (Nat.le_of_ble_eq_true rfl) (nxI (fun r36_ τ36 h => ?_))
      refine aw_if_ne (pc := 39) 44 dX10_ifGate_39 (by decide) (fun q => ?_) (fun q => ?_)
      · have h := h.2 q
        refine aw_iconst (pc := 44) 1 dX10_ifGate_44 (by decide) ?_
        refine aw_bipush (pc := 45) 13 dX10_ifGate_45 (by decide) ?_
        refine aw_iload_n (pc := 47) 1 dX10_ifGate_47 rfl ?_
        refine aw_imul (pc := 48) dX10_ifGate_48 ?_
        refine aw_iadd (pc := 49) dX10_ifGate_49 ?_
        refine aw_iconst (pc := 50) 5 dX10_ifGate_50 (by decide) ?_
        refine aw_iadd (pc := 51) dX10_ifGate_51 ?_
        refine aw_iconst (pc := 52) 2 dX10_ifGate_52 (by decide) ?_
        refine aw_iload_n (pc := 53) 2 dX10_ifGate_53 rfl ?_
        refine aw_imul (pc := 54) dX10_ifGate_54 ?_
        refine aw_iadd (pc := 55) dX10_ifGate_55 ?_
        refine aw_topi (fun v56 ev56 => ?_)
        have h := h v56 ev56
        refine aw_istore (pc := 56) [(4, .int v56), (0, .ref 233), (1, .int x1), (2, .int x2), (3, .int x3)] dX10_ifGate_56 (by decide) rfl ?_
        refine aw_aload_n (pc := 58) 1 dX10_ifGate_58 rfl ?_
        refine aw_getR (pc := 59) 3 kcX10 dX10_ifGate_59 lfX10_16 nn_233 ki_233 (by decide) rfl rf_233_3 ?_
        refine aw_iload (pc := 62) 0 dX10_ifGate_62 rfl ?_
        refine aw_iald (pc := 64) (j := v56.toNatClampNeg) dX10_ifGate_64 nn_236 ki_236 ln_236 h.1 rfl ?_
        have h := h.2
        refine aw_topi (fun v65 ev65 => ?_)
        have h := h v65 ev65
        refine aw_istore (pc := 65) [(5, .int v65), (4, .int v56), (0, .ref 233), (1, .int x1), (2, .int x2), (3, .int x3)] dX10_ifGate_65 (by decide) rfl ?_
        refine aw_aload_n (pc := 67) 2 dX10_ifGate_67 rfl ?_
        refine aw_getR (pc := 68) 3 kcX10 dX10_ifGate_68 lfX10_16 nn_233 ki_233 (by decide) rfl rf_233_3 ?_
        refine aw_iload (pc := 71) 1 dX10_ifGate_71 rfl ?_
        refine aw_iload_n (pc := 73) 5 dX10_ifGate_73 rfl ?_
        refine aw_iast (pc := 74) (j := v56.toNatClampNeg) (v := x3) dX10_ifGate_74 nn_236 ki_236 ln_236 h.1 rfl rfl ?_
        have h := h.2
        refine aw_tops (fun τ74 eτ74 => ?_)
        have h := h τ74 eτ74
        refine aw_aload_n (pc := 75) 2 dX10_ifGate_75 rfl ?_
        refine aw_callV (pc := 76) (As := []) (rest := []) kcX10 nn_233 ki_233 rfl (ev_X10_layAll l  h) mfX10_layAll dX10_ifGate_76 lmX10_310 ⟨Nat.le_refl _, Nat.le_refl _⟩ (by decide) rfl rfl (Nat.le_of_ble_eq_true rfl) (nxV (fun τ76 h => ?_))
        refine aw_aload_n (pc := 79) 2 dX10_ifGate_79 rfl ?_
        refine aw_getR (pc := 80) 3 kcX10 dX10_ifGate_80 lfX10_16 nn_233 ki_233 (by decide) rfl rf_233_3 ?_
        refine aw_iload (pc := 83) 1 dX10_ifGate_83 rfl ?_
        refine aw_iload (pc := 85) 0 dX10_ifGate_85 rfl ?_
        refine aw_iast (pc := 87) (j := v56.toNatClampNeg) (v := v65) dX10_ifGate_87 nn_236 ki_236 ln_236 h.1 rfl rfl ?_
        have h := h.2
        refine aw_tops (fun τ87 eτ87 => ?_)
        have h := h τ87 eτ87
        refine aw_iconst (pc := 88) 0 dX10_ifGate_88 (by decide) ?_
        refine aw_istore (pc := 89) [(6, .int 0), (5, .int v65), (4, .int v56), (0, .ref 233), (1, .int x1), (2, .int x2), (3, .int x3)] dX10_ifGate_89 (by decide) rfl ?_
        refine aw_iconst (pc := 91) 0 dX10_ifGate_91 (by decide) ?_
        refine aw_istore (pc := 92) [(7, .int 0), (6, .int 0), (5, .int v65), (4, .int v56), (0, .ref 233), (1, .int x1), (2, .int x2), (3, .int x3)] dX10_ifGate_92 (by decide) rfl ?_
        refine aw_sub (L' := [(0, .ref 233), (6, .int 0), (7, .int 0)]) [4, 1, 0] rfl ?_
        obtain ⟨nf, h⟩ := h
        exact bt_X10_ifGate_94 l x1 x2 x3   nf 0 0  _ h
      · have h := h.1 q
        refine aw_iconst (pc := 42) (-1) dX10_ifGate_42 (by decide) ?_
        exact aw_iret (pc := 43) rfl dX10_ifGate_43 ⟨_, rfl, h⟩
def b_X10_count_77 (x1 : Int32)  (K : Int32 → Sg → Prop) : Nat → Int32 → Int32 → Sg → Prop
  | 0, _, _, _ => False
  | n + 1, y2, y3, σ =>
  br ((σ 236 0) ≤ y3) (K y2 σ) (wp_X10_games y3 σ <| fun r90_ τ90 => (∀ v94 : Int32, v94 = y2 + r90_ → (∀ v95 : Int32, v95 = y3 + 1 → (b_X10_count_77 x1  K n v94 v95 τ90))))
set_option maxRecDepth 20000 in
set_option maxHeartbeats 2000000 in
theorem bt_X10_count_77 (l : Launch) (x1 : Int32) {K : Int32 → Sg → Prop}   : ∀ (n : Nat) (y2 : Int32) (y3 : Int32)  (σ : Sg), b_X10_count_77 x1  K n y2 y3 σ → AV l RX10 cX10_count 4 (some .int) 3 (qI K) 77 [(0, .ref 233), (2, .int y2), (3, .int y3)] [] σ := by
  intro n
  induction n with
  | zero => intro y2 y3 σ h; exact h.elim
  | succ n ih =>
    intro y2 y3 σ h
    refine aw_iload_n (pc := 77) 2 dX10_count_77 rfl ?_
    refine aw_aload_n (pc := 78) 0 dX10_count_78 rfl ?_
    refine aw_getR (pc := 79) 3 kcX10 dX10_count_79 lfX10_16 nn_233 ki_233 (by decide) rfl rf_233_3 ?_
    refine aw_iconst (pc := 82) 0 dX10_count_82 (by decide) ?_
    refine aw_iald (pc := 83) (j := 0) dX10_count_83 nn_236 ki_236 ln_236 (show vp_in _ _ by unfold vp_in; decide) (by decide) ?_
    refine aw_icmp_ge (pc := 84) 101 dX10_count_84 (by decide) (fun q => ?_) (fun q => ?_)
    · have h := h.1 q
      refine aw_iload_n (pc := 101) 1 dX10_count_101 rfl ?_
      exact aw_iret (pc := 102) rfl dX10_count_102 ⟨_, rfl, h⟩
    · have h := h.2 q
      refine aw_iload_n (pc := 87) 1 dX10_count_87 rfl ?_
      refine aw_aload_n (pc := 88) 0 dX10_count_88 rfl ?_
      refine aw_iload_n (pc := 89) 2 dX10_count_89 rfl ?_
      refine aw_callV (pc := 90) (As := [.int y3]) (rest := [.int y2]) kcX10 nn_233 ki_233 rfl (ev_X10_games l y3 h) mfX10_games dX10_count_90 lmX10_255 ⟨Nat.le_refl _, Nat.le_refl _⟩ (by decide) rfl rfl (Nat.le_of_ble_eq_true rfl) (nxI (fun r90_ τ90 h => ?_))
      refine aw_iadd (pc := 93) dX10_count_93 ?_
      refine aw_topi (fun v94 ev94 => ?_)
      have h := h v94 ev94
      refine aw_istore_n (pc := 94) (i := 2) [(2, .int v94), (0, .ref 233), (3, .int y3)] dX10_count_94 rfl (by decide) rfl ?_
      obtain ⟨v95, ev95⟩ : ∃ v : Int32, v = y3 + 1 := ⟨_, rfl⟩
      have h := h v95 ev95
      refine aw_iinc (pc := 95) 2 v95 [(3, .int v95), (2, .int v94), (0, .ref 233)] dX10_count_95 rfl (by rw [ev95]; rfl) (by decide) rfl ?_
      refine aw_goto (pc := 98) 77 dX10_count_98 (by decide) ?_
      refine aw_sub (L' := [(0, .ref 233), (2, .int v94), (3, .int v95)]) [2, 1, 0] rfl ?_
      exact ih v94 v95  _ h
def b_X10_count_105 (x1 : Int32)  (K : Int32 → Sg → Prop) : Nat → Int32 → Int32 → Sg → Prop
  | 0, _, _, _ => False
  | n + 1, y2, y3, σ =>
  br ((σ 236 0) ≤ y3) (K y2 σ) (wp_X10_isDecided y3 σ <| fun r118_ τ118 => (br (r118_ = 0) (∀ v130 : Int32, v130 = y2 + 0 → (∀ v131 : Int32, v131 = y3 + 1 → (b_X10_count_105 x1  K n v130 v131 τ118))) (∀ v130 : Int32, v130 = y2 + 1 → (∀ v131 : Int32, v131 = y3 + 1 → (b_X10_count_105 x1  K n v130 v131 τ118)))))
set_option maxRecDepth 20000 in
set_option maxHeartbeats 2000000 in
theorem bt_X10_count_105 (l : Launch) (x1 : Int32) {K : Int32 → Sg → Prop}   : ∀ (n : Nat) (y2 : Int32) (y3 : Int32)  (σ : Sg), b_X10_count_105 x1  K n y2 y3 σ → AV l RX10 cX10_count 4 (some .int) 3 (qI K) 105 [(0, .ref 233), (2, .int y2), (3, .int y3)] [] σ := by
  intro n
  induction n with
  | zero => intro y2 y3 σ h; exact h.elim
  | succ n ih =>
    intro y2 y3 σ h
    refine aw_iload_n (pc := 105) 2 dX10_count_105 rfl ?_
    refine aw_aload_n (pc := 106) 0 dX10_count_106 rfl ?_
    refine aw_getR (pc := 107) 3 kcX10 dX10_count_107 lfX10_16 nn_233 ki_233 (by decide) rfl rf_233_3 ?_
    refine aw_iconst (pc := 110) 0 dX10_count_110 (by decide) ?_
    refine aw_iald (pc := 111) (j := 0) dX10_count_111 nn_236 ki_236 ln_236 (show vp_in _ _ by unfold vp_in; decide) (by decide) ?_
    refine aw_icmp_ge (pc := 112) 137 dX10_count_112 (by decide) (fun q => ?_) (fun q => ?_)
    · have h := h.1 q
      refine aw_iload_n (pc := 137) 1 dX10_count_137 rfl ?_
      exact aw_iret (pc := 138) rfl dX10_count_138 ⟨_, rfl, h⟩
    · have h := h.2 q
      refine aw_iload_n (pc := 115) 1 dX10_count_115 rfl ?_
      refine aw_aload_n (pc := 116) 0 dX10_count_116 rfl ?_
      refine aw_iload_n (pc := 117) 2 dX10_count_117 rfl ?_
      refine aw_callV (pc := 118) (As := [.int y3]) (rest := [.int y2]) kcX10 nn_233 ki_233 rfl (ev_X10_isDecided l y3 h) mfX10_isDecided dX10_count_118 lmX10_261 ⟨Nat.le_refl _, Nat.le_refl _⟩ (by decide) rfl rfl (Nat.le_of_ble_eq_true rfl) (nxI (fun r118_ τ118 h => ?_))
      refine aw_if_eq (pc := 121) 128 dX10_count_121 (by decide) (fun q => ?_) (fun q => ?_)
      · have h := h.1 q
        refine aw_iconst (pc := 128) 0 dX10_count_128 (by decide) ?_
        refine aw_iadd (pc := 129) dX10_count_129 ?_
        refine aw_topi (fun v130 ev130 => ?_)
        have h := h v130 ev130
        refine aw_istore_n (pc := 130) (i := 2) [(2, .int v130), (0, .ref 233), (3, .int y3)] dX10_count_130 rfl (by decide) rfl ?_
        obtain ⟨v131, ev131⟩ : ∃ v : Int32, v = y3 + 1 := ⟨_, rfl⟩
        have h := h v131 ev131
        refine aw_iinc (pc := 131) 2 v131 [(3, .int v131), (2, .int v130), (0, .ref 233)] dX10_count_131 rfl (by rw [ev131]; rfl) (by decide) rfl ?_
        refine aw_goto (pc := 134) 105 dX10_count_134 (by decide) ?_
        refine aw_sub (L' := [(0, .ref 233), (2, .int v130), (3, .int v131)]) [2, 1, 0] rfl ?_
        exact ih v130 v131  _ h
      · have h := h.2 q
        refine aw_iconst (pc := 124) 1 dX10_count_124 (by decide) ?_
        refine aw_goto (pc := 125) 129 dX10_count_125 (by decide) ?_
        refine aw_iadd (pc := 129) dX10_count_129 ?_
        refine aw_topi (fun v130 ev130 => ?_)
        have h := h v130 ev130
        refine aw_istore_n (pc := 130) (i := 2) [(2, .int v130), (0, .ref 233), (3, .int y3)] dX10_count_130 rfl (by decide) rfl ?_
        obtain ⟨v131, ev131⟩ : ∃ v : Int32, v = y3 + 1 := ⟨_, rfl⟩
        have h := h v131 ev131
        refine aw_iinc (pc := 131) 2 v131 [(3, .int v131), (2, .int v130), (0, .ref 233)] dX10_count_131 rfl (by rw [ev131]; rfl) (by decide) rfl ?_
        refine aw_goto (pc := 134) 105 dX10_count_134 (by decide) ?_
        refine aw_sub (L' := [(0, .ref 233), (2, .int v130), (3, .int v131)]) [2, 1, 0] rfl ?_
        exact ih v130 v131  _ h
def b_X10_count_141 (x1 : Int32)  (K : Int32 → Sg → Prop) : Nat → Int32 → Int32 → Sg → Prop
  | 0, _, _, _ => False
  | n + 1, y2, y3, σ =>
  br (24 ≤ y3) (K y2 σ) (vp_in (391 + y3) 415 ∧ (∀ v159 : Int32, v159 = y2 + (σ 236 (391 + y3).toNatClampNeg) → (∀ v160 : Int32, v160 = y3 + 1 → (b_X10_count_141 x1  K n v159 v160 σ))))
set_option maxRecDepth 20000 in
set_option maxHeartbeats 2000000 in
theorem bt_X10_count_141 (l : Launch) (x1 : Int32) {K : Int32 → Sg → Prop}   : ∀ (n : Nat) (y2 : Int32) (y3 : Int32)  (σ : Sg), b_X10_count_141 x1  K n y2 y3 σ → AV l RX10 cX10_count 4 (some .int) 3 (qI K) 141 [(0, .ref 233), (2, .int y2), (3, .int y3)] [] σ := by
  intro n
  induction n with
  | zero => intro y2 y3 σ h; exact h.elim
  | succ n ih =>
    intro y2 y3 σ h
    refine aw_iload_n (pc := 141) 2 dX10_count_141 rfl ?_
    refine aw_bipush (pc := 142) 24 dX10_count_142 (by decide) ?_
    refine aw_icmp_ge (pc := 144) 166 dX10_count_144 (by decide) (fun q => ?_) (fun q => ?_)
    · have h := h.1 q
      refine aw_iload_n (pc := 166) 1 dX10_count_166 rfl ?_
      exact aw_iret (pc := 167) rfl dX10_count_167 ⟨_, rfl, h⟩
    · have h := h.2 q
      refine aw_iload_n (pc := 147) 1 dX10_count_147 rfl ?_
      refine aw_aload_n (pc := 148) 0 dX10_count_148 rfl ?_
      refine aw_getR (pc := 149) 3 kcX10 dX10_count_149 lfX10_16 nn_233 ki_233 (by decide) rfl rf_233_3 ?_
      refine aw_sipush (pc := 152) 391 dX10_count_152 (by decide) ?_
      refine aw_iload_n (pc := 155) 2 dX10_count_155 rfl ?_
      refine aw_iadd (pc := 156) dX10_count_156 ?_
      refine aw_iald (pc := 157) (j := (391 + y3).toNatClampNeg) dX10_count_157 nn_236 ki_236 ln_236 h.1 rfl ?_
      have h := h.2
      refine aw_iadd (pc := 158) dX10_count_158 ?_
      refine aw_topi (fun v159 ev159 => ?_)
      have h := h v159 ev159
      refine aw_istore_n (pc := 159) (i := 2) [(2, .int v159), (0, .ref 233), (3, .int y3)] dX10_count_159 rfl (by decide) rfl ?_
      obtain ⟨v160, ev160⟩ : ∃ v : Int32, v = y3 + 1 := ⟨_, rfl⟩
      have h := h v160 ev160
      refine aw_iinc (pc := 160) 2 v160 [(3, .int v160), (2, .int v159), (0, .ref 233)] dX10_count_160 rfl (by rw [ev160]; rfl) (by decide) rfl ?_
      refine aw_goto (pc := 163) 141 dX10_count_163 (by decide) ?_
      refine aw_sub (L' := [(0, .ref 233), (2, .int v159), (3, .int v160)]) [2, 1, 0] rfl ?_
      exact ih v159 v160  _ h
def wp_X10_count (x1 : Int32) (σ : Sg) (K : Int32 → Sg → Prop) : Prop :=
  ∀ τ2 : Sg, τ2 = up σ 233 0 0 → (br (x1 = 0) (wp_X10_clubs  τ2 <| fun r57_ τ57 => (K r57_ τ57)) (br (x1 = 1) (K (τ2 234 1) τ2) (br (x1 = 2) (K (τ2 236 0) τ2) (br (x1 = 3) (∃ nf, b_X10_count_77 x1  K nf 0 0 τ2) (br (x1 = 4) (∃ nf, b_X10_count_105 x1  K nf 0 0 τ2) (br (x1 = 5) (∃ nf, b_X10_count_141 x1  K nf 0 0 τ2) (br (x1 = 6) (K (τ2 233 5) τ2) (br (x1 = 7) (K (τ2 233 9) τ2) (K (-1) τ2)))))))))
set_option maxRecDepth 20000 in
set_option maxHeartbeats 2000000 in
theorem ev_X10_count (l : Launch) (x1 : Int32) {σ : Sg} {K : Int32 → Sg → Prop} (h : wp_X10_count x1 σ K) : Ev l yX10_count cX10_count 4 (some .int) 3 [.ref 233, .int x1] σ (qI K) := by
  refine ev_ov (by decide) (Nat.le_of_ble_eq_true rfl) ?_
  show AV l RX10 cX10_count 4 (some .int) 3 (qI K) 0 [(0, .ref 233), (1, .int x1)] [] σ
  refine aw_aload_n (pc := 0) 0 dX10_count_0 rfl ?_
  refine aw_iconst (pc := 1) 0 dX10_count_1 (by decide) ?_
  refine aw_put (pc := 2) 0 kcX10 dX10_count_2 lfX10_91 nn_233 ki_233 (by decide) rfl rfl rfl rfl ?_
  refine aw_tops (fun τ2 eτ2 => ?_)
  have h := h τ2 eτ2
  refine aw_iconst (pc := 5) 0 dX10_count_5 (by decide) ?_
  refine aw_istore_n (pc := 6) (i := 2) [(2, .int 0), (0, .ref 233), (1, .int x1)] dX10_count_6 rfl (by decide) rfl ?_
  refine aw_iload_n (pc := 7) 2 dX10_count_7 rfl ?_
  by_cases q0 : x1 = 0
  · have h := h.1 q0
    refine aw_tableIn (pc := 8) 56 dX10_count_8 (by rw [q0]; decide) (by rw [q0]; decide) (by rw [q0]; rfl) (by decide) ?_
    refine aw_aload_n (pc := 56) 1 dX10_count_56 rfl ?_
    refine aw_callV (pc := 57) (As := []) (rest := []) kcX10 nn_233 ki_233 rfl (ev_X10_clubs l  h) mfX10_clubs dX10_count_57 lmX10_384 ⟨Nat.le_refl _, Nat.le_refl _⟩ (by decide) rfl rfl (Nat.le_of_ble_eq_true rfl) (nxI (fun r57_ τ57 h => ?_))
    exact aw_iret (pc := 60) rfl dX10_count_60 ⟨_, rfl, h⟩
  · have h := h.2 q0
    by_cases q1 : x1 = 1
    · have h := h.1 q1
      refine aw_tableIn (pc := 8) 61 dX10_count_8 (by rw [q1]; decide) (by rw [q1]; decide) (by rw [q1]; rfl) (by decide) ?_
      refine aw_aload_n (pc := 61) 1 dX10_count_61 rfl ?_
      refine aw_getR (pc := 62) 1 kcX10 dX10_count_62 lfX10_7 nn_233 ki_233 (by decide) rfl rf_233_1 ?_
      refine aw_iconst (pc := 65) 1 dX10_count_65 (by decide) ?_
      refine aw_iald (pc := 66) (j := 1) dX10_count_66 nn_234 ki_234 ln_234 (show vp_in _ _ by unfold vp_in; decide) (by decide) ?_
      exact aw_iret (pc := 67) rfl dX10_count_67 ⟨_, rfl, h⟩
    · have h := h.2 q1
      by_cases q2 : x1 = 2
      · have h := h.1 q2
        refine aw_tableIn (pc := 8) 68 dX10_count_8 (by rw [q2]; decide) (by rw [q2]; decide) (by rw [q2]; rfl) (by decide) ?_
        refine aw_aload_n (pc := 68) 1 dX10_count_68 rfl ?_
        refine aw_getR (pc := 69) 3 kcX10 dX10_count_69 lfX10_16 nn_233 ki_233 (by decide) rfl rf_233_3 ?_
        refine aw_iconst (pc := 72) 0 dX10_count_72 (by decide) ?_
        refine aw_iald (pc := 73) (j := 0) dX10_count_73 nn_236 ki_236 ln_236 (show vp_in _ _ by unfold vp_in; decide) (by decide) ?_
        exact aw_iret (pc := 74) rfl dX10_count_74 ⟨_, rfl, h⟩
      · have h := h.2 q2
        by_cases q3 : x1 = 3
        · have h := h.1 q3
          refine aw_tableIn (pc := 8) 75 dX10_count_8 (by rw [q3]; decide) (by rw [q3]; decide) (by rw [q3]; rfl) (by decide) ?_
          refine aw_iconst (pc := 75) 0 dX10_count_75 (by decide) ?_
          refine aw_istore_n (pc := 76) (i := 3) [(3, .int 0), (2, .int 0), (0, .ref 233), (1, .int x1)] dX10_count_76 rfl (by decide) rfl ?_
          refine aw_sub (L' := [(0, .ref 233), (2, .int 0), (3, .int 0)]) [2, 1, 0] rfl ?_
          obtain ⟨nf, h⟩ := h
          exact bt_X10_count_77 l x1   nf 0 0  _ h
        · have h := h.2 q3
          by_cases q4 : x1 = 4
          · have h := h.1 q4
            refine aw_tableIn (pc := 8) 103 dX10_count_8 (by rw [q4]; decide) (by rw [q4]; decide) (by rw [q4]; rfl) (by decide) ?_
            refine aw_iconst (pc := 103) 0 dX10_count_103 (by decide) ?_
            refine aw_istore_n (pc := 104) (i := 3) [(3, .int 0), (2, .int 0), (0, .ref 233), (1, .int x1)] dX10_count_104 rfl (by decide) rfl ?_
            refine aw_sub (L' := [(0, .ref 233), (2, .int 0), (3, .int 0)]) [2, 1, 0] rfl ?_
            obtain ⟨nf, h⟩ := h
            exact bt_X10_count_105 l x1   nf 0 0  _ h
          · have h := h.2 q4
            by_cases q5 : x1 = 5
            · have h := h.1 q5
              refine aw_tableIn (pc := 8) 139 dX10_count_8 (by rw [q5]; decide) (by rw [q5]; decide) (by rw [q5]; rfl) (by decide) ?_
              refine aw_iconst (pc := 139) 0 dX10_count_139 (by decide) ?_
              refine aw_istore_n (pc := 140) (i := 3) [(3, .int 0), (2, .int 0), (0, .ref 233), (1, .int x1)] dX10_count_140 rfl (by decide) rfl ?_
              refine aw_sub (L' := [(0, .ref 233), (2, .int 0), (3, .int 0)]) [2, 1, 0] rfl ?_
              obtain ⟨nf, h⟩ := h
              exact bt_X10_count_141 l x1   nf 0 0  _ h
            · have h := h.2 q5
              by_cases q6 : x1 = 6
              · have h := h.1 q6
                refine aw_tableIn (pc := 8) 168 dX10_count_8 (by rw [q6]; decide) (by rw [q6]; decide) (by rw [q6]; rfl) (by decide) ?_
                refine aw_aload_n (pc := 168) 1 dX10_count_168 rfl ?_
                refine aw_getI (pc := 169) 5 kcX10 dX10_count_169 lfX10_100 nn_233 ki_233 (by decide) rfl ?_
                exact aw_iret (pc := 172) rfl dX10_count_172 ⟨_, rfl, h⟩
              · have h := h.2 q6
                by_cases q7 : x1 = 7
                · have h := h.1 q7
                  refine aw_tableIn (pc := 8) 173 dX10_count_8 (by rw [q7]; decide) (by rw [q7]; decide) (by rw [q7]; rfl) (by decide) ?_
                  refine aw_aload_n (pc := 173) 1 dX10_count_173 rfl ?_
                  refine aw_getI (pc := 174) 9 kcX10 dX10_count_174 lfX10_103 nn_233 ki_233 (by decide) rfl ?_
                  exact aw_iret (pc := 177) rfl dX10_count_177 ⟨_, rfl, h⟩
                · have h := h.2 q7
                  have t0 := lv_neT (a := 0) q0 rfl
                  have t1 := lv_neT (a := 1) q1 rfl
                  have t2 := lv_neT (a := 2) q2 rfl
                  have t3 := lv_neT (a := 3) q3 rfl
                  have t4 := lv_neT (a := 4) q4 rfl
                  have t5 := lv_neT (a := 5) q5 rfl
                  have t6 := lv_neT (a := 6) q6 rfl
                  have t7 := lv_neT (a := 7) q7 rfl
                  refine aw_tableOut (pc := 8) 178 dX10_count_8 (by omega) (by decide) ?_
                  refine aw_iconst (pc := 178) (-1) dX10_count_178 (by decide) ?_
                  exact aw_iret (pc := 179) rfl dX10_count_179 ⟨_, rfl, h⟩
