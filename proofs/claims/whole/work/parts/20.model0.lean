def wp_X10_thrown  (σ : Sg) (K : Int32 → Sg → Prop) : Prop :=
  K (σ 233 0) σ
set_option maxRecDepth 20000 in
set_option maxHeartbeats 2000000 in
theorem ev_X10_thrown (l : Launch)  {σ : Sg} {K : Int32 → Sg → Prop} (h : wp_X10_thrown  σ K) : Ev l yX10_thrown cX10_thrown 1 (some .int) 0 [.ref 233] σ (qI K) := by
  refine ev_ov (by decide) (Nat.le_of_ble_eq_true rfl) ?_
  show AV l RX10 cX10_thrown 1 (some .int) 0 (qI K) 0 [(0, .ref 233)] [] σ
  refine aw_aload_n (pc := 0) 0 dX10_thrown_0 rfl ?_
  refine aw_getI (pc := 1) 0 kcX10 dX10_thrown_1 lfX10_91 nn_233 ki_233 (by decide) rfl ?_
  exact aw_iret (pc := 4) rfl dX10_thrown_4 ⟨_, rfl, h⟩
def wp_X10_within (x0 : Int64) (x2 : Int64) (x4 : Int64) (σ : Sg) (K : Int32 → Sg → Prop) : Prop :=
  br ((lg_cmp x0 x2) < 0) (K 0 σ) (br (0 < (lg_cmp x0 x4)) (K 0 σ) (K 1 σ))
set_option maxRecDepth 20000 in
set_option maxHeartbeats 2000000 in
theorem ev_X10_within (l : Launch) (x0 : Int64) (x2 : Int64) (x4 : Int64) {σ : Sg} {K : Int32 → Sg → Prop} (h : wp_X10_within x0 x2 x4 σ K) : Ev l yX10_within cX10_within 6 (some .boolean) 0 [.long x0, .long x2, .long x4] σ (qI K) := by
  refine ev_ov (by decide) (Nat.le_of_ble_eq_true rfl) ?_
  show AV l RX10 cX10_within 6 (some .boolean) 0 (qI K) 0 [(0, .long x0), (2, .long x2), (4, .long x4)] [] σ
  refine aw_lload_n (pc := 0) 0 dX10_within_0 rfl ?_
  refine aw_lload_n (pc := 1) 1 dX10_within_1 rfl ?_
  refine aw_lcmp (pc := 2) dX10_within_2 ?_
  refine aw_if_lt (pc := 3) 17 dX10_within_3 (by decide) (fun q => ?_) (fun q => ?_)
  · have h := h.1 q
    refine aw_iconst (pc := 17) 0 dX10_within_17 (by decide) ?_
    exact aw_zret (pc := 18) rfl rfl dX10_within_18 ⟨_, rfl, h⟩
  · have h := h.2 q
    refine aw_lload_n (pc := 6) 0 dX10_within_6 rfl ?_
    refine aw_lload (pc := 7) 2 dX10_within_7 rfl ?_
    refine aw_lcmp (pc := 9) dX10_within_9 ?_
    refine aw_if_gt (pc := 10) 17 dX10_within_10 (by decide) (fun q => ?_) (fun q => ?_)
    · have h := h.1 q
      refine aw_iconst (pc := 17) 0 dX10_within_17 (by decide) ?_
      exact aw_zret (pc := 18) rfl rfl dX10_within_18 ⟨_, rfl, h⟩
    · have h := h.2 q
      refine aw_iconst (pc := 13) 1 dX10_within_13 (by decide) ?_
      refine aw_goto (pc := 14) 18 dX10_within_14 (by decide) ?_
      exact aw_zret (pc := 18) rfl rfl dX10_within_18 ⟨_, rfl, h⟩
def wp_X10_less (x0 : Int32) (x1 : Int32) (σ : Sg) (K : Int32 → Sg → Prop) : Prop :=
  br (x1 ≤ x0) (K x1 σ) (K x0 σ)
set_option maxRecDepth 20000 in
set_option maxHeartbeats 2000000 in
theorem ev_X10_less (l : Launch) (x0 : Int32) (x1 : Int32) {σ : Sg} {K : Int32 → Sg → Prop} (h : wp_X10_less x0 x1 σ K) : Ev l yX10_less cX10_less 2 (some .int) 0 [.int x0, .int x1] σ (qI K) := by
  refine ev_ov (by decide) (Nat.le_of_ble_eq_true rfl) ?_
  show AV l RX10 cX10_less 2 (some .int) 0 (qI K) 0 [(0, .int x0), (1, .int x1)] [] σ
  refine aw_iload_n (pc := 0) 0 dX10_less_0 rfl ?_
  refine aw_iload_n (pc := 1) 1 dX10_less_1 rfl ?_
  refine aw_icmp_ge (pc := 2) 9 dX10_less_2 (by decide) (fun q => ?_) (fun q => ?_)
  · have h := h.1 q
    refine aw_iload_n (pc := 9) 1 dX10_less_9 rfl ?_
    exact aw_iret (pc := 10) rfl dX10_less_10 ⟨_, rfl, h⟩
  · have h := h.2 q
    refine aw_iload_n (pc := 5) 0 dX10_less_5 rfl ?_
    refine aw_goto (pc := 6) 10 dX10_less_6 (by decide) ?_
    exact aw_iret (pc := 10) rfl dX10_less_10 ⟨_, rfl, h⟩
def wp_X10_isTold  (σ : Sg) (K : Int32 → Sg → Prop) : Prop :=
  br ((σ 234 0) ≤ 0) (K 0 σ) (K 1 σ)
set_option maxRecDepth 20000 in
set_option maxHeartbeats 2000000 in
theorem ev_X10_isTold (l : Launch)  {σ : Sg} {K : Int32 → Sg → Prop} (h : wp_X10_isTold  σ K) : Ev l yX10_isTold cX10_isTold 1 (some .boolean) 0 [.ref 233] σ (qI K) := by
  refine ev_ov (by decide) (Nat.le_of_ble_eq_true rfl) ?_
  show AV l RX10 cX10_isTold 1 (some .boolean) 0 (qI K) 0 [(0, .ref 233)] [] σ
  refine aw_aload_n (pc := 0) 0 dX10_isTold_0 rfl ?_
  refine aw_getR (pc := 1) 1 kcX10 dX10_isTold_1 lfX10_7 nn_233 ki_233 (by decide) rfl rf_233_1 ?_
  refine aw_iconst (pc := 4) 0 dX10_isTold_4 (by decide) ?_
  refine aw_iald (pc := 5) (j := 0) dX10_isTold_5 nn_234 ki_234 ln_234 (show vp_in _ _ by unfold vp_in; decide) (by decide) ?_
  refine aw_if_le (pc := 6) 13 dX10_isTold_6 (by decide) (fun q => ?_) (fun q => ?_)
  · have h := h.1 q
    refine aw_iconst (pc := 13) 0 dX10_isTold_13 (by decide) ?_
    exact aw_zret (pc := 14) rfl rfl dX10_isTold_14 ⟨_, rfl, h⟩
  · have h := h.2 q
    refine aw_iconst (pc := 9) 1 dX10_isTold_9 (by decide) ?_
    refine aw_goto (pc := 10) 14 dX10_isTold_10 (by decide) ?_
    exact aw_zret (pc := 14) rfl rfl dX10_isTold_14 ⟨_, rfl, h⟩
def wp_X10_clubs  (σ : Sg) (K : Int32 → Sg → Prop) : Prop :=
  K (σ 234 0) σ
set_option maxRecDepth 20000 in
set_option maxHeartbeats 2000000 in
theorem ev_X10_clubs (l : Launch)  {σ : Sg} {K : Int32 → Sg → Prop} (h : wp_X10_clubs  σ K) : Ev l yX10_clubs cX10_clubs 1 (some .int) 0 [.ref 233] σ (qI K) := by
  refine ev_ov (by decide) (Nat.le_of_ble_eq_true rfl) ?_
  show AV l RX10 cX10_clubs 1 (some .int) 0 (qI K) 0 [(0, .ref 233)] [] σ
  refine aw_aload_n (pc := 0) 0 dX10_clubs_0 rfl ?_
  refine aw_getR (pc := 1) 1 kcX10 dX10_clubs_1 lfX10_7 nn_233 ki_233 (by decide) rfl rf_233_1 ?_
  refine aw_iconst (pc := 4) 0 dX10_clubs_4 (by decide) ?_
  refine aw_iald (pc := 5) (j := 0) dX10_clubs_5 nn_234 ki_234 ln_234 (show vp_in _ _ by unfold vp_in; decide) (by decide) ?_
  exact aw_iret (pc := 6) rfl dX10_clubs_6 ⟨_, rfl, h⟩
def wp_X10_isClub (x1 : Int32) (σ : Sg) (K : Int32 → Sg → Prop) : Prop :=
  wp_X10_within (Int32.toInt64 x1) 0 ((Int32.toInt64 (σ 234 0)) - 1) σ <| fun r12_ τ12 => (isZ r12_ ∧ K r12_ τ12)
set_option maxRecDepth 20000 in
set_option maxHeartbeats 2000000 in
theorem ev_X10_isClub (l : Launch) (x1 : Int32) {σ : Sg} {K : Int32 → Sg → Prop} (h : wp_X10_isClub x1 σ K) : Ev l yX10_isClub cX10_isClub 2 (some .boolean) 1 [.ref 233, .int x1] σ (qI K) := by
  refine ev_ov (by decide) (Nat.le_of_ble_eq_true rfl) ?_
  show AV l RX10 cX10_isClub 2 (some .boolean) 1 (qI K) 0 [(0, .ref 233), (1, .int x1)] [] σ
  refine aw_iload_n (pc := 0) 1 dX10_isClub_0 rfl ?_
  refine aw_i2l (pc := 1) dX10_isClub_1 ?_
  refine aw_lconst (pc := 2) 0 dX10_isClub_2 (by decide) ?_
  refine aw_aload_n (pc := 3) 0 dX10_isClub_3 rfl ?_
  refine aw_getR (pc := 4) 1 kcX10 dX10_isClub_4 lfX10_7 nn_233 ki_233 (by decide) rfl rf_233_1 ?_
  refine aw_iconst (pc := 7) 0 dX10_isClub_7 (by decide) ?_
  refine aw_iald (pc := 8) (j := 0) dX10_isClub_8 nn_234 ki_234 ln_234 (show vp_in _ _ by unfold vp_in; decide) (by decide) ?_
  refine aw_i2l (pc := 9) dX10_isClub_9 ?_
  refine aw_lconst (pc := 10) 1 dX10_isClub_10 (by decide) ?_
  refine aw_lsub (pc := 11) dX10_isClub_11 ?_
  refine aw_callS (pc := 12) (As := [.long (Int32.toInt64 x1), .long 0, .long ((Int32.toInt64 (σ 234 0)) - 1)]) (rest := []) (ev_X10_within l (Int32.toInt64 x1) 0 ((Int32.toInt64 (σ 234 0)) - 1) h) mfX10_within dX10_isClub_12 lmX10_94 ⟨Nat.le_refl _, Nat.le_refl _⟩ (by decide) rfl rfl (Nat.le_of_ble_eq_true rfl) (nxI (fun r12_ τ12 h => ?_))
  exact aw_zret (pc := 15) rfl (isZ_n h.1) dX10_isClub_15 ⟨_, rfl, h.2⟩
def wp_X10_isCup (x1 : Int32) (σ : Sg) (K : Int32 → Sg → Prop) : Prop :=
  wp_X10_within (Int32.toInt64 x1) 0 ((Int32.toInt64 (σ 234 1)) - 1) σ <| fun r12_ τ12 => (isZ r12_ ∧ K r12_ τ12)
set_option maxRecDepth 20000 in
set_option maxHeartbeats 2000000 in
theorem ev_X10_isCup (l : Launch) (x1 : Int32) {σ : Sg} {K : Int32 → Sg → Prop} (h : wp_X10_isCup x1 σ K) : Ev l yX10_isCup cX10_isCup 2 (some .boolean) 1 [.ref 233, .int x1] σ (qI K) := by
  refine ev_ov (by decide) (Nat.le_of_ble_eq_true rfl) ?_
  show AV l RX10 cX10_isCup 2 (some .boolean) 1 (qI K) 0 [(0, .ref 233), (1, .int x1)] [] σ
  refine aw_iload_n (pc := 0) 1 dX10_isCup_0 rfl ?_
  refine aw_i2l (pc := 1) dX10_isCup_1 ?_
  refine aw_lconst (pc := 2) 0 dX10_isCup_2 (by decide) ?_
  refine aw_aload_n (pc := 3) 0 dX10_isCup_3 rfl ?_
  refine aw_getR (pc := 4) 1 kcX10 dX10_isCup_4 lfX10_7 nn_233 ki_233 (by decide) rfl rf_233_1 ?_
  refine aw_iconst (pc := 7) 1 dX10_isCup_7 (by decide) ?_
  refine aw_iald (pc := 8) (j := 1) dX10_isCup_8 nn_234 ki_234 ln_234 (show vp_in _ _ by unfold vp_in; decide) (by decide) ?_
  refine aw_i2l (pc := 9) dX10_isCup_9 ?_
  refine aw_lconst (pc := 10) 1 dX10_isCup_10 (by decide) ?_
  refine aw_lsub (pc := 11) dX10_isCup_11 ?_
  refine aw_callS (pc := 12) (As := [.long (Int32.toInt64 x1), .long 0, .long ((Int32.toInt64 (σ 234 1)) - 1)]) (rest := []) (ev_X10_within l (Int32.toInt64 x1) 0 ((Int32.toInt64 (σ 234 1)) - 1) h) mfX10_within dX10_isCup_12 lmX10_94 ⟨Nat.le_refl _, Nat.le_refl _⟩ (by decide) rfl rfl (Nat.le_of_ble_eq_true rfl) (nxI (fun r12_ τ12 h => ?_))
  exact aw_zret (pc := 15) rfl (isZ_n h.1) dX10_isCup_15 ⟨_, rfl, h.2⟩
def wp_X10_isRound (x0 : Int32) (σ : Sg) (K : Int32 → Sg → Prop) : Prop :=
  wp_X10_within (Int32.toInt64 x0) 0 5 σ <| fun r6_ τ6 => (isZ r6_ ∧ K r6_ τ6)
set_option maxRecDepth 20000 in
set_option maxHeartbeats 2000000 in
theorem ev_X10_isRound (l : Launch) (x0 : Int32) {σ : Sg} {K : Int32 → Sg → Prop} (h : wp_X10_isRound x0 σ K) : Ev l yX10_isRound cX10_isRound 1 (some .boolean) 1 [.int x0] σ (qI K) := by
  refine ev_ov (by decide) (Nat.le_of_ble_eq_true rfl) ?_
  show AV l RX10 cX10_isRound 1 (some .boolean) 1 (qI K) 0 [(0, .int x0)] [] σ
  refine aw_iload_n (pc := 0) 0 dX10_isRound_0 rfl ?_
  refine aw_i2l (pc := 1) dX10_isRound_1 ?_
  refine aw_lconst (pc := 2) 0 dX10_isRound_2 (by decide) ?_
  refine aw_ldc2 (pc := 3) 5 dX10_isRound_3 lclX10_98 ?_
  refine aw_callS (pc := 6) (As := [.long (Int32.toInt64 x0), .long 0, .long 5]) (rest := []) (ev_X10_within l (Int32.toInt64 x0) 0 5 h) mfX10_within dX10_isRound_6 lmX10_94 ⟨Nat.le_refl _, Nat.le_refl _⟩ (by decide) rfl rfl (Nat.le_of_ble_eq_true rfl) (nxI (fun r6_ τ6 h => ?_))
  exact aw_zret (pc := 9) rfl (isZ_n h.1) dX10_isRound_9 ⟨_, rfl, h.2⟩
def wp_X10_isTie (x1 : Int32) (σ : Sg) (K : Int32 → Sg → Prop) : Prop :=
  wp_X10_within (Int32.toInt64 x1) 0 ((Int32.toInt64 (σ 236 0)) - 1) σ <| fun r12_ τ12 => (isZ r12_ ∧ K r12_ τ12)
set_option maxRecDepth 20000 in
set_option maxHeartbeats 2000000 in
theorem ev_X10_isTie (l : Launch) (x1 : Int32) {σ : Sg} {K : Int32 → Sg → Prop} (h : wp_X10_isTie x1 σ K) : Ev l yX10_isTie cX10_isTie 2 (some .boolean) 1 [.ref 233, .int x1] σ (qI K) := by
  refine ev_ov (by decide) (Nat.le_of_ble_eq_true rfl) ?_
  show AV l RX10 cX10_isTie 2 (some .boolean) 1 (qI K) 0 [(0, .ref 233), (1, .int x1)] [] σ
  refine aw_iload_n (pc := 0) 1 dX10_isTie_0 rfl ?_
  refine aw_i2l (pc := 1) dX10_isTie_1 ?_
  refine aw_lconst (pc := 2) 0 dX10_isTie_2 (by decide) ?_
  refine aw_aload_n (pc := 3) 0 dX10_isTie_3 rfl ?_
  refine aw_getR (pc := 4) 3 kcX10 dX10_isTie_4 lfX10_16 nn_233 ki_233 (by decide) rfl rf_233_3 ?_
  refine aw_iconst (pc := 7) 0 dX10_isTie_7 (by decide) ?_
  refine aw_iald (pc := 8) (j := 0) dX10_isTie_8 nn_236 ki_236 ln_236 (show vp_in _ _ by unfold vp_in; decide) (by decide) ?_
  refine aw_i2l (pc := 9) dX10_isTie_9 ?_
  refine aw_lconst (pc := 10) 1 dX10_isTie_10 (by decide) ?_
  refine aw_lsub (pc := 11) dX10_isTie_11 ?_
  refine aw_callS (pc := 12) (As := [.long (Int32.toInt64 x1), .long 0, .long ((Int32.toInt64 (σ 236 0)) - 1)]) (rest := []) (ev_X10_within l (Int32.toInt64 x1) 0 ((Int32.toInt64 (σ 236 0)) - 1) h) mfX10_within dX10_isTie_12 lmX10_94 ⟨Nat.le_refl _, Nat.le_refl _⟩ (by decide) rfl rfl (Nat.le_of_ble_eq_true rfl) (nxI (fun r12_ τ12 h => ?_))
  exact aw_zret (pc := 15) rfl (isZ_n h.1) dX10_isTie_15 ⟨_, rfl, h.2⟩
def wp_X10_ofClub (x1 : Int32) (x2 : Int32) (σ : Sg) (K : Int32 → Sg → Prop) : Prop :=
  vp_in ((2 + (3 * x1)) + x2) 106 ∧ (K (σ 234 ((2 + (3 * x1)) + x2).toNatClampNeg) σ)
set_option maxRecDepth 20000 in
set_option maxHeartbeats 2000000 in
theorem ev_X10_ofClub (l : Launch) (x1 : Int32) (x2 : Int32) {σ : Sg} {K : Int32 → Sg → Prop} (h : wp_X10_ofClub x1 x2 σ K) : Ev l yX10_ofClub cX10_ofClub 3 (some .int) 0 [.ref 233, .int x1, .int x2] σ (qI K) := by
  refine ev_ov (by decide) (Nat.le_of_ble_eq_true rfl) ?_
  show AV l RX10 cX10_ofClub 3 (some .int) 0 (qI K) 0 [(0, .ref 233), (1, .int x1), (2, .int x2)] [] σ
  refine aw_aload_n (pc := 0) 0 dX10_ofClub_0 rfl ?_
  refine aw_getR (pc := 1) 1 kcX10 dX10_ofClub_1 lfX10_7 nn_233 ki_233 (by decide) rfl rf_233_1 ?_
  refine aw_iconst (pc := 4) 2 dX10_ofClub_4 (by decide) ?_
  refine aw_iconst (pc := 5) 3 dX10_ofClub_5 (by decide) ?_
  refine aw_iload_n (pc := 6) 1 dX10_ofClub_6 rfl ?_
  refine aw_imul (pc := 7) dX10_ofClub_7 ?_
  refine aw_iadd (pc := 8) dX10_ofClub_8 ?_
  refine aw_iload_n (pc := 9) 2 dX10_ofClub_9 rfl ?_
  refine aw_iadd (pc := 10) dX10_ofClub_10 ?_
  refine aw_iald (pc := 11) (j := ((2 + (3 * x1)) + x2).toNatClampNeg) dX10_ofClub_11 nn_234 ki_234 ln_234 h.1 rfl ?_
  have h := h.2
  exact aw_iret (pc := 12) rfl dX10_ofClub_12 ⟨_, rfl, h⟩
def wp_X10_ofCup (x1 : Int32) (x2 : Int32) (σ : Sg) (K : Int32 → Sg → Prop) : Prop :=
  vp_in ((38 + (17 * x1)) + x2) 106 ∧ (K (σ 234 ((38 + (17 * x1)) + x2).toNatClampNeg) σ)
set_option maxRecDepth 20000 in
set_option maxHeartbeats 2000000 in
theorem ev_X10_ofCup (l : Launch) (x1 : Int32) (x2 : Int32) {σ : Sg} {K : Int32 → Sg → Prop} (h : wp_X10_ofCup x1 x2 σ K) : Ev l yX10_ofCup cX10_ofCup 3 (some .int) 0 [.ref 233, .int x1, .int x2] σ (qI K) := by
  refine ev_ov (by decide) (Nat.le_of_ble_eq_true rfl) ?_
  show AV l RX10 cX10_ofCup 3 (some .int) 0 (qI K) 0 [(0, .ref 233), (1, .int x1), (2, .int x2)] [] σ
  refine aw_aload_n (pc := 0) 0 dX10_ofCup_0 rfl ?_
  refine aw_getR (pc := 1) 1 kcX10 dX10_ofCup_1 lfX10_7 nn_233 ki_233 (by decide) rfl rf_233_1 ?_
  refine aw_bipush (pc := 4) 38 dX10_ofCup_4 (by decide) ?_
  refine aw_bipush (pc := 6) 17 dX10_ofCup_6 (by decide) ?_
  refine aw_iload_n (pc := 8) 1 dX10_ofCup_8 rfl ?_
  refine aw_imul (pc := 9) dX10_ofCup_9 ?_
  refine aw_iadd (pc := 10) dX10_ofCup_10 ?_
  refine aw_iload_n (pc := 11) 2 dX10_ofCup_11 rfl ?_
  refine aw_iadd (pc := 12) dX10_ofCup_12 ?_
  refine aw_iald (pc := 13) (j := ((38 + (17 * x1)) + x2).toNatClampNeg) dX10_ofCup_13 nn_234 ki_234 ln_234 h.1 rfl ?_
  have h := h.2
  exact aw_iret (pc := 14) rfl dX10_ofCup_14 ⟨_, rfl, h⟩
def wp_X10_ofTie (x1 : Int32) (x2 : Int32) (σ : Sg) (K : Int32 → Sg → Prop) : Prop :=
  vp_in ((1 + (13 * x1)) + x2) 415 ∧ (K (σ 236 ((1 + (13 * x1)) + x2).toNatClampNeg) σ)
set_option maxRecDepth 20000 in
set_option maxHeartbeats 2000000 in
theorem ev_X10_ofTie (l : Launch) (x1 : Int32) (x2 : Int32) {σ : Sg} {K : Int32 → Sg → Prop} (h : wp_X10_ofTie x1 x2 σ K) : Ev l yX10_ofTie cX10_ofTie 3 (some .int) 0 [.ref 233, .int x1, .int x2] σ (qI K) := by
  refine ev_ov (by decide) (Nat.le_of_ble_eq_true rfl) ?_
  show AV l RX10 cX10_ofTie 3 (some .int) 0 (qI K) 0 [(0, .ref 233), (1, .int x1), (2, .int x2)] [] σ
  refine aw_aload_n (pc := 0) 0 dX10_ofTie_0 rfl ?_
  refine aw_getR (pc := 1) 3 kcX10 dX10_ofTie_1 lfX10_16 nn_233 ki_233 (by decide) rfl rf_233_3 ?_
  refine aw_iconst (pc := 4) 1 dX10_ofTie_4 (by decide) ?_
  refine aw_bipush (pc := 5) 13 dX10_ofTie_5 (by decide) ?_
  refine aw_iload_n (pc := 7) 1 dX10_ofTie_7 rfl ?_
  refine aw_imul (pc := 8) dX10_ofTie_8 ?_
  refine aw_iadd (pc := 9) dX10_ofTie_9 ?_
  refine aw_iload_n (pc := 10) 2 dX10_ofTie_10 rfl ?_
  refine aw_iadd (pc := 11) dX10_ofTie_11 ?_
  refine aw_iald (pc := 12) (j := ((1 + (13 * x1)) + x2).toNatClampNeg) dX10_ofTie_12 nn_236 ki_236 ln_236 h.1 rfl ?_
  have h := h.2
  exact aw_iret (pc := 13) rfl dX10_ofTie_13 ⟨_, rfl, h⟩
def b_X10_remember_57   (K : Sg → Prop) : Nat → Int32 → Sg → Prop
  | 0, _, _ => False
  | n + 1, y1, σ =>
  br (415 ≤ y1) (∀ τ98 : Sg, τ98 = up σ 233 5 ((σ 233 5) + 1) → (K τ98)) (vp_in y1 415 ∧ (vp_in ((415 * (σ 233 5)) + y1) 4980 ∧ (∀ τ84 : Sg, τ84 = up σ 237 ((415 * (σ 233 5)) + y1).toNatClampNeg (σ 236 y1.toNatClampNeg) → (∀ v85 : Int32, v85 = y1 + 1 → (b_X10_remember_57   K n v85 τ84)))))
set_option maxRecDepth 20000 in
set_option maxHeartbeats 2000000 in
theorem bt_X10_remember_57 (l : Launch)  {K : Sg → Prop}   : ∀ (n : Nat) (y1 : Int32)  (σ : Sg), b_X10_remember_57   K n y1 σ → AV l RX10 cX10_remember 2 none 0 (qV K) 57 [(0, .ref 233), (1, .int y1)] [] σ := by
  intro n
  induction n with
  | zero => intro y1 σ h; exact h.elim
  | succ n ih =>
    intro y1 σ h
    refine aw_iload_n (pc := 57) 1 dX10_remember_57 rfl ?_
    refine aw_sipush (pc := 58) 415 dX10_remember_58 (by decide) ?_
    refine aw_icmp_ge (pc := 61) 91 dX10_remember_61 (by decide) (fun q => ?_) (fun q => ?_)
    · have h := h.1 q
      refine aw_aload_n (pc := 91) 0 dX10_remember_91 rfl ?_
      refine aw_dup (pc := 92) dX10_remember_92 rfl ?_
      refine aw_getI (pc := 93) 5 kcX10 dX10_remember_93 lfX10_100 nn_233 ki_233 (by decide) rfl ?_
      refine aw_iconst (pc := 96) 1 dX10_remember_96 (by decide) ?_
      refine aw_iadd (pc := 97) dX10_remember_97 ?_
      refine aw_put (pc := 98) 5 kcX10 dX10_remember_98 lfX10_100 nn_233 ki_233 (by decide) rfl rfl rfl rfl ?_
      refine aw_tops (fun τ98 eτ98 => ?_)
      have h := h τ98 eτ98
      exact aw_vret (pc := 101) rfl dX10_remember_101 ⟨rfl, h⟩
    · have h := h.2 q
      refine aw_aload_n (pc := 64) 0 dX10_remember_64 rfl ?_
      refine aw_getR (pc := 65) 4 kcX10 dX10_remember_65 lfX10_19 nn_233 ki_233 (by decide) rfl rf_233_4 ?_
      refine aw_sipush (pc := 68) 415 dX10_remember_68 (by decide) ?_
      refine aw_aload_n (pc := 71) 0 dX10_remember_71 rfl ?_
      refine aw_getI (pc := 72) 5 kcX10 dX10_remember_72 lfX10_100 nn_233 ki_233 (by decide) rfl ?_
      refine aw_imul (pc := 75) dX10_remember_75 ?_
      refine aw_iload_n (pc := 76) 1 dX10_remember_76 rfl ?_
      refine aw_iadd (pc := 77) dX10_remember_77 ?_
      refine aw_aload_n (pc := 78) 0 dX10_remember_78 rfl ?_
      refine aw_getR (pc := 79) 3 kcX10 dX10_remember_79 lfX10_16 nn_233 ki_233 (by decide) rfl rf_233_3 ?_
      refine aw_iload_n (pc := 82) 1 dX10_remember_82 rfl ?_
      refine aw_iald (pc := 83) (j := y1.toNatClampNeg) dX10_remember_83 nn_236 ki_236 ln_236 h.1 rfl ?_
      have h := h.2
      refine aw_iast (pc := 84) (j := ((415 * (σ 233 5)) + y1).toNatClampNeg) (v := (σ 236 y1.toNatClampNeg)) dX10_remember_84 nn_237 ki_237 ln_237 h.1 rfl rfl ?_
      have h := h.2
      refine aw_tops (fun τ84 eτ84 => ?_)
      have h := h τ84 eτ84
      obtain ⟨v85, ev85⟩ : ∃ v : Int32, v = y1 + 1 := ⟨_, rfl⟩
      have h := h v85 ev85
      refine aw_iinc (pc := 85) 1 v85 [(1, .int v85), (0, .ref 233)] dX10_remember_85 rfl (by rw [ev85]; rfl) (by decide) rfl ?_
      refine aw_goto (pc := 88) 57 dX10_remember_88 (by decide) ?_
      refine aw_sub (L' := [(0, .ref 233), (1, .int v85)]) [1, 0] rfl ?_
      exact ih v85  _ h
def b_X10_remember_21   (K : Sg → Prop) : Nat → Int32 → Sg → Prop
  | 0, _, _ => False
  | n + 1, y1, σ =>
  br ((415 * (σ 233 5)) ≤ y1) (∃ nf, b_X10_remember_57   K nf 0 σ) (vp_in (y1 + 415) 4980 ∧ (vp_in y1 4980 ∧ (∀ τ48 : Sg, τ48 = up σ 237 y1.toNatClampNeg (σ 237 (y1 + 415).toNatClampNeg) → (∀ v49 : Int32, v49 = y1 + 1 → (b_X10_remember_21   K n v49 τ48)))))
set_option maxRecDepth 20000 in
set_option maxHeartbeats 2000000 in
theorem bt_X10_remember_21 (l : Launch)  {K : Sg → Prop}   : ∀ (n : Nat) (y1 : Int32)  (σ : Sg), b_X10_remember_21   K n y1 σ → AV l RX10 cX10_remember 2 none 0 (qV K) 21 [(0, .ref 233), (1, .int y1)] [] σ := by
  intro n
  induction n with
  | zero => intro y1 σ h; exact h.elim
  | succ n ih =>
    intro y1 σ h
    refine aw_iload_n (pc := 21) 1 dX10_remember_21 rfl ?_
    refine aw_sipush (pc := 22) 415 dX10_remember_22 (by decide) ?_
    refine aw_aload_n (pc := 25) 0 dX10_remember_25 rfl ?_
    refine aw_getI (pc := 26) 5 kcX10 dX10_remember_26 lfX10_100 nn_233 ki_233 (by decide) rfl ?_
    refine aw_imul (pc := 29) dX10_remember_29 ?_
    refine aw_icmp_ge (pc := 30) 55 dX10_remember_30 (by decide) (fun q => ?_) (fun q => ?_)
    · have h := h.1 q
      refine aw_iconst (pc := 55) 0 dX10_remember_55 (by decide) ?_
      refine aw_istore_n (pc := 56) (i := 1) [(1, .int 0), (0, .ref 233)] dX10_remember_56 rfl (by decide) rfl ?_
      refine aw_sub (L' := [(0, .ref 233), (1, .int 0)]) [1, 0] rfl ?_
      obtain ⟨nf, h⟩ := h
      exact bt_X10_remember_57 l    nf 0  _ h
    · have h := h.2 q
      refine aw_aload_n (pc := 33) 0 dX10_remember_33 rfl ?_
      refine aw_getR (pc := 34) 4 kcX10 dX10_remember_34 lfX10_19 nn_233 ki_233 (by decide) rfl rf_233_4 ?_
      refine aw_iload_n (pc := 37) 1 dX10_remember_37 rfl ?_
      refine aw_aload_n (pc := 38) 0 dX10_remember_38 rfl ?_
      refine aw_getR (pc := 39) 4 kcX10 dX10_remember_39 lfX10_19 nn_233 ki_233 (by decide) rfl rf_233_4 ?_
      refine aw_iload_n (pc := 42) 1 dX10_remember_42 rfl ?_
      refine aw_sipush (pc := 43) 415 dX10_remember_43 (by decide) ?_
      refine aw_iadd (pc := 46) dX10_remember_46 ?_
      refine aw_iald (pc := 47) (j := (y1 + 415).toNatClampNeg) dX10_remember_47 nn_237 ki_237 ln_237 h.1 rfl ?_
      have h := h.2
      refine aw_iast (pc := 48) (j := y1.toNatClampNeg) (v := (σ 237 (y1 + 415).toNatClampNeg)) dX10_remember_48 nn_237 ki_237 ln_237 h.1 rfl rfl ?_
      have h := h.2
      refine aw_tops (fun τ48 eτ48 => ?_)
      have h := h τ48 eτ48
      obtain ⟨v49, ev49⟩ : ∃ v : Int32, v = y1 + 1 := ⟨_, rfl⟩
      have h := h v49 ev49
      refine aw_iinc (pc := 49) 1 v49 [(1, .int v49), (0, .ref 233)] dX10_remember_49 rfl (by rw [ev49]; rfl) (by decide) rfl ?_
      refine aw_goto (pc := 52) 21 dX10_remember_52 (by decide) ?_
      refine aw_sub (L' := [(0, .ref 233), (1, .int v49)]) [1, 0] rfl ?_
      exact ih v49  _ h
def wp_X10_remember  (σ : Sg) (K : Sg → Prop) : Prop :=
  br ((σ 233 5) = 12) (∀ τ16 : Sg, τ16 = up σ 233 5 ((σ 233 5) - 1) → (∃ nf, b_X10_remember_21   K nf 0 τ16)) (∃ nf, b_X10_remember_57   K nf 0 σ)
set_option maxRecDepth 20000 in
set_option maxHeartbeats 2000000 in
theorem ev_X10_remember (l : Launch)  {σ : Sg} {K : Sg → Prop} (h : wp_X10_remember  σ K) : Ev l yX10_remember cX10_remember 2 none 0 [.ref 233] σ (qV K) := by
  refine ev_ov (by decide) (Nat.le_of_ble_eq_true rfl) ?_
  show AV l RX10 cX10_remember 2 none 0 (qV K) 0 [(0, .ref 233)] [] σ
  refine aw_aload_n (pc := 0) 0 dX10_remember_0 rfl ?_
  refine aw_getI (pc := 1) 5 kcX10 dX10_remember_1 lfX10_100 nn_233 ki_233 (by decide) rfl ?_
  refine aw_bipush (pc := 4) 12 dX10_remember_4 (by decide) ?_
  refine aw_icmp_ne (pc := 6) 55 dX10_remember_6 (by decide) (fun q => ?_) (fun q => ?_)
  · have h := h.2 q
    refine aw_iconst (pc := 55) 0 dX10_remember_55 (by decide) ?_
    refine aw_istore_n (pc := 56) (i := 1) [(1, .int 0), (0, .ref 233)] dX10_remember_56 rfl (by decide) rfl ?_
    refine aw_sub (L' := [(0, .ref 233), (1, .int 0)]) [1, 0] rfl ?_
    obtain ⟨nf, h⟩ := h
    exact bt_X10_remember_57 l    nf 0  _ h
  · have h := h.1 q
    refine aw_aload_n (pc := 9) 0 dX10_remember_9 rfl ?_
    refine aw_dup (pc := 10) dX10_remember_10 rfl ?_
    refine aw_getI (pc := 11) 5 kcX10 dX10_remember_11 lfX10_100 nn_233 ki_233 (by decide) rfl ?_
    refine aw_iconst (pc := 14) 1 dX10_remember_14 (by decide) ?_
    refine aw_isub (pc := 15) dX10_remember_15 ?_
    refine aw_put (pc := 16) 5 kcX10 dX10_remember_16 lfX10_100 nn_233 ki_233 (by decide) rfl rfl rfl rfl ?_
    refine aw_tops (fun τ16 eτ16 => ?_)
    have h := h τ16 eτ16
    refine aw_iconst (pc := 19) 0 dX10_remember_19 (by decide) ?_
    refine aw_istore_n (pc := 20) (i := 1) [(1, .int 0), (0, .ref 233)] dX10_remember_20 rfl (by decide) rfl ?_
    refine aw_sub (L' := [(0, .ref 233), (1, .int 0)]) [1, 0] rfl ?_
    obtain ⟨nf, h⟩ := h
    exact bt_X10_remember_21 l    nf 0  _ h
def b_X10_sign_22 (x1 : Int32)  (K : Int32 → Sg → Prop) : Nat → Int32 → Sg → Prop
  | 0, _, _ => False
  | n + 1, y2, σ =>
  br (y2 < 0) (K (σ 233 9) σ) (vp_in (σ 233 9) 600 ∧ (∀ τ38 : Sg, τ38 = up σ 240 (σ 233 9).toNatClampNeg ((Int32.toInt8 ((x1.toUInt32 >>> (Int32.toUInt32 y2 &&& Int32.toUInt32 31)).toInt32)).toInt32) → (∀ τ46 : Sg, τ46 = up τ38 233 9 ((τ38 233 9) + 1) → (∀ v49 : Int32, v49 = y2 + (-8) → (b_X10_sign_22 x1  K n v49 τ46)))))
set_option maxRecDepth 20000 in
set_option maxHeartbeats 2000000 in
theorem bt_X10_sign_22 (l : Launch) (x1 : Int32) {K : Int32 → Sg → Prop}   : ∀ (n : Nat) (y2 : Int32)  (σ : Sg), b_X10_sign_22 x1  K n y2 σ → AV l RX10 cX10_sign 3 (some .int) 0 (qI K) 22 [(0, .ref 233), (1, .int x1), (2, .int y2)] [] σ := by
  intro n
  induction n with
  | zero => intro y2 σ h; exact h.elim
  | succ n ih =>
    intro y2 σ h
    refine aw_iload_n (pc := 22) 2 dX10_sign_22 rfl ?_
    refine aw_if_lt (pc := 23) 55 dX10_sign_23 (by decide) (fun q => ?_) (fun q => ?_)
    · have h := h.1 q
      refine aw_aload_n (pc := 55) 0 dX10_sign_55 rfl ?_
      refine aw_getI (pc := 56) 9 kcX10 dX10_sign_56 lfX10_103 nn_233 ki_233 (by decide) rfl ?_
      exact aw_iret (pc := 59) rfl dX10_sign_59 ⟨_, rfl, h⟩
    · have h := h.2 q
      refine aw_aload_n (pc := 26) 0 dX10_sign_26 rfl ?_
      refine aw_getR (pc := 27) 8 kcX10 dX10_sign_27 lfX10_29 nn_233 ki_233 (by decide) rfl rf_233_8 ?_
      refine aw_aload_n (pc := 30) 0 dX10_sign_30 rfl ?_
      refine aw_getI (pc := 31) 9 kcX10 dX10_sign_31 lfX10_103 nn_233 ki_233 (by decide) rfl ?_
      refine aw_iload_n (pc := 34) 1 dX10_sign_34 rfl ?_
      refine aw_iload_n (pc := 35) 2 dX10_sign_35 rfl ?_
      refine aw_iushr (pc := 36) dX10_sign_36 ?_
      refine aw_i2b (pc := 37) dX10_sign_37 ?_
      refine aw_bast (pc := 38) (j := (σ 233 9).toNatClampNeg) (v := ((Int32.toInt8 ((x1.toUInt32 >>> (Int32.toUInt32 y2 &&& Int32.toUInt32 31)).toInt32)).toInt32)) dX10_sign_38 nn_240 ki_240 ln_240 h.1 rfl (pk_vb _) ?_
      have h := h.2
      refine aw_tops (fun τ38 eτ38 => ?_)
      have h := h τ38 eτ38
      refine aw_aload_n (pc := 39) 0 dX10_sign_39 rfl ?_
      refine aw_dup (pc := 40) dX10_sign_40 rfl ?_
      refine aw_getI (pc := 41) 9 kcX10 dX10_sign_41 lfX10_103 nn_233 ki_233 (by decide) rfl ?_
      refine aw_iconst (pc := 44) 1 dX10_sign_44 (by decide) ?_
      refine aw_iadd (pc := 45) dX10_sign_45 ?_
      refine aw_put (pc := 46) 9 kcX10 dX10_sign_46 lfX10_103 nn_233 ki_233 (by decide) rfl rfl rfl rfl ?_
      refine aw_tops (fun τ46 eτ46 => ?_)
      have h := h τ46 eτ46
      obtain ⟨v49, ev49⟩ : ∃ v : Int32, v = y2 + (-8) := ⟨_, rfl⟩
      have h := h v49 ev49
      refine aw_iinc (pc := 49) 2 v49 [(2, .int v49), (0, .ref 233), (1, .int x1)] dX10_sign_49 rfl (by rw [ev49]; rfl) (by decide) rfl ?_
      refine aw_goto (pc := 52) 22 dX10_sign_52 (by decide) ?_
      refine aw_sub (L' := [(0, .ref 233), (1, .int x1), (2, .int v49)]) [1, 2, 0] rfl ?_
      exact ih v49  _ h
def wp_X10_sign (x1 : Int32) (σ : Sg) (K : Int32 → Sg → Prop) : Prop :=
  ∀ τ2 : Sg, τ2 = up σ 233 0 0 → (br (((τ2 233 9) + 4) ≤ 600) (∃ nf, b_X10_sign_22 x1  K nf 24 τ2) (K (-1) τ2))
set_option maxRecDepth 20000 in
set_option maxHeartbeats 2000000 in
theorem ev_X10_sign (l : Launch) (x1 : Int32) {σ : Sg} {K : Int32 → Sg → Prop} (h : wp_X10_sign x1 σ K) : Ev l yX10_sign cX10_sign 3 (some .int) 0 [.ref 233, .int x1] σ (qI K) := by
  refine ev_ov (by decide) (Nat.le_of_ble_eq_true rfl) ?_
  show AV l RX10 cX10_sign 3 (some .int) 0 (qI K) 0 [(0, .ref 233), (1, .int x1)] [] σ
  refine aw_aload_n (pc := 0) 0 dX10_sign_0 rfl ?_
  refine aw_iconst (pc := 1) 0 dX10_sign_1 (by decide) ?_
  refine aw_put (pc := 2) 0 kcX10 dX10_sign_2 lfX10_91 nn_233 ki_233 (by decide) rfl rfl rfl rfl ?_
  refine aw_tops (fun τ2 eτ2 => ?_)
  have h := h τ2 eτ2
  refine aw_aload_n (pc := 5) 0 dX10_sign_5 rfl ?_
  refine aw_getI (pc := 6) 9 kcX10 dX10_sign_6 lfX10_103 nn_233 ki_233 (by decide) rfl ?_
  refine aw_iconst (pc := 9) 4 dX10_sign_9 (by decide) ?_
  refine aw_iadd (pc := 10) dX10_sign_10 ?_
  refine aw_sipush (pc := 11) 600 dX10_sign_11 (by decide) ?_
  refine aw_icmp_le (pc := 14) 19 dX10_sign_14 (by decide) (fun q => ?_) (fun q => ?_)
  · have h := h.1 q
    refine aw_bipush (pc := 19) 24 dX10_sign_19 (by decide) ?_
    refine aw_istore_n (pc := 21) (i := 2) [(2, .int 24), (0, .ref 233), (1, .int x1)] dX10_sign_21 rfl (by decide) rfl ?_
    refine aw_sub (L' := [(0, .ref 233), (1, .int x1), (2, .int 24)]) [1, 2, 0] rfl ?_
    obtain ⟨nf, h⟩ := h
    exact bt_X10_sign_22 l x1   nf 24  _ h
  · have h := h.2 q
    refine aw_iconst (pc := 17) (-1) dX10_sign_17 (by decide) ?_
    exact aw_iret (pc := 18) rfl dX10_sign_18 ⟨_, rfl, h⟩
def wp_X10_end (x1 : Int32) (σ : Sg) (K : Int32 → Sg → Prop) : Prop :=
  ∀ τ2 : Sg, τ2 = up σ 233 0 0 → (wp_X10_within (Int32.toInt64 x1) 0 (Int32.toInt64 (τ2 233 9)) τ2 <| fun r13_ τ13 => (br (r13_ = 0) (K 0 τ13) (∀ τ23 : Sg, τ23 = up τ13 233 9 x1 → (K 1 τ23))))
set_option maxRecDepth 20000 in
set_option maxHeartbeats 2000000 in
theorem ev_X10_end (l : Launch) (x1 : Int32) {σ : Sg} {K : Int32 → Sg → Prop} (h : wp_X10_end x1 σ K) : Ev l yX10_end cX10_end 2 (some .boolean) 1 [.ref 233, .int x1] σ (qI K) := by
  refine ev_ov (by decide) (Nat.le_of_ble_eq_true rfl) ?_
  show AV l RX10 cX10_end 2 (some .boolean) 1 (qI K) 0 [(0, .ref 233), (1, .int x1)] [] σ
  refine aw_aload_n (pc := 0) 0 dX10_end_0 rfl ?_
  refine aw_iconst (pc := 1) 0 dX10_end_1 (by decide) ?_
  refine aw_put (pc := 2) 0 kcX10 dX10_end_2 lfX10_91 nn_233 ki_233 (by decide) rfl rfl rfl rfl ?_
  refine aw_tops (fun τ2 eτ2 => ?_)
  have h := h τ2 eτ2
  refine aw_iload_n (pc := 5) 1 dX10_end_5 rfl ?_
  refine aw_i2l (pc := 6) dX10_end_6 ?_
  refine aw_lconst (pc := 7) 0 dX10_end_7 (by decide) ?_
  refine aw_aload_n (pc := 8) 0 dX10_end_8 rfl ?_
  refine aw_getI (pc := 9) 9 kcX10 dX10_end_9 lfX10_103 nn_233 ki_233 (by decide) rfl ?_
  refine aw_i2l (pc := 12) dX10_end_12 ?_
  refine aw_callS (pc := 13) (As := [.long (Int32.toInt64 x1), .long 0, .long (Int32.toInt64 (τ2 233 9))]) (rest := []) (ev_X10_within l (Int32.toInt64 x1) 0 (Int32.toInt64 (τ2 233 9)) h) mfX10_within dX10_end_13 lmX10_94 ⟨Nat.le_refl _, Nat.le_refl _⟩ (by decide) rfl rfl (Nat.le_of_ble_eq_true rfl) (nxI (fun r13_ τ13 h => ?_))
  refine aw_if_ne (pc := 16) 21 dX10_end_16 (by decide) (fun q => ?_) (fun q => ?_)
  · have h := h.2 q
    refine aw_aload_n (pc := 21) 0 dX10_end_21 rfl ?_
    refine aw_iload_n (pc := 22) 1 dX10_end_22 rfl ?_
    refine aw_put (pc := 23) 9 kcX10 dX10_end_23 lfX10_103 nn_233 ki_233 (by decide) rfl rfl rfl rfl ?_
    refine aw_tops (fun τ23 eτ23 => ?_)
    have h := h τ23 eτ23
    refine aw_iconst (pc := 26) 1 dX10_end_26 (by decide) ?_
    exact aw_zret (pc := 27) rfl rfl dX10_end_27 ⟨_, rfl, h⟩
  · have h := h.1 q
    refine aw_iconst (pc := 19) 0 dX10_end_19 (by decide) ?_
    exact aw_zret (pc := 20) rfl rfl dX10_end_20 ⟨_, rfl, h⟩
def wp_X10_fault (x1 : Int32) (σ : Sg) (K : Int32 → Sg → Prop) : Prop :=
  ∀ τ2 : Sg, τ2 = up σ 233 0 0 → (br (x1 = 0) (K (τ2 233 11) τ2) (br (x1 = 1) (K (τ2 233 12) τ2) (K (-1) τ2)))
set_option maxRecDepth 20000 in
set_option maxHeartbeats 2000000 in
theorem ev_X10_fault (l : Launch) (x1 : Int32) {σ : Sg} {K : Int32 → Sg → Prop} (h : wp_X10_fault x1 σ K) : Ev l yX10_fault cX10_fault 2 (some .int) 0 [.ref 233, .int x1] σ (qI K) := by
  refine ev_ov (by decide) (Nat.le_of_ble_eq_true rfl) ?_
  show AV l RX10 cX10_fault 2 (some .int) 0 (qI K) 0 [(0, .ref 233), (1, .int x1)] [] σ
  refine aw_aload_n (pc := 0) 0 dX10_fault_0 rfl ?_
  refine aw_iconst (pc := 1) 0 dX10_fault_1 (by decide) ?_
  refine aw_put (pc := 2) 0 kcX10 dX10_fault_2 lfX10_91 nn_233 ki_233 (by decide) rfl rfl rfl rfl ?_
  refine aw_tops (fun τ2 eτ2 => ?_)
  have h := h τ2 eτ2
  refine aw_iload_n (pc := 5) 1 dX10_fault_5 rfl ?_
  refine aw_if_ne (pc := 6) 16 dX10_fault_6 (by decide) (fun q => ?_) (fun q => ?_)
  · have h := h.2 q
    refine aw_iload_n (pc := 16) 1 dX10_fault_16 rfl ?_
    refine aw_iconst (pc := 17) 1 dX10_fault_17 (by decide) ?_
    refine aw_icmp_ne (pc := 18) 28 dX10_fault_18 (by decide) (fun q => ?_) (fun q => ?_)
    · have h := h.2 q
      refine aw_iconst (pc := 28) (-1) dX10_fault_28 (by decide) ?_
      exact aw_iret (pc := 29) rfl dX10_fault_29 ⟨_, rfl, h⟩
    · have h := h.1 q
      refine aw_aload_n (pc := 21) 0 dX10_fault_21 rfl ?_
      refine aw_getI (pc := 22) 12 kcX10 dX10_fault_22 lfX10_33 nn_233 ki_233 (by decide) rfl ?_
      refine aw_goto (pc := 25) 29 dX10_fault_25 (by decide) ?_
      exact aw_iret (pc := 29) rfl dX10_fault_29 ⟨_, rfl, h⟩
  · have h := h.1 q
    refine aw_aload_n (pc := 9) 0 dX10_fault_9 rfl ?_
    refine aw_getI (pc := 10) 11 kcX10 dX10_fault_10 lfX10_106 nn_233 ki_233 (by decide) rfl ?_
    refine aw_goto (pc := 13) 29 dX10_fault_13 (by decide) ?_
    exact aw_iret (pc := 29) rfl dX10_fault_29 ⟨_, rfl, h⟩
def wp_X10_beginText  (σ : Sg) (K : Sg → Prop) : Prop :=
  ∀ τ2 : Sg, τ2 = up σ 233 10 0 → (∀ τ7 : Sg, τ7 = up τ2 233 13 1 → (∀ τ12 : Sg, τ12 = up τ7 233 11 0 → (∀ τ17 : Sg, τ17 = up τ12 233 12 (-1) → (K τ17))))
set_option maxRecDepth 20000 in
set_option maxHeartbeats 2000000 in
theorem ev_X10_beginText (l : Launch)  {σ : Sg} {K : Sg → Prop} (h : wp_X10_beginText  σ K) : Ev l yX10_beginText cX10_beginText 1 none 0 [.ref 233] σ (qV K) := by
  refine ev_ov (by decide) (Nat.le_of_ble_eq_true rfl) ?_
  show AV l RX10 cX10_beginText 1 none 0 (qV K) 0 [(0, .ref 233)] [] σ
  refine aw_aload_n (pc := 0) 0 dX10_beginText_0 rfl ?_
  refine aw_iconst (pc := 1) 0 dX10_beginText_1 (by decide) ?_
  refine aw_put (pc := 2) 10 kcX10 dX10_beginText_2 lfX10_109 nn_233 ki_233 (by decide) rfl rfl rfl rfl ?_
  refine aw_tops (fun τ2 eτ2 => ?_)
  have h := h τ2 eτ2
  refine aw_aload_n (pc := 5) 0 dX10_beginText_5 rfl ?_
  refine aw_iconst (pc := 6) 1 dX10_beginText_6 (by decide) ?_
  refine aw_put (pc := 7) 13 kcX10 dX10_beginText_7 lfX10_112 nn_233 ki_233 (by decide) rfl rfl rfl rfl ?_
  refine aw_tops (fun τ7 eτ7 => ?_)
  have h := h τ7 eτ7
  refine aw_aload_n (pc := 10) 0 dX10_beginText_10 rfl ?_
  refine aw_iconst (pc := 11) 0 dX10_beginText_11 (by decide) ?_
  refine aw_put (pc := 12) 11 kcX10 dX10_beginText_12 lfX10_106 nn_233 ki_233 (by decide) rfl rfl rfl rfl ?_
  refine aw_tops (fun τ12 eτ12 => ?_)
  have h := h τ12 eτ12
  refine aw_aload_n (pc := 15) 0 dX10_beginText_15 rfl ?_
  refine aw_iconst (pc := 16) (-1) dX10_beginText_16 (by decide) ?_
  refine aw_put (pc := 17) 12 kcX10 dX10_beginText_17 lfX10_33 nn_233 ki_233 (by decide) rfl rfl rfl rfl ?_
  refine aw_tops (fun τ17 eτ17 => ?_)
  have h := h τ17 eτ17
  exact aw_vret (pc := 20) rfl dX10_beginText_20 ⟨rfl, h⟩
def wp_X10_wrong (x1 : Int32) (x2 : Int32) (σ : Sg) (K : Sg → Prop) : Prop :=
  br ((σ 233 13) = 0) (K σ) (∀ τ9 : Sg, τ9 = up σ 233 11 x1 → (∀ τ14 : Sg, τ14 = up τ9 233 12 x2 → (∀ τ19 : Sg, τ19 = up τ14 233 13 0 → (K τ19))))
set_option maxRecDepth 20000 in
set_option maxHeartbeats 2000000 in
theorem ev_X10_wrong (l : Launch) (x1 : Int32) (x2 : Int32) {σ : Sg} {K : Sg → Prop} (h : wp_X10_wrong x1 x2 σ K) : Ev l yX10_wrong cX10_wrong 3 none 0 [.ref 233, .int x1, .int x2] σ (qV K) := by
  refine ev_ov (by decide) (Nat.le_of_ble_eq_true rfl) ?_
  show AV l RX10 cX10_wrong 3 none 0 (qV K) 0 [(0, .ref 233), (1, .int x1), (2, .int x2)] [] σ
  refine aw_aload_n (pc := 0) 0 dX10_wrong_0 rfl ?_
  refine aw_getI (pc := 1) 13 kcX10 dX10_wrong_1 lfX10_112 nn_233 ki_233 (by decide) rfl ?_
  refine aw_if_eq (pc := 4) 22 dX10_wrong_4 (by decide) (fun q => ?_) (fun q => ?_)
  · have h := h.1 q
    exact aw_vret (pc := 22) rfl dX10_wrong_22 ⟨rfl, h⟩
  · have h := h.2 q
    refine aw_aload_n (pc := 7) 0 dX10_wrong_7 rfl ?_
    refine aw_iload_n (pc := 8) 1 dX10_wrong_8 rfl ?_
    refine aw_put (pc := 9) 11 kcX10 dX10_wrong_9 lfX10_106 nn_233 ki_233 (by decide) rfl rfl rfl rfl ?_
    refine aw_tops (fun τ9 eτ9 => ?_)
    have h := h τ9 eτ9
    refine aw_aload_n (pc := 12) 0 dX10_wrong_12 rfl ?_
    refine aw_iload_n (pc := 13) 2 dX10_wrong_13 rfl ?_
    refine aw_put (pc := 14) 12 kcX10 dX10_wrong_14 lfX10_33 nn_233 ki_233 (by decide) rfl rfl rfl rfl ?_
    refine aw_tops (fun τ14 eτ14 => ?_)
    have h := h τ14 eτ14
    refine aw_aload_n (pc := 17) 0 dX10_wrong_17 rfl ?_
    refine aw_iconst (pc := 18) 0 dX10_wrong_18 (by decide) ?_
    refine aw_put (pc := 19) 13 kcX10 dX10_wrong_19 lfX10_112 nn_233 ki_233 (by decide) rfl rfl rfl rfl ?_
    refine aw_tops (fun τ19 eτ19 => ?_)
    have h := h τ19 eτ19
    exact aw_vret (pc := 22) rfl dX10_wrong_22 ⟨rfl, h⟩
def b_X10_next_52   (K : Int32 → Sg → Prop)  (σ : Sg) : Prop :=
  br ((σ 233 9) ≤ (σ 233 10)) (K 0 σ) (vp_in (σ 233 10) 600 ∧ (K (σ 240 (σ 233 10).toNatClampNeg) σ))
set_option maxRecDepth 20000 in
set_option maxHeartbeats 2000000 in
theorem bt_X10_next_52 (l : Launch)  {K : Int32 → Sg → Prop}     (σ : Sg) (h : b_X10_next_52   K  σ) : AV l RX10 cX10_next 1 (some .int) 0 (qI K) 52 [(0, .ref 233)] [] σ := by
  refine aw_aload_n (pc := 52) 0 dX10_next_52 rfl ?_
  refine aw_getI (pc := 53) 10 kcX10 dX10_next_53 lfX10_109 nn_233 ki_233 (by decide) rfl ?_
  refine aw_aload_n (pc := 56) 0 dX10_next_56 rfl ?_
  refine aw_getI (pc := 57) 9 kcX10 dX10_next_57 lfX10_103 nn_233 ki_233 (by decide) rfl ?_
  refine aw_icmp_ge (pc := 60) 75 dX10_next_60 (by decide) (fun q => ?_) (fun q => ?_)
  · have h := h.1 q
    refine aw_iconst (pc := 75) 0 dX10_next_75 (by decide) ?_
    exact aw_iret (pc := 76) rfl dX10_next_76 ⟨_, rfl, h⟩
  · have h := h.2 q
    refine aw_aload_n (pc := 63) 0 dX10_next_63 rfl ?_
    refine aw_getR (pc := 64) 8 kcX10 dX10_next_64 lfX10_29 nn_233 ki_233 (by decide) rfl rf_233_8 ?_
    refine aw_aload_n (pc := 67) 0 dX10_next_67 rfl ?_
    refine aw_getI (pc := 68) 10 kcX10 dX10_next_68 lfX10_109 nn_233 ki_233 (by decide) rfl ?_
    refine aw_bald (pc := 71) (j := (σ 233 10).toNatClampNeg) dX10_next_71 nn_240 ki_240 ln_240 h.1 rfl ?_
    have h := h.2
    refine aw_goto (pc := 72) 76 dX10_next_72 (by decide) ?_
    exact aw_iret (pc := 76) rfl dX10_next_76 ⟨_, rfl, h⟩
def b_X10_next_39  (B0 : Sg → Prop) (K : Int32 → Sg → Prop)  (σ : Sg) : Prop :=
  ∀ τ46 : Sg, τ46 = up σ 233 10 ((σ 233 10) + 1) → (B0  τ46)
set_option maxRecDepth 20000 in
set_option maxHeartbeats 2000000 in
theorem bt_X10_next_39 (l : Launch)  {K : Int32 → Sg → Prop} (B0 : Sg → Prop) (hB0 : ∀   (τ : Sg), B0  τ → AV l RX10 cX10_next 1 (some .int) 0 (qI K) 0 [(0, .ref 233)] [] τ)   (σ : Sg) (h : b_X10_next_39  B0 K  σ) : AV l RX10 cX10_next 1 (some .int) 0 (qI K) 39 [(0, .ref 233)] [] σ := by
  refine aw_aload_n (pc := 39) 0 dX10_next_39 rfl ?_
  refine aw_dup (pc := 40) dX10_next_40 rfl ?_
  refine aw_getI (pc := 41) 10 kcX10 dX10_next_41 lfX10_109 nn_233 ki_233 (by decide) rfl ?_
  refine aw_iconst (pc := 44) 1 dX10_next_44 (by decide) ?_
  refine aw_iadd (pc := 45) dX10_next_45 ?_
  refine aw_put (pc := 46) 10 kcX10 dX10_next_46 lfX10_109 nn_233 ki_233 (by decide) rfl rfl rfl rfl ?_
  refine aw_tops (fun τ46 eτ46 => ?_)
  have h := h τ46 eτ46
  refine aw_goto (pc := 49) 0 dX10_next_49 (by decide) ?_
  exact hB0   _ h
def b_X10_next_0   (K : Int32 → Sg → Prop) : Nat → Sg → Prop
  | 0, _ => False
  | n + 1, σ =>
  br ((σ 233 9) ≤ (σ 233 10)) (b_X10_next_52   K  σ) (vp_in (σ 233 10) 600 ∧ (br ((σ 240 (σ 233 10).toNatClampNeg) = 32) (b_X10_next_39  (fun  τ => b_X10_next_0   K n  τ) K  σ) (vp_in (σ 233 10) 600 ∧ (br ((σ 240 (σ 233 10).toNatClampNeg) = 10) (b_X10_next_39  (fun  τ => b_X10_next_0   K n  τ) K  σ) (b_X10_next_52   K  σ)))))
set_option maxRecDepth 20000 in
set_option maxHeartbeats 2000000 in
theorem bt_X10_next_0 (l : Launch)  {K : Int32 → Sg → Prop}   : ∀ (n : Nat)   (σ : Sg), b_X10_next_0   K n  σ → AV l RX10 cX10_next 1 (some .int) 0 (qI K) 0 [(0, .ref 233)] [] σ := by
  intro n
  induction n with
  | zero => intro  σ h; exact h.elim
  | succ n ih =>
    intro  σ h
    refine aw_aload_n (pc := 0) 0 dX10_next_0 rfl ?_
    refine aw_getI (pc := 1) 10 kcX10 dX10_next_1 lfX10_109 nn_233 ki_233 (by decide) rfl ?_
    refine aw_aload_n (pc := 4) 0 dX10_next_4 rfl ?_
    refine aw_getI (pc := 5) 9 kcX10 dX10_next_5 lfX10_103 nn_233 ki_233 (by decide) rfl ?_
    refine aw_icmp_ge (pc := 8) 52 dX10_next_8 (by decide) (fun q => ?_) (fun q => ?_)
    · have h := h.1 q
      exact bt_X10_next_52 l      _ h
    · have h := h.2 q
      refine aw_aload_n (pc := 11) 0 dX10_next_11 rfl ?_
      refine aw_getR (pc := 12) 8 kcX10 dX10_next_12 lfX10_29 nn_233 ki_233 (by decide) rfl rf_233_8 ?_
      refine aw_aload_n (pc := 15) 0 dX10_next_15 rfl ?_
      refine aw_getI (pc := 16) 10 kcX10 dX10_next_16 lfX10_109 nn_233 ki_233 (by decide) rfl ?_
      refine aw_bald (pc := 19) (j := (σ 233 10).toNatClampNeg) dX10_next_19 nn_240 ki_240 ln_240 h.1 rfl ?_
      have h := h.2
      refine aw_bipush (pc := 20) 32 dX10_next_20 (by decide) ?_
      refine aw_icmp_eq (pc := 22) 39 dX10_next_22 (by decide) (fun q => ?_) (fun q => ?_)
      · have h := h.1 q
        exact bt_X10_next_39 l  (fun  τ => b_X10_next_0   K n  τ) (fun  τ h => ih  τ h)   _ h
      · have h := h.2 q
        refine aw_aload_n (pc := 25) 0 dX10_next_25 rfl ?_
        refine aw_getR (pc := 26) 8 kcX10 dX10_next_26 lfX10_29 nn_233 ki_233 (by decide) rfl rf_233_8 ?_
        refine aw_aload_n (pc := 29) 0 dX10_next_29 rfl ?_
        refine aw_getI (pc := 30) 10 kcX10 dX10_next_30 lfX10_109 nn_233 ki_233 (by decide) rfl ?_
        refine aw_bald (pc := 33) (j := (σ 233 10).toNatClampNeg) dX10_next_33 nn_240 ki_240 ln_240 h.1 rfl ?_
        have h := h.2
        refine aw_bipush (pc := 34) 10 dX10_next_34 (by decide) ?_
        refine aw_icmp_ne (pc := 36) 52 dX10_next_36 (by decide) (fun q => ?_) (fun q => ?_)
        · have h := h.2 q
          exact bt_X10_next_52 l      _ h
        · have h := h.1 q
          exact bt_X10_next_39 l  (fun  τ => b_X10_next_0   K n  τ) (fun  τ h => ih  τ h)   _ h
def wp_X10_next  (σ : Sg) (K : Int32 → Sg → Prop) : Prop :=
  ∃ nf, b_X10_next_0   K nf  σ
set_option maxRecDepth 20000 in
set_option maxHeartbeats 2000000 in
theorem ev_X10_next (l : Launch)  {σ : Sg} {K : Int32 → Sg → Prop} (h : wp_X10_next  σ K) : Ev l yX10_next cX10_next 1 (some .int) 0 [.ref 233] σ (qI K) := by
  refine ev_ov (by decide) (Nat.le_of_ble_eq_true rfl) ?_
  show AV l RX10 cX10_next 1 (some .int) 0 (qI K) 0 [(0, .ref 233)] [] σ
  obtain ⟨nf, h⟩ := h
  exact bt_X10_next_0 l    nf   _ h
def wp_X10_isEnd  (σ : Sg) (K : Int32 → Sg → Prop) : Prop :=
  wp_X10_next  σ <| fun r1_ τ1 => (br (r1_ = 0) (br ((τ1 233 10) < (τ1 233 9)) (K 0 τ1) (K 1 τ1)) (K 0 τ1))
set_option maxRecDepth 20000 in
set_option maxHeartbeats 2000000 in
theorem ev_X10_isEnd (l : Launch)  {σ : Sg} {K : Int32 → Sg → Prop} (h : wp_X10_isEnd  σ K) : Ev l yX10_isEnd cX10_isEnd 1 (some .boolean) 1 [.ref 233] σ (qI K) := by
  refine ev_ov (by decide) (Nat.le_of_ble_eq_true rfl) ?_
  show AV l RX10 cX10_isEnd 1 (some .boolean) 1 (qI K) 0 [(0, .ref 233)] [] σ
  refine aw_aload_n (pc := 0) 0 dX10_isEnd_0 rfl ?_
  refine aw_callV (pc := 1) (As := []) (rest := []) kcX10 nn_233 ki_233 rfl (ev_X10_next l  h) mfX10_next dX10_isEnd_1 lmX10_116 ⟨Nat.le_refl _, Nat.le_refl _⟩ (by decide) rfl rfl (Nat.le_of_ble_eq_true rfl) (nxI (fun r1_ τ1 h => ?_))
  refine aw_if_ne (pc := 4) 22 dX10_isEnd_4 (by decide) (fun q => ?_) (fun q => ?_)
  · have h := h.2 q
    refine aw_iconst (pc := 22) 0 dX10_isEnd_22 (by decide) ?_
    exact aw_zret (pc := 23) rfl rfl dX10_isEnd_23 ⟨_, rfl, h⟩
  · have h := h.1 q
    refine aw_aload_n (pc := 7) 0 dX10_isEnd_7 rfl ?_
    refine aw_getI (pc := 8) 10 kcX10 dX10_isEnd_8 lfX10_109 nn_233 ki_233 (by decide) rfl ?_
    refine aw_aload_n (pc := 11) 0 dX10_isEnd_11 rfl ?_
    refine aw_getI (pc := 12) 9 kcX10 dX10_isEnd_12 lfX10_103 nn_233 ki_233 (by decide) rfl ?_
    refine aw_icmp_lt (pc := 15) 22 dX10_isEnd_15 (by decide) (fun q => ?_) (fun q => ?_)
    · have h := h.1 q
      refine aw_iconst (pc := 22) 0 dX10_isEnd_22 (by decide) ?_
      exact aw_zret (pc := 23) rfl rfl dX10_isEnd_23 ⟨_, rfl, h⟩
    · have h := h.2 q
      refine aw_iconst (pc := 18) 1 dX10_isEnd_18 (by decide) ?_
      refine aw_goto (pc := 19) 23 dX10_isEnd_19 (by decide) ?_
      exact aw_zret (pc := 23) rfl rfl dX10_isEnd_23 ⟨_, rfl, h⟩
def b_X10_isWord_74 (i1 : Nat)  (K : Int32 → Sg → Prop) : Nat → Int32 → Int32 → Sg → Prop
  | 0, _, _, _ => False
  | n + 1, y3, y4, σ =>
  wp_J0_length_8abf5 i1 σ <| fun r77_ τ77 => (br (r77_ ≤ y4) (isZ y3 ∧ K y3 τ77) (br (y3 = 0) (isZ y3 ∧ K y3 τ77) (vp_in ((τ77 233 10) + y4) 600 ∧ (wp_J0_charAt_5068e i1 y4 τ77 <| fun r102_ τ102 => (br ((τ77 240 ((τ77 233 10) + y4).toNatClampNeg) = r102_) (∀ v114 : Int32, v114 = y4 + 1 → (b_X10_isWord_74 i1  K n 1 v114 τ102)) (∀ v114 : Int32, v114 = y4 + 1 → (b_X10_isWord_74 i1  K n 0 v114 τ102)))))))
set_option maxRecDepth 20000 in
set_option maxHeartbeats 2000000 in
theorem bt_X10_isWord_74 (l : Launch) (i1 : Nat) (hi1 : i1 < nSt) (gi1 : i1 ≠ 99) {K : Int32 → Sg → Prop}   : ∀ (n : Nat) (y3 : Int32) (y4 : Int32)  (σ : Sg), b_X10_isWord_74 i1  K n y3 y4 σ → AV l RX10 cX10_isWord 5 (some .boolean) 5 (qI K) 74 [(0, .ref 233), (1, .retAddr i1), (3, .int y3), (4, .int y4)] [] σ := by
  intro n
  induction n with
  | zero => intro y3 y4 σ h; exact h.elim
  | succ n ih =>
    intro y3 y4 σ h
    refine aw_iload (pc := 74) 3 dX10_isWord_74 rfl ?_
    refine aw_aload_nS (pc := 76) 1 gi1 dX10_isWord_76 rfl ?_
    refine aw_callT (pc := 77) (As := []) (rest := [.int y4]) hi1 gi1 rfl (ev_J0_length_8abf5 l i1 hi1 gi1 h) mfJ0_length_8abf5 dX10_isWord_77 lmX10_124 ⟨Nat.le_refl _, Nat.le_refl _⟩ (by decide) rfl rfl (Nat.le_of_ble_eq_true rfl) (nxI (fun r77_ τ77 h => ?_))
    refine aw_icmp_ge (pc := 80) 120 dX10_isWord_80 (by decide) (fun q => ?_) (fun q => ?_)
    · have h := h.1 q
      refine aw_iload_n (pc := 120) 2 dX10_isWord_120 rfl ?_
      exact aw_zret (pc := 121) rfl (isZ_n h.1) dX10_isWord_121 ⟨_, rfl, h.2⟩
    · have h := h.2 q
      refine aw_iload_n (pc := 83) 2 dX10_isWord_83 rfl ?_
      refine aw_if_eq (pc := 84) 120 dX10_isWord_84 (by decide) (fun q => ?_) (fun q => ?_)
      · have h := h.1 q
        refine aw_iload_n (pc := 120) 2 dX10_isWord_120 rfl ?_
        exact aw_zret (pc := 121) rfl (isZ_n h.1) dX10_isWord_121 ⟨_, rfl, h.2⟩
      · have h := h.2 q
        refine aw_aload_n (pc := 87) 0 dX10_isWord_87 rfl ?_
        refine aw_getR (pc := 88) 8 kcX10 dX10_isWord_88 lfX10_29 nn_233 ki_233 (by decide) rfl rf_233_8 ?_
        refine aw_aload_n (pc := 91) 0 dX10_isWord_91 rfl ?_
        refine aw_getI (pc := 92) 10 kcX10 dX10_isWord_92 lfX10_109 nn_233 ki_233 (by decide) rfl ?_
        refine aw_iload (pc := 95) 3 dX10_isWord_95 rfl ?_
        refine aw_iadd (pc := 97) dX10_isWord_97 ?_
        refine aw_bald (pc := 98) (j := ((τ77 233 10) + y4).toNatClampNeg) dX10_isWord_98 nn_240 ki_240 ln_240 h.1 rfl ?_
        have h := h.2
        refine aw_aload_nS (pc := 99) 1 gi1 dX10_isWord_99 rfl ?_
        refine aw_iload (pc := 100) 3 dX10_isWord_100 rfl ?_
        refine aw_callT (pc := 102) (As := [.int y4]) (rest := [.int (τ77 240 ((τ77 233 10) + y4).toNatClampNeg)]) hi1 gi1 rfl (ev_J0_charAt_5068e l i1 hi1 gi1 y4 h) mfJ0_charAt_5068e dX10_isWord_102 lmX10_129 ⟨Nat.le_refl _, Nat.le_refl _⟩ (by decide) rfl rfl (Nat.le_of_ble_eq_true rfl) (nxI (fun r102_ τ102 h => ?_))
        refine aw_icmp_ne (pc := 105) 112 dX10_isWord_105 (by decide) (fun q => ?_) (fun q => ?_)
        · have h := h.2 q
          refine aw_iconst (pc := 112) 0 dX10_isWord_112 (by decide) ?_
          refine aw_istore_n (pc := 113) (i := 3) [(3, .int 0), (0, .ref 233), (1, .retAddr i1), (4, .int y4)] dX10_isWord_113 rfl (by decide) rfl ?_
          obtain ⟨v114, ev114⟩ : ∃ v : Int32, v = y4 + 1 := ⟨_, rfl⟩
          have h := h v114 ev114
          refine aw_iinc (pc := 114) 3 v114 [(4, .int v114), (3, .int 0), (0, .ref 233), (1, .retAddr i1)] dX10_isWord_114 rfl (by rw [ev114]; rfl) (by decide) rfl ?_
          refine aw_goto (pc := 117) 74 dX10_isWord_117 (by decide) ?_
          refine aw_sub (L' := [(0, .ref 233), (1, .retAddr i1), (3, .int 0), (4, .int v114)]) [2, 3, 1, 0] rfl ?_
          exact ih 0 v114  _ h
        · have h := h.1 q
          refine aw_iconst (pc := 108) 1 dX10_isWord_108 (by decide) ?_
          refine aw_goto (pc := 109) 113 dX10_isWord_109 (by decide) ?_
          refine aw_istore_n (pc := 113) (i := 3) [(3, .int 1), (0, .ref 233), (1, .retAddr i1), (4, .int y4)] dX10_isWord_113 rfl (by decide) rfl ?_
          obtain ⟨v114, ev114⟩ : ∃ v : Int32, v = y4 + 1 := ⟨_, rfl⟩
          have h := h v114 ev114
          refine aw_iinc (pc := 114) 3 v114 [(4, .int v114), (3, .int 1), (0, .ref 233), (1, .retAddr i1)] dX10_isWord_114 rfl (by rw [ev114]; rfl) (by decide) rfl ?_
          refine aw_goto (pc := 117) 74 dX10_isWord_117 (by decide) ?_
          refine aw_sub (L' := [(0, .ref 233), (1, .retAddr i1), (3, .int 1), (4, .int v114)]) [2, 3, 1, 0] rfl ?_
          exact ih 1 v114  _ h
def b_X10_isWord_50 (i1 : Nat)  (K : Int32 → Sg → Prop) (y2 : Int32) (σ : Sg) : Prop :=
  br ((σ 233 13) = 0) (∃ nf, b_X10_isWord_74 i1  K nf 0 0 σ) (wp_J0_length_8abf5 i1 σ <| fun r59_ τ59 => (br (y2 = r59_) (∃ nf, b_X10_isWord_74 i1  K nf 1 0 τ59) (∃ nf, b_X10_isWord_74 i1  K nf 0 0 τ59)))
set_option maxRecDepth 20000 in
set_option maxHeartbeats 2000000 in
theorem bt_X10_isWord_50 (l : Launch) (i1 : Nat) (hi1 : i1 < nSt) (gi1 : i1 ≠ 99) {K : Int32 → Sg → Prop}   (y2 : Int32)  (σ : Sg) (h : b_X10_isWord_50 i1  K y2 σ) : AV l RX10 cX10_isWord 5 (some .boolean) 5 (qI K) 50 [(0, .ref 233), (1, .retAddr i1), (2, .int y2)] [] σ := by
  refine aw_aload_n (pc := 50) 0 dX10_isWord_50 rfl ?_
  refine aw_getI (pc := 51) 13 kcX10 dX10_isWord_51 lfX10_112 nn_233 ki_233 (by decide) rfl ?_
  refine aw_if_eq (pc := 54) 69 dX10_isWord_54 (by decide) (fun q => ?_) (fun q => ?_)
  · have h := h.1 q
    refine aw_iconst (pc := 69) 0 dX10_isWord_69 (by decide) ?_
    refine aw_istore_n (pc := 70) (i := 3) [(3, .int 0), (0, .ref 233), (1, .retAddr i1), (2, .int y2)] dX10_isWord_70 rfl (by decide) rfl ?_
    refine aw_iconst (pc := 71) 0 dX10_isWord_71 (by decide) ?_
    refine aw_istore (pc := 72) [(4, .int 0), (3, .int 0), (0, .ref 233), (1, .retAddr i1), (2, .int y2)] dX10_isWord_72 (by decide) rfl ?_
    refine aw_sub (L' := [(0, .ref 233), (1, .retAddr i1), (3, .int 0), (4, .int 0)]) [2, 3, 1, 0] rfl ?_
    obtain ⟨nf, h⟩ := h
    exact bt_X10_isWord_74 l i1 hi1 gi1   nf 0 0  _ h
  · have h := h.2 q
    refine aw_iload_n (pc := 57) 2 dX10_isWord_57 rfl ?_
    refine aw_aload_nS (pc := 58) 1 gi1 dX10_isWord_58 rfl ?_
    refine aw_callT (pc := 59) (As := []) (rest := [.int y2]) hi1 gi1 rfl (ev_J0_length_8abf5 l i1 hi1 gi1 h) mfJ0_length_8abf5 dX10_isWord_59 lmX10_124 ⟨Nat.le_refl _, Nat.le_refl _⟩ (by decide) rfl rfl (Nat.le_of_ble_eq_true rfl) (nxI (fun r59_ τ59 h => ?_))
    refine aw_icmp_ne (pc := 62) 69 dX10_isWord_62 (by decide) (fun q => ?_) (fun q => ?_)
    · have h := h.2 q
      refine aw_iconst (pc := 69) 0 dX10_isWord_69 (by decide) ?_
      refine aw_istore_n (pc := 70) (i := 3) [(3, .int 0), (0, .ref 233), (1, .retAddr i1), (2, .int y2)] dX10_isWord_70 rfl (by decide) rfl ?_
      refine aw_iconst (pc := 71) 0 dX10_isWord_71 (by decide) ?_
      refine aw_istore (pc := 72) [(4, .int 0), (3, .int 0), (0, .ref 233), (1, .retAddr i1), (2, .int y2)] dX10_isWord_72 (by decide) rfl ?_
      refine aw_sub (L' := [(0, .ref 233), (1, .retAddr i1), (3, .int 0), (4, .int 0)]) [2, 3, 1, 0] rfl ?_
      obtain ⟨nf, h⟩ := h
      exact bt_X10_isWord_74 l i1 hi1 gi1   nf 0 0  _ h
    · have h := h.1 q
      refine aw_iconst (pc := 65) 1 dX10_isWord_65 (by decide) ?_
      refine aw_goto (pc := 66) 70 dX10_isWord_66 (by decide) ?_
      refine aw_istore_n (pc := 70) (i := 3) [(3, .int 1), (0, .ref 233), (1, .retAddr i1), (2, .int y2)] dX10_isWord_70 rfl (by decide) rfl ?_
      refine aw_iconst (pc := 71) 0 dX10_isWord_71 (by decide) ?_
      refine aw_istore (pc := 72) [(4, .int 0), (3, .int 1), (0, .ref 233), (1, .retAddr i1), (2, .int y2)] dX10_isWord_72 (by decide) rfl ?_
      refine aw_sub (L' := [(0, .ref 233), (1, .retAddr i1), (3, .int 1), (4, .int 0)]) [2, 3, 1, 0] rfl ?_
      obtain ⟨nf, h⟩ := h
      exact bt_X10_isWord_74 l i1 hi1 gi1   nf 1 0  _ h
def b_X10_isWord_7 (i1 : Nat)  (K : Int32 → Sg → Prop) : Nat → Int32 → Sg → Prop
  | 0, _, _ => False
  | n + 1, y2, σ =>
  br ((σ 233 9) ≤ ((σ 233 10) + y2)) (b_X10_isWord_50 i1  K y2 σ) (vp_in ((σ 233 10) + y2) 600 ∧ (wp_X10_within (Int32.toInt64 (σ 240 ((σ 233 10) + y2).toNatClampNeg)) 97 122 σ <| fun r38_ τ38 => (br (r38_ = 0) (b_X10_isWord_50 i1  K y2 τ38) (∀ v44 : Int32, v44 = y2 + 1 → (b_X10_isWord_7 i1  K n v44 τ38)))))
set_option maxRecDepth 20000 in
set_option maxHeartbeats 2000000 in
theorem bt_X10_isWord_7 (l : Launch) (i1 : Nat) (hi1 : i1 < nSt) (gi1 : i1 ≠ 99) {K : Int32 → Sg → Prop}   : ∀ (n : Nat) (y2 : Int32)  (σ : Sg), b_X10_isWord_7 i1  K n y2 σ → AV l RX10 cX10_isWord 5 (some .boolean) 5 (qI K) 7 [(0, .ref 233), (1, .retAddr i1), (2, .int y2)] [] σ := by
  intro n
  induction n with
  | zero => intro y2 σ h; exact h.elim
  | succ n ih =>
    intro y2 σ h
    refine aw_aload_n (pc := 7) 0 dX10_isWord_7 rfl ?_
    refine aw_getI (pc := 8) 10 kcX10 dX10_isWord_8 lfX10_109 nn_233 ki_233 (by decide) rfl ?_
    refine aw_iload_n (pc := 11) 2 dX10_isWord_11 rfl ?_
    refine aw_iadd (pc := 12) dX10_isWord_12 ?_
    refine aw_aload_n (pc := 13) 0 dX10_isWord_13 rfl ?_
    refine aw_getI (pc := 14) 9 kcX10 dX10_isWord_14 lfX10_103 nn_233 ki_233 (by decide) rfl ?_
    refine aw_icmp_ge (pc := 17) 50 dX10_isWord_17 (by decide) (fun q => ?_) (fun q => ?_)
    · have h := h.1 q
      exact bt_X10_isWord_50 l i1 hi1 gi1   y2  _ h
    · have h := h.2 q
      refine aw_aload_n (pc := 20) 0 dX10_isWord_20 rfl ?_
      refine aw_getR (pc := 21) 8 kcX10 dX10_isWord_21 lfX10_29 nn_233 ki_233 (by decide) rfl rf_233_8 ?_
      refine aw_aload_n (pc := 24) 0 dX10_isWord_24 rfl ?_
      refine aw_getI (pc := 25) 10 kcX10 dX10_isWord_25 lfX10_109 nn_233 ki_233 (by decide) rfl ?_
      refine aw_iload_n (pc := 28) 2 dX10_isWord_28 rfl ?_
      refine aw_iadd (pc := 29) dX10_isWord_29 ?_
      refine aw_bald (pc := 30) (j := ((σ 233 10) + y2).toNatClampNeg) dX10_isWord_30 nn_240 ki_240 ln_240 h.1 rfl ?_
      have h := h.2
      refine aw_i2l (pc := 31) dX10_isWord_31 ?_
      refine aw_ldc2 (pc := 32) 97 dX10_isWord_32 lclX10_120 ?_
      refine aw_ldc2 (pc := 35) 122 dX10_isWord_35 lclX10_122 ?_
      refine aw_callS (pc := 38) (As := [.long (Int32.toInt64 (σ 240 ((σ 233 10) + y2).toNatClampNeg)), .long 97, .long 122]) (rest := []) (ev_X10_within l (Int32.toInt64 (σ 240 ((σ 233 10) + y2).toNatClampNeg)) 97 122 h) mfX10_within dX10_isWord_38 lmX10_94 ⟨Nat.le_refl _, Nat.le_refl _⟩ (by decide) rfl rfl (Nat.le_of_ble_eq_true rfl) (nxI (fun r38_ τ38 h => ?_))
      refine aw_if_eq (pc := 41) 50 dX10_isWord_41 (by decide) (fun q => ?_) (fun q => ?_)
      · have h := h.1 q
        exact bt_X10_isWord_50 l i1 hi1 gi1   y2  _ h
      · have h := h.2 q
        obtain ⟨v44, ev44⟩ : ∃ v : Int32, v = y2 + 1 := ⟨_, rfl⟩
        have h := h v44 ev44
        refine aw_iinc (pc := 44) 2 v44 [(2, .int v44), (0, .ref 233), (1, .retAddr i1)] dX10_isWord_44 rfl (by rw [ev44]; rfl) (by decide) rfl ?_
        refine aw_goto (pc := 47) 7 dX10_isWord_47 (by decide) ?_
        refine aw_sub (L' := [(0, .ref 233), (1, .retAddr i1), (2, .int v44)]) [1, 2, 0] rfl ?_
        exact ih v44  _ h
def wp_X10_isWord (i1 : Nat) (σ : Sg) (K : Int32 → Sg → Prop) : Prop :=
  wp_X10_next  σ <| fun r1_ τ1 => (∃ nf, b_X10_isWord_7 i1  K nf 0 τ1)
set_option maxRecDepth 20000 in
set_option maxHeartbeats 2000000 in
theorem ev_X10_isWord (l : Launch) (i1 : Nat) (hi1 : i1 < nSt) (gi1 : i1 ≠ 99) {σ : Sg} {K : Int32 → Sg → Prop} (h : wp_X10_isWord i1 σ K) : Ev l yX10_isWord cX10_isWord 5 (some .boolean) 5 [.ref 233, .retAddr i1] σ (qI K) := by
  refine ev_ov (by decide) (Nat.le_of_ble_eq_true rfl) ?_
  show AV l RX10 cX10_isWord 5 (some .boolean) 5 (qI K) 0 [(0, .ref 233), (1, .retAddr i1)] [] σ
  refine aw_aload_n (pc := 0) 0 dX10_isWord_0 rfl ?_
  refine aw_callV (pc := 1) (As := []) (rest := []) kcX10 nn_233 ki_233 rfl (ev_X10_next l  h) mfX10_next dX10_isWord_1 lmX10_116 ⟨Nat.le_refl _, Nat.le_refl _⟩ (by decide) rfl rfl (Nat.le_of_ble_eq_true rfl) (nxI (fun r1_ τ1 h => ?_))
  refine aw_pop (pc := 4) dX10_isWord_4 rfl ?_
  refine aw_iconst (pc := 5) 0 dX10_isWord_5 (by decide) ?_
  refine aw_istore_n (pc := 6) (i := 2) [(2, .int 0), (0, .ref 233), (1, .retAddr i1)] dX10_isWord_6 rfl (by decide) rfl ?_
  refine aw_sub (L' := [(0, .ref 233), (1, .retAddr i1), (2, .int 0)]) [1, 2, 0] rfl ?_
  obtain ⟨nf, h⟩ := h
  exact bt_X10_isWord_7 l i1 hi1 gi1   nf 0  _ h
def b_X10_takesWord_23 (i1 : Nat)  (K : Int32 → Sg → Prop) (y2 : Int32) (z0 : Int32) (z1 : Int32) (σ : Sg) : Prop :=
  ∀ τ24 : Sg, τ24 = up σ 233 10 (z1 + z0) → (isZ y2 ∧ K y2 τ24)
set_option maxRecDepth 20000 in
set_option maxHeartbeats 2000000 in
theorem bt_X10_takesWord_23 (l : Launch) (i1 : Nat) (hi1 : i1 < nSt) (gi1 : i1 ≠ 99) {K : Int32 → Sg → Prop}   (y2 : Int32) (z0 : Int32) (z1 : Int32)  (σ : Sg) (h : b_X10_takesWord_23 i1  K y2 z0 z1 σ) : AV l RX10 cX10_takesWord 3 (some .boolean) 6 (qI K) 23 [(2, .int y2)] [.int z0, .int z1, .ref 233] σ := by
  refine aw_iadd (pc := 23) dX10_takesWord_23 ?_
  refine aw_put (pc := 24) 10 kcX10 dX10_takesWord_24 lfX10_109 nn_233 ki_233 (by decide) rfl rfl rfl rfl ?_
  refine aw_tops (fun τ24 eτ24 => ?_)
  have h := h τ24 eτ24
  refine aw_iload_n (pc := 27) 0 dX10_takesWord_27 rfl ?_
  exact aw_zret (pc := 28) rfl (isZ_n h.1) dX10_takesWord_28 ⟨_, rfl, h.2⟩
def wp_X10_takesWord (i1 : Nat) (σ : Sg) (K : Int32 → Sg → Prop) : Prop :=
  wp_X10_isWord i1 σ <| fun r2_ τ2 => (br (r2_ = 0) (b_X10_takesWord_23 i1  K r2_ 0 (τ2 233 10) τ2) (wp_J0_length_8abf5 i1 τ2 <| fun r16_ τ16 => (b_X10_takesWord_23 i1  K r2_ r16_ (τ2 233 10) τ16)))
set_option maxRecDepth 20000 in
set_option maxHeartbeats 2000000 in
theorem ev_X10_takesWord (l : Launch) (i1 : Nat) (hi1 : i1 < nSt) (gi1 : i1 ≠ 99) {σ : Sg} {K : Int32 → Sg → Prop} (h : wp_X10_takesWord i1 σ K) : Ev l yX10_takesWord cX10_takesWord 3 (some .boolean) 6 [.ref 233, .retAddr i1] σ (qI K) := by
  refine ev_ov (by decide) (Nat.le_of_ble_eq_true rfl) ?_
  show AV l RX10 cX10_takesWord 3 (some .boolean) 6 (qI K) 0 [(0, .ref 233), (1, .retAddr i1)] [] σ
  refine aw_aload_n (pc := 0) 0 dX10_takesWord_0 rfl ?_
  refine aw_aload_nS (pc := 1) 1 gi1 dX10_takesWord_1 rfl ?_
  refine aw_callV (pc := 2) (As := [.retAddr i1]) (rest := []) kcX10 nn_233 ki_233 rfl (ev_X10_isWord l i1 hi1 gi1 h) mfX10_isWord dX10_takesWord_2 lmX10_133 ⟨Nat.le_refl _, Nat.le_refl _⟩ (by decide) rfl rfl (Nat.le_of_ble_eq_true rfl) (nxI (fun r2_ τ2 h => ?_))
  refine aw_istore_n (pc := 5) (i := 2) [(2, .int r2_), (0, .ref 233), (1, .retAddr i1)] dX10_takesWord_5 rfl (by decide) rfl ?_
  refine aw_aload_n (pc := 6) 1 dX10_takesWord_6 rfl ?_
  refine aw_dup (pc := 7) dX10_takesWord_7 rfl ?_
  refine aw_getI (pc := 8) 10 kcX10 dX10_takesWord_8 lfX10_109 nn_233 ki_233 (by decide) rfl ?_
  refine aw_iload_n (pc := 11) 0 dX10_takesWord_11 rfl ?_
  refine aw_if_eq (pc := 12) 22 dX10_takesWord_12 (by decide) (fun q => ?_) (fun q => ?_)
  · have h := h.1 q
    refine aw_iconst (pc := 22) 0 dX10_takesWord_22 (by decide) ?_
    refine aw_sub (L' := [(2, .int r2_)]) [0] rfl ?_
    exact bt_X10_takesWord_23 l i1 hi1 gi1   r2_ 0 (τ2 233 10)  _ h
  · have h := h.2 q
    refine aw_aload_nS (pc := 15) 2 gi1 dX10_takesWord_15 rfl ?_
    refine aw_callT (pc := 16) (As := []) (rest := [.int (τ2 233 10), .ref 233]) hi1 gi1 rfl (ev_J0_length_8abf5 l i1 hi1 gi1 h) mfJ0_length_8abf5 dX10_takesWord_16 lmX10_124 ⟨Nat.le_refl _, Nat.le_refl _⟩ (by decide) rfl rfl (Nat.le_of_ble_eq_true rfl) (nxI (fun r16_ τ16 h => ?_))
    refine aw_goto (pc := 19) 23 dX10_takesWord_19 (by decide) ?_
    refine aw_sub (L' := [(2, .int r2_)]) [0] rfl ?_
    exact bt_X10_takesWord_23 l i1 hi1 gi1   r2_ r16_ (τ2 233 10)  _ h
def b_X10_takes_46 (x1 : Int32)  (K : Int32 → Sg → Prop) (y2 : Int32) (z0 : Int32) (z1 : Int32) (σ : Sg) : Prop :=
  ∀ τ47 : Sg, τ47 = up σ 233 10 (z1 + z0) → (isZ y2 ∧ K y2 τ47)
set_option maxRecDepth 20000 in
set_option maxHeartbeats 2000000 in
theorem bt_X10_takes_46 (l : Launch) (x1 : Int32) {K : Int32 → Sg → Prop}   (y2 : Int32) (z0 : Int32) (z1 : Int32)  (σ : Sg) (h : b_X10_takes_46 x1  K y2 z0 z1 σ) : AV l RX10 cX10_takes 3 (some .boolean) 1 (qI K) 46 [(2, .int y2)] [.int z0, .int z1, .ref 233] σ := by
  refine aw_iadd (pc := 46) dX10_takes_46 ?_
  refine aw_put (pc := 47) 10 kcX10 dX10_takes_47 lfX10_109 nn_233 ki_233 (by decide) rfl rfl rfl rfl ?_
  refine aw_tops (fun τ47 eτ47 => ?_)
  have h := h τ47 eτ47
  refine aw_iload_n (pc := 50) 0 dX10_takes_50 rfl ?_
  exact aw_zret (pc := 51) rfl (isZ_n h.1) dX10_takes_51 ⟨_, rfl, h.2⟩
def b_X10_takes_31 (x1 : Int32)  (K : Int32 → Sg → Prop) (z0 : Int32) (σ : Sg) : Prop :=
  br (z0 = 0) (b_X10_takes_46 x1  K z0 0 (σ 233 10) σ) (b_X10_takes_46 x1  K z0 1 (σ 233 10) σ)
set_option maxRecDepth 20000 in
set_option maxHeartbeats 2000000 in
theorem bt_X10_takes_31 (l : Launch) (x1 : Int32) {K : Int32 → Sg → Prop}   (z0 : Int32)  (σ : Sg) (h : b_X10_takes_31 x1  K z0 σ) : AV l RX10 cX10_takes 3 (some .boolean) 1 (qI K) 31 [(0, .ref 233)] [.int z0] σ := by
  refine aw_istore_n (pc := 31) (i := 2) [(2, .int z0), (0, .ref 233)] dX10_takes_31 rfl (by decide) rfl ?_
  refine aw_aload_n (pc := 32) 1 dX10_takes_32 rfl ?_
  refine aw_dup (pc := 33) dX10_takes_33 rfl ?_
  refine aw_getI (pc := 34) 10 kcX10 dX10_takes_34 lfX10_109 nn_233 ki_233 (by decide) rfl ?_
  refine aw_iload_n (pc := 37) 0 dX10_takes_37 rfl ?_
  refine aw_if_eq (pc := 38) 45 dX10_takes_38 (by decide) (fun q => ?_) (fun q => ?_)
  · have h := h.1 q
    refine aw_iconst (pc := 45) 0 dX10_takes_45 (by decide) ?_
    refine aw_sub (L' := [(2, .int z0)]) [0] rfl ?_
    exact bt_X10_takes_46 l x1   z0 0 (σ 233 10)  _ h
  · have h := h.2 q
    refine aw_iconst (pc := 41) 1 dX10_takes_41 (by decide) ?_
    refine aw_goto (pc := 42) 46 dX10_takes_42 (by decide) ?_
    refine aw_sub (L' := [(2, .int z0)]) [0] rfl ?_
    exact bt_X10_takes_46 l x1   z0 1 (σ 233 10)  _ h
def b_X10_takes_30 (x1 : Int32)  (K : Int32 → Sg → Prop)  (σ : Sg) : Prop :=
  b_X10_takes_31 x1  K 0 σ
set_option maxRecDepth 20000 in
set_option maxHeartbeats 2000000 in
theorem bt_X10_takes_30 (l : Launch) (x1 : Int32) {K : Int32 → Sg → Prop}     (σ : Sg) (h : b_X10_takes_30 x1  K  σ) : AV l RX10 cX10_takes 3 (some .boolean) 1 (qI K) 30 [(0, .ref 233)] [] σ := by
  refine aw_iconst (pc := 30) 0 dX10_takes_30 (by decide) ?_
  exact bt_X10_takes_31 l x1   0  _ h
def wp_X10_takes (x1 : Int32) (σ : Sg) (K : Int32 → Sg → Prop) : Prop :=
  br ((σ 233 13) = 0) (b_X10_takes_30 x1  K  σ) (wp_X10_next  σ <| fun r8_ τ8 => (br (r8_ = x1) (br ((τ8 233 9) ≤ (τ8 233 10)) (b_X10_takes_30 x1  K  τ8) (b_X10_takes_31 x1  K 1 τ8)) (b_X10_takes_30 x1  K  τ8)))
set_option maxRecDepth 20000 in
set_option maxHeartbeats 2000000 in
theorem ev_X10_takes (l : Launch) (x1 : Int32) {σ : Sg} {K : Int32 → Sg → Prop} (h : wp_X10_takes x1 σ K) : Ev l yX10_takes cX10_takes 3 (some .boolean) 1 [.ref 233, .int x1] σ (qI K) := by
  refine ev_ov (by decide) (Nat.le_of_ble_eq_true rfl) ?_
  show AV l RX10 cX10_takes 3 (some .boolean) 1 (qI K) 0 [(0, .ref 233), (1, .int x1)] [] σ
  refine aw_aload_n (pc := 0) 0 dX10_takes_0 rfl ?_
  refine aw_getI (pc := 1) 13 kcX10 dX10_takes_1 lfX10_112 nn_233 ki_233 (by decide) rfl ?_
  refine aw_if_eq (pc := 4) 30 dX10_takes_4 (by decide) (fun q => ?_) (fun q => ?_)
  · have h := h.1 q
    refine aw_sub (L' := [(0, .ref 233)]) [0] rfl ?_
    exact bt_X10_takes_30 l x1     _ h
  · have h := h.2 q
    refine aw_aload_n (pc := 7) 0 dX10_takes_7 rfl ?_
    refine aw_callV (pc := 8) (As := []) (rest := []) kcX10 nn_233 ki_233 rfl (ev_X10_next l  h) mfX10_next dX10_takes_8 lmX10_116 ⟨Nat.le_refl _, Nat.le_refl _⟩ (by decide) rfl rfl (Nat.le_of_ble_eq_true rfl) (nxI (fun r8_ τ8 h => ?_))
    refine aw_iload_n (pc := 11) 1 dX10_takes_11 rfl ?_
    refine aw_icmp_ne (pc := 12) 30 dX10_takes_12 (by decide) (fun q => ?_) (fun q => ?_)
    · have h := h.2 q
      refine aw_sub (L' := [(0, .ref 233)]) [0] rfl ?_
      exact bt_X10_takes_30 l x1     _ h
    · have h := h.1 q
      refine aw_aload_n (pc := 15) 0 dX10_takes_15 rfl ?_
      refine aw_getI (pc := 16) 10 kcX10 dX10_takes_16 lfX10_109 nn_233 ki_233 (by decide) rfl ?_
      refine aw_aload_n (pc := 19) 0 dX10_takes_19 rfl ?_
      refine aw_getI (pc := 20) 9 kcX10 dX10_takes_20 lfX10_103 nn_233 ki_233 (by decide) rfl ?_
      refine aw_icmp_ge (pc := 23) 30 dX10_takes_23 (by decide) (fun q => ?_) (fun q => ?_)
      · have h := h.1 q
        refine aw_sub (L' := [(0, .ref 233)]) [0] rfl ?_
        exact bt_X10_takes_30 l x1     _ h
      · have h := h.2 q
        refine aw_iconst (pc := 26) 1 dX10_takes_26 (by decide) ?_
        refine aw_goto (pc := 27) 31 dX10_takes_27 (by decide) ?_
        refine aw_sub (L' := [(0, .ref 233)]) [0] rfl ?_
        exact bt_X10_takes_31 l x1   1  _ h
def b_X10_number_141 (x1 : Int32) (x2 : Int32)  (K : Int32 → Sg → Prop) (y4 : Int32) (σ : Sg) : Prop :=
  br ((σ 233 13) = 0) (K 0 σ) (K y4 σ)
set_option maxRecDepth 20000 in
set_option maxHeartbeats 2000000 in
theorem bt_X10_number_141 (l : Launch) (x1 : Int32) (x2 : Int32) {K : Int32 → Sg → Prop}   (y4 : Int32)  (σ : Sg) (h : b_X10_number_141 x1 x2  K y4 σ) : AV l RX10 cX10_number 5 (some .int) 1 (qI K) 141 [(0, .ref 233), (4, .int y4)] [] σ := by
  refine aw_aload_n (pc := 141) 0 dX10_number_141 rfl ?_
  refine aw_getI (pc := 142) 13 kcX10 dX10_number_142 lfX10_112 nn_233 ki_233 (by decide) rfl ?_
  refine aw_if_eq (pc := 145) 153 dX10_number_145 (by decide) (fun q => ?_) (fun q => ?_)
  · have h := h.1 q
    refine aw_iconst (pc := 153) 0 dX10_number_153 (by decide) ?_
    exact aw_iret (pc := 154) rfl dX10_number_154 ⟨_, rfl, h⟩
  · have h := h.2 q
    refine aw_iload (pc := 148) 1 dX10_number_148 rfl ?_
    refine aw_goto (pc := 150) 154 dX10_number_150 (by decide) ?_
    exact aw_iret (pc := 154) rfl dX10_number_154 ⟨_, rfl, h⟩
def b_X10_number_135 (x1 : Int32) (x2 : Int32)  (K : Int32 → Sg → Prop) (y3 : Int32) (y4 : Int32) (σ : Sg) : Prop :=
  wp_X10_wrong 2 y3 σ <| fun τ138 => (b_X10_number_141 x1 x2  K y4 τ138)
set_option maxRecDepth 20000 in
set_option maxHeartbeats 2000000 in
theorem bt_X10_number_135 (l : Launch) (x1 : Int32) (x2 : Int32) {K : Int32 → Sg → Prop}   (y3 : Int32) (y4 : Int32)  (σ : Sg) (h : b_X10_number_135 x1 x2  K y3 y4 σ) : AV l RX10 cX10_number 5 (some .int) 1 (qI K) 135 [(0, .ref 233), (3, .int y3), (4, .int y4)] [] σ := by
  refine aw_aload_n (pc := 135) 0 dX10_number_135 rfl ?_
  refine aw_iconst (pc := 136) 2 dX10_number_136 (by decide) ?_
  refine aw_iload_n (pc := 137) 1 dX10_number_137 rfl ?_
  refine aw_callV (pc := 138) (As := [.int 2, .int y3]) (rest := []) kcX10 nn_233 ki_233 rfl (ev_X10_wrong l 2 y3 h) mfX10_wrong dX10_number_138 lmX10_141 ⟨Nat.le_refl _, Nat.le_refl _⟩ (by decide) rfl rfl (Nat.le_of_ble_eq_true rfl) (nxV (fun τ138 h => ?_))
  refine aw_sub (L' := [(0, .ref 233), (4, .int y4)]) [0, 2] rfl ?_
  exact bt_X10_number_141 l x1 x2   y4  _ h
def b_X10_number_95 (x1 : Int32) (x2 : Int32)  (K : Int32 → Sg → Prop) (y3 : Int32) (y4 : Int32) (σ : Sg) : Prop :=
  br ((σ 233 10) = y3) (wp_X10_wrong 1 y3 σ <| fun τ106 => (b_X10_number_141 x1 x2  K y4 τ106)) (br (5 < ((σ 233 10) - y3)) (b_X10_number_135 x1 x2  K y3 y4 σ) (wp_X10_within (Int32.toInt64 y4) (Int32.toInt64 x1) (Int32.toInt64 x2) σ <| fun r129_ τ129 => (br (r129_ = 0) (b_X10_number_135 x1 x2  K y3 y4 τ129) (b_X10_number_141 x1 x2  K y4 τ129))))
set_option maxRecDepth 20000 in
set_option maxHeartbeats 2000000 in
theorem bt_X10_number_95 (l : Launch) (x1 : Int32) (x2 : Int32) {K : Int32 → Sg → Prop}   (y3 : Int32) (y4 : Int32)  (σ : Sg) (h : b_X10_number_95 x1 x2  K y3 y4 σ) : AV l RX10 cX10_number 5 (some .int) 1 (qI K) 95 [(0, .ref 233), (1, .int x1), (2, .int x2), (3, .int y3), (4, .int y4)] [] σ := by
  refine aw_aload_n (pc := 95) 0 dX10_number_95 rfl ?_
  refine aw_getI (pc := 96) 10 kcX10 dX10_number_96 lfX10_109 nn_233 ki_233 (by decide) rfl ?_
  refine aw_iload_n (pc := 99) 3 dX10_number_99 rfl ?_
  refine aw_icmp_ne (pc := 100) 112 dX10_number_100 (by decide) (fun q => ?_) (fun q => ?_)
  · have h := h.2 q
    refine aw_aload_n (pc := 112) 0 dX10_number_112 rfl ?_
    refine aw_getI (pc := 113) 10 kcX10 dX10_number_113 lfX10_109 nn_233 ki_233 (by decide) rfl ?_
    refine aw_iload_n (pc := 116) 3 dX10_number_116 rfl ?_
    refine aw_isub (pc := 117) dX10_number_117 ?_
    refine aw_iconst (pc := 118) 5 dX10_number_118 (by decide) ?_
    refine aw_icmp_gt (pc := 119) 135 dX10_number_119 (by decide) (fun q => ?_) (fun q => ?_)
    · have h := h.1 q
      refine aw_sub (L' := [(0, .ref 233), (3, .int y3), (4, .int y4)]) [0, 3, 4] rfl ?_
      exact bt_X10_number_135 l x1 x2   y3 y4  _ h
    · have h := h.2 q
      refine aw_iload (pc := 122) 4 dX10_number_122 rfl ?_
      refine aw_i2l (pc := 124) dX10_number_124 ?_
      refine aw_iload_n (pc := 125) 1 dX10_number_125 rfl ?_
      refine aw_i2l (pc := 126) dX10_number_126 ?_
      refine aw_iload_n (pc := 127) 2 dX10_number_127 rfl ?_
      refine aw_i2l (pc := 128) dX10_number_128 ?_
      refine aw_callS (pc := 129) (As := [.long (Int32.toInt64 y4), .long (Int32.toInt64 x1), .long (Int32.toInt64 x2)]) (rest := []) (ev_X10_within l (Int32.toInt64 y4) (Int32.toInt64 x1) (Int32.toInt64 x2) h) mfX10_within dX10_number_129 lmX10_94 ⟨Nat.le_refl _, Nat.le_refl _⟩ (by decide) rfl rfl (Nat.le_of_ble_eq_true rfl) (nxI (fun r129_ τ129 h => ?_))
      refine aw_if_ne (pc := 132) 141 dX10_number_132 (by decide) (fun q => ?_) (fun q => ?_)
      · have h := h.2 q
        refine aw_sub (L' := [(0, .ref 233), (4, .int y4)]) [0, 4] rfl ?_
        exact bt_X10_number_141 l x1 x2   y4  _ h
      · have h := h.1 q
        refine aw_sub (L' := [(0, .ref 233), (3, .int y3), (4, .int y4)]) [0, 3, 4] rfl ?_
        exact bt_X10_number_135 l x1 x2   y3 y4  _ h
  · have h := h.1 q
    refine aw_aload_n (pc := 103) 0 dX10_number_103 rfl ?_
    refine aw_iconst (pc := 104) 1 dX10_number_104 (by decide) ?_
    refine aw_iload_n (pc := 105) 3 dX10_number_105 rfl ?_
    refine aw_callV (pc := 106) (As := [.int 1, .int y3]) (rest := []) kcX10 nn_233 ki_233 rfl (ev_X10_wrong l 1 y3 h) mfX10_wrong dX10_number_106 lmX10_141 ⟨Nat.le_refl _, Nat.le_refl _⟩ (by decide) rfl rfl (Nat.le_of_ble_eq_true rfl) (nxV (fun τ106 h => ?_))
    refine aw_goto (pc := 109) 141 dX10_number_109 (by decide) ?_
    refine aw_sub (L' := [(0, .ref 233), (4, .int y4)]) [0, 4] rfl ?_
    exact bt_X10_number_141 l x1 x2   y4  _ h
def b_X10_number_80 (x1 : Int32) (x2 : Int32) (B13 : Int32 → Int32 → Sg → Prop) (K : Int32 → Sg → Prop) (y3 : Int32) (z0 : Int32) (σ : Sg) : Prop :=
  ∀ τ89 : Sg, τ89 = up σ 233 10 ((σ 233 10) + 1) → (B13 y3 z0 τ89)
set_option maxRecDepth 20000 in
set_option maxHeartbeats 2000000 in
theorem bt_X10_number_80 (l : Launch) (x1 : Int32) (x2 : Int32) {K : Int32 → Sg → Prop} (B13 : Int32 → Int32 → Sg → Prop) (hB13 : ∀ (y3 : Int32) (y4 : Int32)  (τ : Sg), B13 y3 y4 τ → AV l RX10 cX10_number 5 (some .int) 1 (qI K) 13 [(0, .ref 233), (1, .int x1), (2, .int x2), (3, .int y3), (4, .int y4)] [] τ) (y3 : Int32) (z0 : Int32)  (σ : Sg) (h : b_X10_number_80 x1 x2 B13 K y3 z0 σ) : AV l RX10 cX10_number 5 (some .int) 1 (qI K) 80 [(0, .ref 233), (1, .int x1), (2, .int x2), (3, .int y3)] [.int z0] σ := by
  refine aw_istore (pc := 80) [(4, .int z0), (0, .ref 233), (1, .int x1), (2, .int x2), (3, .int y3)] dX10_number_80 (by decide) rfl ?_
  refine aw_aload_n (pc := 82) 1 dX10_number_82 rfl ?_
  refine aw_dup (pc := 83) dX10_number_83 rfl ?_
  refine aw_getI (pc := 84) 10 kcX10 dX10_number_84 lfX10_109 nn_233 ki_233 (by decide) rfl ?_
  refine aw_iconst (pc := 87) 1 dX10_number_87 (by decide) ?_
  refine aw_iadd (pc := 88) dX10_number_88 ?_
  refine aw_put (pc := 89) 10 kcX10 dX10_number_89 lfX10_109 nn_233 ki_233 (by decide) rfl rfl rfl rfl ?_
  refine aw_tops (fun τ89 eτ89 => ?_)
  have h := h τ89 eτ89
  refine aw_goto (pc := 92) 13 dX10_number_92 (by decide) ?_
  refine aw_sub (L' := [(0, .ref 233), (1, .int x1), (2, .int x2), (3, .int y3), (4, .int z0)]) [1, 2, 3, 4, 0] rfl ?_
  exact hB13 y3 z0  _ h
def b_X10_number_13 (x1 : Int32) (x2 : Int32)  (K : Int32 → Sg → Prop) : Nat → Int32 → Int32 → Sg → Prop
  | 0, _, _, _ => False
  | n + 1, y3, y4, σ =>
  br ((σ 233 9) ≤ (σ 233 10)) (b_X10_number_95 x1 x2  K y3 y4 σ) (vp_in (σ 233 10) 600 ∧ (wp_X10_within (Int32.toInt64 (σ 240 (σ 233 10).toNatClampNeg)) 48 57 σ <| fun r40_ τ40 => (br (r40_ = 0) (b_X10_number_95 x1 x2  K y3 y4 τ40) (br (6 ≤ ((τ40 233 10) - y3)) (b_X10_number_80 x1 x2 (fun y3' y4' τ => b_X10_number_13 x1 x2  K n y3' y4' τ) K y3 y4 τ40) (vp_in (τ40 233 10) 600 ∧ (b_X10_number_80 x1 x2 (fun y3' y4' τ => b_X10_number_13 x1 x2  K n y3' y4' τ) K y3 (((10 * y4) + (τ40 240 (τ40 233 10).toNatClampNeg)) - 48) τ40))))))
set_option maxRecDepth 20000 in
set_option maxHeartbeats 2000000 in
theorem bt_X10_number_13 (l : Launch) (x1 : Int32) (x2 : Int32) {K : Int32 → Sg → Prop}   : ∀ (n : Nat) (y3 : Int32) (y4 : Int32)  (σ : Sg), b_X10_number_13 x1 x2  K n y3 y4 σ → AV l RX10 cX10_number 5 (some .int) 1 (qI K) 13 [(0, .ref 233), (1, .int x1), (2, .int x2), (3, .int y3), (4, .int y4)] [] σ := by
  intro n
  induction n with
  | zero => intro y3 y4 σ h; exact h.elim
  | succ n ih =>
    intro y3 y4 σ h
    refine aw_aload_n (pc := 13) 0 dX10_number_13 rfl ?_
    refine aw_getI (pc := 14) 10 kcX10 dX10_number_14 lfX10_109 nn_233 ki_233 (by decide) rfl ?_
    refine aw_aload_n (pc := 17) 0 dX10_number_17 rfl ?_
    refine aw_getI (pc := 18) 9 kcX10 dX10_number_18 lfX10_103 nn_233 ki_233 (by decide) rfl ?_
    refine aw_icmp_ge (pc := 21) 95 dX10_number_21 (by decide) (fun q => ?_) (fun q => ?_)
    · have h := h.1 q
      exact bt_X10_number_95 l x1 x2   y3 y4  _ h
    · have h := h.2 q
      refine aw_aload_n (pc := 24) 0 dX10_number_24 rfl ?_
      refine aw_getR (pc := 25) 8 kcX10 dX10_number_25 lfX10_29 nn_233 ki_233 (by decide) rfl rf_233_8 ?_
      refine aw_aload_n (pc := 28) 0 dX10_number_28 rfl ?_
      refine aw_getI (pc := 29) 10 kcX10 dX10_number_29 lfX10_109 nn_233 ki_233 (by decide) rfl ?_
      refine aw_bald (pc := 32) (j := (σ 233 10).toNatClampNeg) dX10_number_32 nn_240 ki_240 ln_240 h.1 rfl ?_
      have h := h.2
      refine aw_i2l (pc := 33) dX10_number_33 ?_
      refine aw_ldc2 (pc := 34) 48 dX10_number_34 lclX10_137 ?_
      refine aw_ldc2 (pc := 37) 57 dX10_number_37 lclX10_139 ?_
      refine aw_callS (pc := 40) (As := [.long (Int32.toInt64 (σ 240 (σ 233 10).toNatClampNeg)), .long 48, .long 57]) (rest := []) (ev_X10_within l (Int32.toInt64 (σ 240 (σ 233 10).toNatClampNeg)) 48 57 h) mfX10_within dX10_number_40 lmX10_94 ⟨Nat.le_refl _, Nat.le_refl _⟩ (by decide) rfl rfl (Nat.le_of_ble_eq_true rfl) (nxI (fun r40_ τ40 h => ?_))
      refine aw_if_eq (pc := 43) 95 dX10_number_43 (by decide) (fun q => ?_) (fun q => ?_)
      · have h := h.1 q
        exact bt_X10_number_95 l x1 x2   y3 y4  _ h
      · have h := h.2 q
        refine aw_aload_n (pc := 46) 0 dX10_number_46 rfl ?_
        refine aw_getI (pc := 47) 10 kcX10 dX10_number_47 lfX10_109 nn_233 ki_233 (by decide) rfl ?_
        refine aw_iload_n (pc := 50) 3 dX10_number_50 rfl ?_
        refine aw_isub (pc := 51) dX10_number_51 ?_
        refine aw_bipush (pc := 52) 6 dX10_number_52 (by decide) ?_
        refine aw_icmp_ge (pc := 54) 78 dX10_number_54 (by decide) (fun q => ?_) (fun q => ?_)
        · have h := h.1 q
          refine aw_iload (pc := 78) 4 dX10_number_78 rfl ?_
          refine aw_sub (L' := [(0, .ref 233), (1, .int x1), (2, .int x2), (3, .int y3)]) [0, 1, 2, 3] rfl ?_
          exact bt_X10_number_80 l x1 x2 (fun y3' y4' τ => b_X10_number_13 x1 x2  K n y3' y4' τ) (fun y3' y4' τ h => ih y3' y4' τ h) y3 y4  _ h
        · have h := h.2 q
          refine aw_bipush (pc := 57) 10 dX10_number_57 (by decide) ?_
          refine aw_iload (pc := 59) 4 dX10_number_59 rfl ?_
          refine aw_imul (pc := 61) dX10_number_61 ?_
          refine aw_aload_n (pc := 62) 0 dX10_number_62 rfl ?_
          refine aw_getR (pc := 63) 8 kcX10 dX10_number_63 lfX10_29 nn_233 ki_233 (by decide) rfl rf_233_8 ?_
          refine aw_aload_n (pc := 66) 0 dX10_number_66 rfl ?_
          refine aw_getI (pc := 67) 10 kcX10 dX10_number_67 lfX10_109 nn_233 ki_233 (by decide) rfl ?_
          refine aw_bald (pc := 70) (j := (τ40 233 10).toNatClampNeg) dX10_number_70 nn_240 ki_240 ln_240 h.1 rfl ?_
          have h := h.2
          refine aw_iadd (pc := 71) dX10_number_71 ?_
          refine aw_bipush (pc := 72) 48 dX10_number_72 (by decide) ?_
          refine aw_isub (pc := 74) dX10_number_74 ?_
          refine aw_goto (pc := 75) 80 dX10_number_75 (by decide) ?_
          refine aw_sub (L' := [(0, .ref 233), (1, .int x1), (2, .int x2), (3, .int y3)]) [0, 1, 2, 3] rfl ?_
          exact bt_X10_number_80 l x1 x2 (fun y3' y4' τ => b_X10_number_13 x1 x2  K n y3' y4' τ) (fun y3' y4' τ h => ih y3' y4' τ h) y3 (((10 * y4) + (τ40 240 (τ40 233 10).toNatClampNeg)) - 48)  _ h
def wp_X10_number (x1 : Int32) (x2 : Int32) (σ : Sg) (K : Int32 → Sg → Prop) : Prop :=
  wp_X10_next  σ <| fun r1_ τ1 => (∀ v9 : Int32, v9 = τ1 233 10 → (∃ nf, b_X10_number_13 x1 x2  K nf v9 0 τ1))
set_option maxRecDepth 20000 in
set_option maxHeartbeats 2000000 in
theorem ev_X10_number (l : Launch) (x1 : Int32) (x2 : Int32) {σ : Sg} {K : Int32 → Sg → Prop} (h : wp_X10_number x1 x2 σ K) : Ev l yX10_number cX10_number 5 (some .int) 1 [.ref 233, .int x1, .int x2] σ (qI K) := by
  refine ev_ov (by decide) (Nat.le_of_ble_eq_true rfl) ?_
  show AV l RX10 cX10_number 5 (some .int) 1 (qI K) 0 [(0, .ref 233), (1, .int x1), (2, .int x2)] [] σ
  refine aw_aload_n (pc := 0) 0 dX10_number_0 rfl ?_
  refine aw_callV (pc := 1) (As := []) (rest := []) kcX10 nn_233 ki_233 rfl (ev_X10_next l  h) mfX10_next dX10_number_1 lmX10_116 ⟨Nat.le_refl _, Nat.le_refl _⟩ (by decide) rfl rfl (Nat.le_of_ble_eq_true rfl) (nxI (fun r1_ τ1 h => ?_))
  refine aw_pop (pc := 4) dX10_number_4 rfl ?_
  refine aw_aload_n (pc := 5) 0 dX10_number_5 rfl ?_
  refine aw_getI (pc := 6) 10 kcX10 dX10_number_6 lfX10_109 nn_233 ki_233 (by decide) rfl ?_
  refine aw_topi (fun v9 ev9 => ?_)
  have h := h v9 ev9
  refine aw_istore_n (pc := 9) (i := 3) [(3, .int v9), (0, .ref 233), (1, .int x1), (2, .int x2)] dX10_number_9 rfl (by decide) rfl ?_
  refine aw_iconst (pc := 10) 0 dX10_number_10 (by decide) ?_
  refine aw_istore (pc := 11) [(4, .int 0), (3, .int v9), (0, .ref 233), (1, .int x1), (2, .int x2)] dX10_number_11 (by decide) rfl ?_
  refine aw_sub (L' := [(0, .ref 233), (1, .int x1), (2, .int x2), (3, .int v9), (4, .int 0)]) [2, 3, 4, 1, 0] rfl ?_
  obtain ⟨nf, h⟩ := h
  exact bt_X10_number_13 l x1 x2   nf v9 0  _ h
def wp_X10_readClub  (σ : Sg) (K : Sg → Prop) : Prop :=
  ∀ v6 : Int32, v6 = σ 235 0 → (br (v6 = 12) (wp_X10_wrong 3 ((σ 233 10) - 4) σ <| fun τ21 => (K τ21)) (wp_X10_number 0 9999 σ <| fun r39_ τ39 => (vp_in (2 + (3 * v6)) 106 ∧ (∀ τ42 : Sg, τ42 = up τ39 235 (2 + (3 * v6)).toNatClampNeg r39_ → (wp_X10_number 0 9999 τ42 <| fun r59_ τ59 => (vp_in ((2 + (3 * v6)) + 1) 106 ∧ (∀ τ62 : Sg, τ62 = up τ59 235 ((2 + (3 * v6)) + 1).toNatClampNeg r59_ → (wp_X10_number 0 99999 τ62 <| fun r78_ τ78 => (vp_in ((2 + (3 * v6)) + 2) 106 ∧ (∀ τ81 : Sg, τ81 = up τ78 235 ((2 + (3 * v6)) + 2).toNatClampNeg r78_ → (∀ τ91 : Sg, τ91 = up τ81 235 0 ((τ81 235 0) + 1) → (K τ91))))))))))))
set_option maxRecDepth 20000 in
set_option maxHeartbeats 2000000 in
theorem ev_X10_readClub (l : Launch)  {σ : Sg} {K : Sg → Prop} (h : wp_X10_readClub  σ K) : Ev l yX10_readClub cX10_readClub 2 none 2 [.ref 233] σ (qV K) := by
  refine ev_ov (by decide) (Nat.le_of_ble_eq_true rfl) ?_
  show AV l RX10 cX10_readClub 2 none 2 (qV K) 0 [(0, .ref 233)] [] σ
  refine aw_aload_n (pc := 0) 0 dX10_readClub_0 rfl ?_
  refine aw_getR (pc := 1) 2 kcX10 dX10_readClub_1 lfX10_13 nn_233 ki_233 (by decide) rfl rf_233_2 ?_
  refine aw_iconst (pc := 4) 0 dX10_readClub_4 (by decide) ?_
  refine aw_iald (pc := 5) (j := 0) dX10_readClub_5 nn_235 ki_235 ln_235 (show vp_in _ _ by unfold vp_in; decide) (by decide) ?_
  refine aw_topi (fun v6 ev6 => ?_)
  have h := h v6 ev6
  refine aw_istore_n (pc := 6) (i := 1) [(1, .int v6), (0, .ref 233)] dX10_readClub_6 rfl (by decide) rfl ?_
  refine aw_iload_n (pc := 7) 0 dX10_readClub_7 rfl ?_
  refine aw_bipush (pc := 8) 12 dX10_readClub_8 (by decide) ?_
  refine aw_icmp_ne (pc := 10) 25 dX10_readClub_10 (by decide) (fun q => ?_) (fun q => ?_)
  · have h := h.2 q
    refine aw_aload_n (pc := 25) 1 dX10_readClub_25 rfl ?_
    refine aw_getR (pc := 26) 2 kcX10 dX10_readClub_26 lfX10_13 nn_233 ki_233 (by decide) rfl rf_233_2 ?_
    refine aw_iconst (pc := 29) 2 dX10_readClub_29 (by decide) ?_
    refine aw_iconst (pc := 30) 3 dX10_readClub_30 (by decide) ?_
    refine aw_iload_n (pc := 31) 0 dX10_readClub_31 rfl ?_
    refine aw_imul (pc := 32) dX10_readClub_32 ?_
    refine aw_iadd (pc := 33) dX10_readClub_33 ?_
    refine aw_aload_n (pc := 34) 1 dX10_readClub_34 rfl ?_
    refine aw_iconst (pc := 35) 0 dX10_readClub_35 (by decide) ?_
    refine aw_sipush (pc := 36) 9999 dX10_readClub_36 (by decide) ?_
    refine aw_callV (pc := 39) (As := [.int 0, .int 9999]) (rest := [.int (2 + (3 * v6)), .ref 235]) kcX10 nn_233 ki_233 rfl (ev_X10_number l 0 9999 h) mfX10_number dX10_readClub_39 lmX10_145 ⟨Nat.le_refl _, Nat.le_refl _⟩ (by decide) rfl rfl (Nat.le_of_ble_eq_true rfl) (nxI (fun r39_ τ39 h => ?_))
    refine aw_iast (pc := 42) (j := (2 + (3 * v6)).toNatClampNeg) (v := r39_) dX10_readClub_42 nn_235 ki_235 ln_235 h.1 rfl rfl ?_
    have h := h.2
    refine aw_tops (fun τ42 eτ42 => ?_)
    have h := h τ42 eτ42
    refine aw_aload_n (pc := 43) 1 dX10_readClub_43 rfl ?_
    refine aw_getR (pc := 44) 2 kcX10 dX10_readClub_44 lfX10_13 nn_233 ki_233 (by decide) rfl rf_233_2 ?_
    refine aw_iconst (pc := 47) 2 dX10_readClub_47 (by decide) ?_
    refine aw_iconst (pc := 48) 3 dX10_readClub_48 (by decide) ?_
    refine aw_iload_n (pc := 49) 0 dX10_readClub_49 rfl ?_
    refine aw_imul (pc := 50) dX10_readClub_50 ?_
    refine aw_iadd (pc := 51) dX10_readClub_51 ?_
    refine aw_iconst (pc := 52) 1 dX10_readClub_52 (by decide) ?_
    refine aw_iadd (pc := 53) dX10_readClub_53 ?_
    refine aw_aload_n (pc := 54) 1 dX10_readClub_54 rfl ?_
    refine aw_iconst (pc := 55) 0 dX10_readClub_55 (by decide) ?_
    refine aw_sipush (pc := 56) 9999 dX10_readClub_56 (by decide) ?_
    refine aw_callV (pc := 59) (As := [.int 0, .int 9999]) (rest := [.int ((2 + (3 * v6)) + 1), .ref 235]) kcX10 nn_233 ki_233 rfl (ev_X10_number l 0 9999 h) mfX10_number dX10_readClub_59 lmX10_145 ⟨Nat.le_refl _, Nat.le_refl _⟩ (by decide) rfl rfl (Nat.le_of_ble_eq_true rfl) (nxI (fun r59_ τ59 h => ?_))
    refine aw_iast (pc := 62) (j := ((2 + (3 * v6)) + 1).toNatClampNeg) (v := r59_) dX10_readClub_62 nn_235 ki_235 ln_235 h.1 rfl rfl ?_
    have h := h.2
    refine aw_tops (fun τ62 eτ62 => ?_)
    have h := h τ62 eτ62
    refine aw_aload_n (pc := 63) 1 dX10_readClub_63 rfl ?_
    refine aw_getR (pc := 64) 2 kcX10 dX10_readClub_64 lfX10_13 nn_233 ki_233 (by decide) rfl rf_233_2 ?_
    refine aw_iconst (pc := 67) 2 dX10_readClub_67 (by decide) ?_
    refine aw_iconst (pc := 68) 3 dX10_readClub_68 (by decide) ?_
    refine aw_iload_n (pc := 69) 0 dX10_readClub_69 rfl ?_
    refine aw_imul (pc := 70) dX10_readClub_70 ?_
    refine aw_iadd (pc := 71) dX10_readClub_71 ?_
    refine aw_iconst (pc := 72) 2 dX10_readClub_72 (by decide) ?_
    refine aw_iadd (pc := 73) dX10_readClub_73 ?_
    refine aw_aload_n (pc := 74) 1 dX10_readClub_74 rfl ?_
    refine aw_iconst (pc := 75) 0 dX10_readClub_75 (by decide) ?_
    refine aw_ldc (pc := 76) 99999 dX10_readClub_76 lcX10_149 ?_
    refine aw_callV (pc := 78) (As := [.int 0, .int 99999]) (rest := [.int ((2 + (3 * v6)) + 2), .ref 235]) kcX10 nn_233 ki_233 rfl (ev_X10_number l 0 99999 h) mfX10_number dX10_readClub_78 lmX10_145 ⟨Nat.le_refl _, Nat.le_refl _⟩ (by decide) rfl rfl (Nat.le_of_ble_eq_true rfl) (nxI (fun r78_ τ78 h => ?_))
    refine aw_iast (pc := 81) (j := ((2 + (3 * v6)) + 2).toNatClampNeg) (v := r78_) dX10_readClub_81 nn_235 ki_235 ln_235 h.1 rfl rfl ?_
    have h := h.2
    refine aw_tops (fun τ81 eτ81 => ?_)
    have h := h τ81 eτ81
    refine aw_aload_n (pc := 82) 1 dX10_readClub_82 rfl ?_
    refine aw_getR (pc := 83) 2 kcX10 dX10_readClub_83 lfX10_13 nn_233 ki_233 (by decide) rfl rf_233_2 ?_
    refine aw_iconst (pc := 86) 0 dX10_readClub_86 (by decide) ?_
    refine aw_dup2 (pc := 87) dX10_readClub_87 rfl rfl ?_
    refine aw_iald (pc := 88) (j := 0) dX10_readClub_88 nn_235 ki_235 ln_235 (show vp_in _ _ by unfold vp_in; decide) (by decide) ?_
    refine aw_iconst (pc := 89) 1 dX10_readClub_89 (by decide) ?_
    refine aw_iadd (pc := 90) dX10_readClub_90 ?_
    refine aw_iast (pc := 91) (j := 0) (v := ((τ81 235 0) + 1)) dX10_readClub_91 nn_235 ki_235 ln_235 (show vp_in _ _ by unfold vp_in; decide) (by decide) rfl ?_
    refine aw_tops (fun τ91 eτ91 => ?_)
    have h := h τ91 eτ91
    exact aw_vret (pc := 92) rfl dX10_readClub_92 ⟨rfl, h⟩
  · have h := h.1 q
    refine aw_aload_n (pc := 13) 1 dX10_readClub_13 rfl ?_
    refine aw_iconst (pc := 14) 3 dX10_readClub_14 (by decide) ?_
    refine aw_aload_n (pc := 15) 1 dX10_readClub_15 rfl ?_
    refine aw_getI (pc := 16) 10 kcX10 dX10_readClub_16 lfX10_109 nn_233 ki_233 (by decide) rfl ?_
    refine aw_iconst (pc := 19) 4 dX10_readClub_19 (by decide) ?_
    refine aw_isub (pc := 20) dX10_readClub_20 ?_
    refine aw_callV (pc := 21) (As := [.int 3, .int ((σ 233 10) - 4)]) (rest := []) kcX10 nn_233 ki_233 rfl (ev_X10_wrong l 3 ((σ 233 10) - 4) h) mfX10_wrong dX10_readClub_21 lmX10_141 ⟨Nat.le_refl _, Nat.le_refl _⟩ (by decide) rfl rfl (Nat.le_of_ble_eq_true rfl) (nxV (fun τ21 h => ?_))
    exact aw_vret (pc := 24) rfl dX10_readClub_24 ⟨rfl, h⟩
def wp_X10_readParts (x1 : Int32) (σ : Sg) (K : Sg → Prop) : Prop :=
  wp_X10_number 0 100 σ <| fun r9_ τ9 => (vp_in x1 106 ∧ (∀ τ12 : Sg, τ12 = up τ9 235 x1.toNatClampNeg r9_ → (wp_X10_number 0 100 τ12 <| fun r24_ τ24 => (vp_in (x1 + 1) 106 ∧ (∀ τ27 : Sg, τ27 = up τ24 235 (x1 + 1).toNatClampNeg r24_ → (wp_X10_next  τ27 <| fun r29_ τ29 => (∀ v37 : Int32, v37 = τ29 233 10 → (wp_X10_number 0 100 τ29 <| fun r49_ τ49 => (vp_in (x1 + 2) 106 ∧ (∀ τ52 : Sg, τ52 = up τ49 235 (x1 + 2).toNatClampNeg r49_ → (br ((τ52 233 13) = 0) (K τ52) (vp_in x1 106 ∧ (vp_in (x1 + 1) 106 ∧ (vp_in (x1 + 2) 106 ∧ (br ((((τ52 235 x1.toNatClampNeg) + (τ52 235 (x1 + 1).toNatClampNeg)) + (τ52 235 (x1 + 2).toNatClampNeg)) = 100) (K τ52) (wp_X10_wrong 2 v37 τ52 <| fun τ92 => (K τ92)))))))))))))))))
set_option maxRecDepth 20000 in
set_option maxHeartbeats 2000000 in
theorem ev_X10_readParts (l : Launch) (x1 : Int32) {σ : Sg} {K : Sg → Prop} (h : wp_X10_readParts x1 σ K) : Ev l yX10_readParts cX10_readParts 3 none 2 [.ref 233, .int x1] σ (qV K) := by
  refine ev_ov (by decide) (Nat.le_of_ble_eq_true rfl) ?_
  show AV l RX10 cX10_readParts 3 none 2 (qV K) 0 [(0, .ref 233), (1, .int x1)] [] σ
  refine aw_aload_n (pc := 0) 0 dX10_readParts_0 rfl ?_
  refine aw_getR (pc := 1) 2 kcX10 dX10_readParts_1 lfX10_13 nn_233 ki_233 (by decide) rfl rf_233_2 ?_
  refine aw_iload_n (pc := 4) 1 dX10_readParts_4 rfl ?_
  refine aw_aload_n (pc := 5) 0 dX10_readParts_5 rfl ?_
  refine aw_iconst (pc := 6) 0 dX10_readParts_6 (by decide) ?_
  refine aw_bipush (pc := 7) 100 dX10_readParts_7 (by decide) ?_
  refine aw_callV (pc := 9) (As := [.int 0, .int 100]) (rest := [.int x1, .ref 235]) kcX10 nn_233 ki_233 rfl (ev_X10_number l 0 100 h) mfX10_number dX10_readParts_9 lmX10_145 ⟨Nat.le_refl _, Nat.le_refl _⟩ (by decide) rfl rfl (Nat.le_of_ble_eq_true rfl) (nxI (fun r9_ τ9 h => ?_))
  refine aw_iast (pc := 12) (j := x1.toNatClampNeg) (v := r9_) dX10_readParts_12 nn_235 ki_235 ln_235 h.1 rfl rfl ?_
  have h := h.2
  refine aw_tops (fun τ12 eτ12 => ?_)
  have h := h τ12 eτ12
  refine aw_aload_n (pc := 13) 0 dX10_readParts_13 rfl ?_
  refine aw_getR (pc := 14) 2 kcX10 dX10_readParts_14 lfX10_13 nn_233 ki_233 (by decide) rfl rf_233_2 ?_
  refine aw_iload_n (pc := 17) 1 dX10_readParts_17 rfl ?_
  refine aw_iconst (pc := 18) 1 dX10_readParts_18 (by decide) ?_
  refine aw_iadd (pc := 19) dX10_readParts_19 ?_
  refine aw_aload_n (pc := 20) 0 dX10_readParts_20 rfl ?_
  refine aw_iconst (pc := 21) 0 dX10_readParts_21 (by decide) ?_
  refine aw_bipush (pc := 22) 100 dX10_readParts_22 (by decide) ?_
  refine aw_callV (pc := 24) (As := [.int 0, .int 100]) (rest := [.int (x1 + 1), .ref 235]) kcX10 nn_233 ki_233 rfl (ev_X10_number l 0 100 h) mfX10_number dX10_readParts_24 lmX10_145 ⟨Nat.le_refl _, Nat.le_refl _⟩ (by decide) rfl rfl (Nat.le_of_ble_eq_true rfl) (nxI (fun r24_ τ24 h => ?_))
  refine aw_iast (pc := 27) (j := (x1 + 1).toNatClampNeg) (v := r24_) dX10_readParts_27 nn_235 ki_235 ln_235 h.1 rfl rfl ?_
  have h := h.2
  refine aw_tops (fun τ27 eτ27 => ?_)
  have h := h τ27 eτ27
  refine aw_aload_n (pc := 28) 0 dX10_readParts_28 rfl ?_
  refine aw_callV (pc := 29) (As := []) (rest := []) kcX10 nn_233 ki_233 rfl (ev_X10_next l  h) mfX10_next dX10_readParts_29 lmX10_116 ⟨Nat.le_refl _, Nat.le_refl _⟩ (by decide) rfl rfl (Nat.le_of_ble_eq_true rfl) (nxI (fun r29_ τ29 h => ?_))
  refine aw_pop (pc := 32) dX10_readParts_32 rfl ?_
  refine aw_aload_n (pc := 33) 0 dX10_readParts_33 rfl ?_
  refine aw_getI (pc := 34) 10 kcX10 dX10_readParts_34 lfX10_109 nn_233 ki_233 (by decide) rfl ?_
  refine aw_topi (fun v37 ev37 => ?_)
  have h := h v37 ev37
  refine aw_istore_n (pc := 37) (i := 2) [(2, .int v37), (0, .ref 233), (1, .int x1)] dX10_readParts_37 rfl (by decide) rfl ?_
  refine aw_aload_n (pc := 38) 1 dX10_readParts_38 rfl ?_
  refine aw_getR (pc := 39) 2 kcX10 dX10_readParts_39 lfX10_13 nn_233 ki_233 (by decide) rfl rf_233_2 ?_
  refine aw_iload_n (pc := 42) 2 dX10_readParts_42 rfl ?_
  refine aw_iconst (pc := 43) 2 dX10_readParts_43 (by decide) ?_
  refine aw_iadd (pc := 44) dX10_readParts_44 ?_
  refine aw_aload_n (pc := 45) 1 dX10_readParts_45 rfl ?_
  refine aw_iconst (pc := 46) 0 dX10_readParts_46 (by decide) ?_
  refine aw_bipush (pc := 47) 100 dX10_readParts_47 (by decide) ?_
  refine aw_callV (pc := 49) (As := [.int 0, .int 100]) (rest := [.int (x1 + 2), .ref 235]) kcX10 nn_233 ki_233 rfl (ev_X10_number l 0 100 h) mfX10_number dX10_readParts_49 lmX10_145 ⟨Nat.le_refl _, Nat.le_refl _⟩ (by decide) rfl rfl (Nat.le_of_ble_eq_true rfl) (nxI (fun r49_ τ49 h => ?_))
  refine aw_iast (pc := 52) (j := (x1 + 2).toNatClampNeg) (v := r49_) dX10_readParts_52 nn_235 ki_235 ln_235 h.1 rfl rfl ?_
  have h := h.2
  refine aw_tops (fun τ52 eτ52 => ?_)
  have h := h τ52 eτ52
  refine aw_aload_n (pc := 53) 1 dX10_readParts_53 rfl ?_
  refine aw_getI (pc := 54) 13 kcX10 dX10_readParts_54 lfX10_112 nn_233 ki_233 (by decide) rfl ?_
  refine aw_if_eq (pc := 57) 95 dX10_readParts_57 (by decide) (fun q => ?_) (fun q => ?_)
  · have h := h.1 q
    exact aw_vret (pc := 95) rfl dX10_readParts_95 ⟨rfl, h⟩
  · have h := h.2 q
    refine aw_aload_n (pc := 60) 1 dX10_readParts_60 rfl ?_
    refine aw_getR (pc := 61) 2 kcX10 dX10_readParts_61 lfX10_13 nn_233 ki_233 (by decide) rfl rf_233_2 ?_
    refine aw_iload_n (pc := 64) 2 dX10_readParts_64 rfl ?_
    refine aw_iald (pc := 65) (j := x1.toNatClampNeg) dX10_readParts_65 nn_235 ki_235 ln_235 h.1 rfl ?_
    have h := h.2
    refine aw_aload_n (pc := 66) 1 dX10_readParts_66 rfl ?_
    refine aw_getR (pc := 67) 2 kcX10 dX10_readParts_67 lfX10_13 nn_233 ki_233 (by decide) rfl rf_233_2 ?_
    refine aw_iload_n (pc := 70) 2 dX10_readParts_70 rfl ?_
    refine aw_iconst (pc := 71) 1 dX10_readParts_71 (by decide) ?_
    refine aw_iadd (pc := 72) dX10_readParts_72 ?_
    refine aw_iald (pc := 73) (j := (x1 + 1).toNatClampNeg) dX10_readParts_73 nn_235 ki_235 ln_235 h.1 rfl ?_
    have h := h.2
    refine aw_iadd (pc := 74) dX10_readParts_74 ?_
    refine aw_aload_n (pc := 75) 1 dX10_readParts_75 rfl ?_
    refine aw_getR (pc := 76) 2 kcX10 dX10_readParts_76 lfX10_13 nn_233 ki_233 (by decide) rfl rf_233_2 ?_
    refine aw_iload_n (pc := 79) 2 dX10_readParts_79 rfl ?_
    refine aw_iconst (pc := 80) 2 dX10_readParts_80 (by decide) ?_
    refine aw_iadd (pc := 81) dX10_readParts_81 ?_
    refine aw_iald (pc := 82) (j := (x1 + 2).toNatClampNeg) dX10_readParts_82 nn_235 ki_235 ln_235 h.1 rfl ?_
    have h := h.2
    refine aw_iadd (pc := 83) dX10_readParts_83 ?_
    refine aw_bipush (pc := 84) 100 dX10_readParts_84 (by decide) ?_
    refine aw_icmp_eq (pc := 86) 95 dX10_readParts_86 (by decide) (fun q => ?_) (fun q => ?_)
    · have h := h.1 q
      exact aw_vret (pc := 95) rfl dX10_readParts_95 ⟨rfl, h⟩
    · have h := h.2 q
      refine aw_aload_n (pc := 89) 1 dX10_readParts_89 rfl ?_
      refine aw_iconst (pc := 90) 2 dX10_readParts_90 (by decide) ?_
      refine aw_iload_n (pc := 91) 0 dX10_readParts_91 rfl ?_
      refine aw_callV (pc := 92) (As := [.int 2, .int v37]) (rest := []) kcX10 nn_233 ki_233 rfl (ev_X10_wrong l 2 v37 h) mfX10_wrong dX10_readParts_92 lmX10_141 ⟨Nat.le_refl _, Nat.le_refl _⟩ (by decide) rfl rfl (Nat.le_of_ble_eq_true rfl) (nxV (fun τ92 h => ?_))
      exact aw_vret (pc := 95) rfl dX10_readParts_95 ⟨rfl, h⟩
