def wp_X9_sign (x1 : Int32) (σ : Sg) (K : Int32 → Sg → Prop) : Prop :=
  wp_X4_append x1 σ <| fun r5_ τ5 => (br (r5_ = 0) (K (-1) τ5) (K (τ5 1 1) τ5))
set_option maxRecDepth 20000 in
set_option maxHeartbeats 2000000 in
theorem ev_X9_sign (l : Launch) (x1 : Int32) {σ : Sg} {K : Int32 → Sg → Prop} (h : wp_X9_sign x1 σ K) : Ev l yX9_sign cX9_sign 2 (some .int) 1 [.ref 0, .int x1] σ (qI K) := by
  refine ev_ov (by decide) (Nat.le_of_ble_eq_true rfl) ?_
  show AV l RX9 cX9_sign 2 (some .int) 1 (qI K) 0 [(0, .ref 0), (1, .int x1)] [] σ
  refine aw_aload_n (pc := 0) 0 dX9_sign_0 rfl ?_
  refine aw_getR (pc := 1) 0 kcX9 dX9_sign_1 lfX9_12 nn_0 ki_0 (by decide) rfl rf_0_0 ?_
  refine aw_iload_n (pc := 4) 1 dX9_sign_4 rfl ?_
  refine aw_callVN (pc := 5) (As := [.int x1]) (rest := []) kcX4 nn_1 ki_1 rfl (ev_X4_append l x1 h) mfX4_append dX9_sign_5 lmnX9_84 ⟨Nat.le_refl _, Nat.le_refl _⟩ (by decide) rfl rfl (Nat.le_of_ble_eq_true rfl) (nxI (fun r5_ τ5 h => ?_))
  refine aw_if_eq (pc := 8) 21 dX9_sign_8 (by decide) (fun q => ?_) (fun q => ?_)
  · have h := h.1 q
    refine aw_iconst (pc := 21) (-1) dX9_sign_21 (by decide) ?_
    exact aw_iret (pc := 22) rfl dX9_sign_22 ⟨_, rfl, h⟩
  · have h := h.2 q
    refine aw_aload_n (pc := 11) 0 dX9_sign_11 rfl ?_
    refine aw_getR (pc := 12) 0 kcX9 dX9_sign_12 lfX9_12 nn_0 ki_0 (by decide) rfl rf_0_0 ?_
    refine aw_getIN (pc := 15) 1 kcX4 dX9_sign_15 lfnX9_88 nn_1 ki_1 (by decide) rfl ?_
    refine aw_goto (pc := 18) 22 dX9_sign_18 (by decide) ?_
    exact aw_iret (pc := 22) rfl dX9_sign_22 ⟨_, rfl, h⟩
def wp_X9_end (x1 : Int32) (σ : Sg) (K : Int32 → Sg → Prop) : Prop :=
  br (x1 < 0) (K 0 σ) (br (x1 ≤ (σ 1 1)) (∀ τ22 : Sg, τ22 = up σ 1 1 x1 → (K 1 τ22)) (K 0 σ))
set_option maxRecDepth 20000 in
set_option maxHeartbeats 2000000 in
theorem ev_X9_end (l : Launch) (x1 : Int32) {σ : Sg} {K : Int32 → Sg → Prop} (h : wp_X9_end x1 σ K) : Ev l yX9_end cX9_end 2 (some .boolean) 0 [.ref 0, .int x1] σ (qI K) := by
  refine ev_ov (by decide) (Nat.le_of_ble_eq_true rfl) ?_
  show AV l RX9 cX9_end 2 (some .boolean) 0 (qI K) 0 [(0, .ref 0), (1, .int x1)] [] σ
  refine aw_iload_n (pc := 0) 1 dX9_end_0 rfl ?_
  refine aw_if_lt (pc := 1) 15 dX9_end_1 (by decide) (fun q => ?_) (fun q => ?_)
  · have h := h.1 q
    refine aw_iconst (pc := 15) 0 dX9_end_15 (by decide) ?_
    exact aw_zret (pc := 16) rfl rfl dX9_end_16 ⟨_, rfl, h⟩
  · have h := h.2 q
    refine aw_iload_n (pc := 4) 1 dX9_end_4 rfl ?_
    refine aw_aload_n (pc := 5) 0 dX9_end_5 rfl ?_
    refine aw_getR (pc := 6) 0 kcX9 dX9_end_6 lfX9_12 nn_0 ki_0 (by decide) rfl rf_0_0 ?_
    refine aw_getIN (pc := 9) 1 kcX4 dX9_end_9 lfnX9_88 nn_1 ki_1 (by decide) rfl ?_
    refine aw_icmp_le (pc := 12) 17 dX9_end_12 (by decide) (fun q => ?_) (fun q => ?_)
    · have h := h.1 q
      refine aw_aload_n (pc := 17) 0 dX9_end_17 rfl ?_
      refine aw_getR (pc := 18) 0 kcX9 dX9_end_18 lfX9_12 nn_0 ki_0 (by decide) rfl rf_0_0 ?_
      refine aw_iload_n (pc := 21) 1 dX9_end_21 rfl ?_
      refine aw_putN (pc := 22) 1 kcX4 dX9_end_22 lfnX9_88 nn_1 ki_1 (by decide) rfl rfl rfl rfl ?_
      refine aw_tops (fun τ22 eτ22 => ?_)
      have h := h τ22 eτ22
      refine aw_iconst (pc := 25) 1 dX9_end_25 (by decide) ?_
      exact aw_zret (pc := 26) rfl rfl dX9_end_26 ⟨_, rfl, h⟩
    · have h := h.2 q
      refine aw_iconst (pc := 15) 0 dX9_end_15 (by decide) ?_
      exact aw_zret (pc := 16) rfl rfl dX9_end_16 ⟨_, rfl, h⟩
def b_X9_book_52   (K : Int32 → Sg → Prop) : Nat → Int32 → Sg → Prop
  | 0, _, _ => False
  | n + 1, y2, σ =>
  br (2 ≤ y2) (∀ τ75 : Sg, τ75 = up σ 180 6 0 → (K (τ75 27 3) τ75)) (vp_in y2 2 ∧ (∀ τ63 : Sg, τ63 = up σ 178 y2.toNatClampNeg 0 → (∀ v64 : Int32, v64 = y2 + 1 → (b_X9_book_52   K n v64 τ63))))
set_option maxRecDepth 20000 in
set_option maxHeartbeats 2000000 in
theorem bt_X9_book_52 (l : Launch)  {K : Int32 → Sg → Prop}   : ∀ (n : Nat) (y2 : Int32)  (σ : Sg), b_X9_book_52   K n y2 σ → AV l RX9 cX9_book 3 (some .int) 11 (qI K) 52 [(0, .ref 0), (2, .int y2)] [] σ := by
  intro n
  induction n with
  | zero => intro y2 σ h; exact h.elim
  | succ n ih =>
    intro y2 σ h
    refine aw_iload_n (pc := 52) 1 dX9_book_52 rfl ?_
    refine aw_iconst (pc := 53) 2 dX9_book_53 (by decide) ?_
    refine aw_icmp_ge (pc := 54) 70 dX9_book_54 (by decide) (fun q => ?_) (fun q => ?_)
    · have h := h.1 q
      refine aw_aload_n (pc := 70) 0 dX9_book_70 rfl ?_
      refine aw_getR (pc := 71) 9 kcX9 dX9_book_71 lfX9_73 nn_0 ki_0 (by decide) rfl rf_0_9 ?_
      refine aw_iconst (pc := 74) 0 dX9_book_74 (by decide) ?_
      refine aw_putN (pc := 75) 6 kcX3 dX9_book_75 lfnX9_107 nn_180 ki_180 (by decide) rfl rfl rfl rfl ?_
      refine aw_tops (fun τ75 eτ75 => ?_)
      have h := h τ75 eτ75
      refine aw_aload_n (pc := 78) 0 dX9_book_78 rfl ?_
      refine aw_getR (pc := 79) 2 kcX9 dX9_book_79 lfX9_30 nn_0 ki_0 (by decide) rfl rf_0_2 ?_
      refine aw_getIN (pc := 82) 3 kcX0 dX9_book_82 lfnX9_111 nn_27 ki_27 (by decide) rfl ?_
      exact aw_iret (pc := 85) rfl dX9_book_85 ⟨_, rfl, h⟩
    · have h := h.2 q
      refine aw_aload_n (pc := 57) 0 dX9_book_57 rfl ?_
      refine aw_getR (pc := 58) 7 kcX9 dX9_book_58 lfX9_59 nn_0 ki_0 (by decide) rfl rf_0_7 ?_
      refine aw_iload_n (pc := 61) 1 dX9_book_61 rfl ?_
      refine aw_iconst (pc := 62) 0 dX9_book_62 (by decide) ?_
      refine aw_zast (pc := 63) (j := y2.toNatClampNeg) (v := 0) dX9_book_63 nn_178 ki_178 ln_178 h.1 rfl rfl ?_
      have h := h.2
      refine aw_tops (fun τ63 eτ63 => ?_)
      have h := h τ63 eτ63
      obtain ⟨v64, ev64⟩ : ∃ v : Int32, v = y2 + 1 := ⟨_, rfl⟩
      have h := h v64 ev64
      refine aw_iinc (pc := 64) 1 v64 [(2, .int v64), (0, .ref 0)] dX9_book_64 rfl (by rw [ev64]; rfl) (by decide) rfl ?_
      refine aw_goto (pc := 67) 52 dX9_book_67 (by decide) ?_
      refine aw_sub (L' := [(0, .ref 0), (2, .int v64)]) [1, 0] rfl ?_
      exact ih v64  _ h
def wp_X9_book  (σ : Sg) (K : Int32 → Sg → Prop) : Prop :=
  wp_X0_readBook  σ <| fun r4_ τ4 => (∀ τ13 : Sg, τ13 = up τ4 1 1 0 → (br (r4_ = 0) (K (-1) τ13) (wp_X5_copyFrom 3 28 τ13 <| fun τ33 => (wp_X6_clear 55 τ33 <| fun τ40 => (wp_X2_clear  τ40 <| fun τ47 => (∃ nf, b_X9_book_52   K nf 0 τ47))))))
set_option maxRecDepth 20000 in
set_option maxHeartbeats 2000000 in
theorem ev_X9_book (l : Launch)  {σ : Sg} {K : Int32 → Sg → Prop} (h : wp_X9_book  σ K) : Ev l yX9_book cX9_book 3 (some .int) 11 [.ref 0] σ (qI K) := by
  refine ev_ov (by decide) (Nat.le_of_ble_eq_true rfl) ?_
  show AV l RX9 cX9_book 3 (some .int) 11 (qI K) 0 [(0, .ref 0)] [] σ
  refine aw_aload_n (pc := 0) 0 dX9_book_0 rfl ?_
  refine aw_getR (pc := 1) 2 kcX9 dX9_book_1 lfX9_30 nn_0 ki_0 (by decide) rfl rf_0_2 ?_
  refine aw_callVN (pc := 4) (As := []) (rest := []) kcX0 nn_27 ki_27 rfl (ev_X0_readBook l  h) mfX0_readBook dX9_book_4 lmnX9_92 ⟨Nat.le_refl _, Nat.le_refl _⟩ (by decide) rfl rfl (Nat.le_of_ble_eq_true rfl) (nxI (fun r4_ τ4 h => ?_))
  refine aw_istore_n (pc := 7) (i := 1) [(1, .int r4_), (0, .ref 0)] dX9_book_7 rfl (by decide) rfl ?_
  refine aw_aload_n (pc := 8) 1 dX9_book_8 rfl ?_
  refine aw_getR (pc := 9) 0 kcX9 dX9_book_9 lfX9_12 nn_0 ki_0 (by decide) rfl rf_0_0 ?_
  refine aw_iconst (pc := 12) 0 dX9_book_12 (by decide) ?_
  refine aw_putN (pc := 13) 1 kcX4 dX9_book_13 lfnX9_88 nn_1 ki_1 (by decide) rfl rfl rfl rfl ?_
  refine aw_tops (fun τ13 eτ13 => ?_)
  have h := h τ13 eτ13
  refine aw_iload_n (pc := 16) 0 dX9_book_16 rfl ?_
  refine aw_if_ne (pc := 17) 22 dX9_book_17 (by decide) (fun q => ?_) (fun q => ?_)
  · have h := h.2 q
    refine aw_aload_n (pc := 22) 1 dX9_book_22 rfl ?_
    refine aw_getR (pc := 23) 1 kcX9 dX9_book_23 lfX9_21 nn_0 ki_0 (by decide) rfl rf_0_1 ?_
    refine aw_aload_n (pc := 26) 1 dX9_book_26 rfl ?_
    refine aw_getR (pc := 27) 2 kcX9 dX9_book_27 lfX9_30 nn_0 ki_0 (by decide) rfl rf_0_2 ?_
    refine aw_getRN (pc := 30) 1 kcX0 dX9_book_30 lfnX9_96 nn_27 ki_27 (by decide) rfl rf_27_1 ?_
    refine aw_callVN (pc := 33) (As := [.ref 28]) (rest := []) kcX5 nn_3 ki_3 rfl (ev_X5_copyFrom l 3 rul_3 28 rul_28 h) mfX5_copyFrom dX9_book_33 lmnX9_99 ⟨Nat.le_refl _, Nat.le_refl _⟩ (by decide) rfl rfl (Nat.le_of_ble_eq_true rfl) (nxV (fun τ33 h => ?_))
    refine aw_aload_n (pc := 36) 1 dX9_book_36 rfl ?_
    refine aw_getR (pc := 37) 4 kcX9 dX9_book_37 lfX9_44 nn_0 ki_0 (by decide) rfl rf_0_4 ?_
    refine aw_callVN (pc := 40) (As := []) (rest := []) kcX6 nn_55 ki_55 rfl (ev_X6_clear l 55 sea_55 h) mfX6_clear dX9_book_40 lmnX9_103 ⟨Nat.le_refl _, Nat.le_refl _⟩ (by decide) rfl rfl (Nat.le_of_ble_eq_true rfl) (nxV (fun τ40 h => ?_))
    refine aw_aload_n (pc := 43) 1 dX9_book_43 rfl ?_
    refine aw_getR (pc := 44) 5 kcX9 dX9_book_44 lfX9_51 nn_0 ki_0 (by decide) rfl rf_0_5 ?_
    refine aw_callVN (pc := 47) (As := []) (rest := []) kcX2 nn_63 ki_63 rfl (ev_X2_clear l  h) mfX2_clear dX9_book_47 lmnX9_106 ⟨Nat.le_refl _, Nat.le_refl _⟩ (by decide) rfl rfl (Nat.le_of_ble_eq_true rfl) (nxV (fun τ47 h => ?_))
    refine aw_iconst (pc := 50) 0 dX9_book_50 (by decide) ?_
    refine aw_istore_n (pc := 51) (i := 2) [(2, .int 0), (1, .int r4_), (0, .ref 0)] dX9_book_51 rfl (by decide) rfl ?_
    refine aw_sub (L' := [(0, .ref 0), (2, .int 0)]) [2, 0] rfl ?_
    obtain ⟨nf, h⟩ := h
    exact bt_X9_book_52 l    nf 0  _ h
  · have h := h.1 q
    refine aw_iconst (pc := 20) (-1) dX9_book_20 (by decide) ?_
    exact aw_iret (pc := 21) rfl dX9_book_21 ⟨_, rfl, h⟩
def wp_X9_hasBook  (σ : Sg) (K : Int32 → Sg → Prop) : Prop :=
  br ((σ 3 0) ≤ 0) (K 0 σ) (K 1 σ)
set_option maxRecDepth 20000 in
set_option maxHeartbeats 2000000 in
theorem ev_X9_hasBook (l : Launch)  {σ : Sg} {K : Int32 → Sg → Prop} (h : wp_X9_hasBook  σ K) : Ev l yX9_hasBook cX9_hasBook 1 (some .boolean) 0 [.ref 0] σ (qI K) := by
  refine ev_ov (by decide) (Nat.le_of_ble_eq_true rfl) ?_
  show AV l RX9 cX9_hasBook 1 (some .boolean) 0 (qI K) 0 [(0, .ref 0)] [] σ
  refine aw_aload_n (pc := 0) 0 dX9_hasBook_0 rfl ?_
  refine aw_getR (pc := 1) 1 kcX9 dX9_hasBook_1 lfX9_21 nn_0 ki_0 (by decide) rfl rf_0_1 ?_
  refine aw_getIN (pc := 4) 0 kcX5 dX9_hasBook_4 lfnX9_276 nn_3 ki_3 (by decide) rfl ?_
  refine aw_if_le (pc := 7) 14 dX9_hasBook_7 (by decide) (fun q => ?_) (fun q => ?_)
  · have h := h.1 q
    refine aw_iconst (pc := 14) 0 dX9_hasBook_14 (by decide) ?_
    exact aw_zret (pc := 15) rfl rfl dX9_hasBook_15 ⟨_, rfl, h⟩
  · have h := h.2 q
    refine aw_iconst (pc := 10) 1 dX9_hasBook_10 (by decide) ?_
    refine aw_goto (pc := 11) 15 dX9_hasBook_11 (by decide) ?_
    exact aw_zret (pc := 15) rfl rfl dX9_hasBook_15 ⟨_, rfl, h⟩
def wp_X9_isCup (x1 : Int32) (σ : Sg) (K : Int32 → Sg → Prop) : Prop :=
  br (x1 < 0) (K 0 σ) (br ((σ 3 1) ≤ x1) (K 0 σ) (K 1 σ))
set_option maxRecDepth 20000 in
set_option maxHeartbeats 2000000 in
theorem ev_X9_isCup (l : Launch) (x1 : Int32) {σ : Sg} {K : Int32 → Sg → Prop} (h : wp_X9_isCup x1 σ K) : Ev l yX9_isCup cX9_isCup 2 (some .boolean) 0 [.ref 0, .int x1] σ (qI K) := by
  refine ev_ov (by decide) (Nat.le_of_ble_eq_true rfl) ?_
  show AV l RX9 cX9_isCup 2 (some .boolean) 0 (qI K) 0 [(0, .ref 0), (1, .int x1)] [] σ
  refine aw_iload_n (pc := 0) 1 dX9_isCup_0 rfl ?_
  refine aw_if_lt (pc := 1) 19 dX9_isCup_1 (by decide) (fun q => ?_) (fun q => ?_)
  · have h := h.1 q
    refine aw_iconst (pc := 19) 0 dX9_isCup_19 (by decide) ?_
    exact aw_zret (pc := 20) rfl rfl dX9_isCup_20 ⟨_, rfl, h⟩
  · have h := h.2 q
    refine aw_iload_n (pc := 4) 1 dX9_isCup_4 rfl ?_
    refine aw_aload_n (pc := 5) 0 dX9_isCup_5 rfl ?_
    refine aw_getR (pc := 6) 1 kcX9 dX9_isCup_6 lfX9_21 nn_0 ki_0 (by decide) rfl rf_0_1 ?_
    refine aw_getIN (pc := 9) 1 kcX5 dX9_isCup_9 lfnX9_344 nn_3 ki_3 (by decide) rfl ?_
    refine aw_icmp_ge (pc := 12) 19 dX9_isCup_12 (by decide) (fun q => ?_) (fun q => ?_)
    · have h := h.1 q
      refine aw_iconst (pc := 19) 0 dX9_isCup_19 (by decide) ?_
      exact aw_zret (pc := 20) rfl rfl dX9_isCup_20 ⟨_, rfl, h⟩
    · have h := h.2 q
      refine aw_iconst (pc := 15) 1 dX9_isCup_15 (by decide) ?_
      refine aw_goto (pc := 16) 20 dX9_isCup_16 (by decide) ?_
      exact aw_zret (pc := 20) rfl rfl dX9_isCup_20 ⟨_, rfl, h⟩
def wp_X9_isPool (x1 : Int32) (x2 : Int32) (σ : Sg) (K : Int32 → Sg → Prop) : Prop :=
  wp_X9_isCup x1 σ <| fun r2_ τ2 => (br (r2_ = 0) (K 0 τ2) (br (x2 < 0) (K 0 τ2) (br (6 ≤ x2) (K 0 τ2) (K 1 τ2))))
set_option maxRecDepth 20000 in
set_option maxHeartbeats 2000000 in
theorem ev_X9_isPool (l : Launch) (x1 : Int32) (x2 : Int32) {σ : Sg} {K : Int32 → Sg → Prop} (h : wp_X9_isPool x1 x2 σ K) : Ev l yX9_isPool cX9_isPool 3 (some .boolean) 1 [.ref 0, .int x1, .int x2] σ (qI K) := by
  refine ev_ov (by decide) (Nat.le_of_ble_eq_true rfl) ?_
  show AV l RX9 cX9_isPool 3 (some .boolean) 1 (qI K) 0 [(0, .ref 0), (1, .int x1), (2, .int x2)] [] σ
  refine aw_aload_n (pc := 0) 0 dX9_isPool_0 rfl ?_
  refine aw_iload_n (pc := 1) 1 dX9_isPool_1 rfl ?_
  refine aw_callV (pc := 2) (As := [.int x1]) (rest := []) kcX9 nn_0 ki_0 rfl (ev_X9_isCup l x1 h) mfX9_isCup dX9_isPool_2 lmX9_201 ⟨Nat.le_refl _, Nat.le_refl _⟩ (by decide) rfl rfl (Nat.le_of_ble_eq_true rfl) (nxI (fun r2_ τ2 h => ?_))
  refine aw_if_eq (pc := 5) 22 dX9_isPool_5 (by decide) (fun q => ?_) (fun q => ?_)
  · have h := h.1 q
    refine aw_iconst (pc := 22) 0 dX9_isPool_22 (by decide) ?_
    exact aw_zret (pc := 23) rfl rfl dX9_isPool_23 ⟨_, rfl, h⟩
  · have h := h.2 q
    refine aw_iload_n (pc := 8) 2 dX9_isPool_8 rfl ?_
    refine aw_if_lt (pc := 9) 22 dX9_isPool_9 (by decide) (fun q => ?_) (fun q => ?_)
    · have h := h.1 q
      refine aw_iconst (pc := 22) 0 dX9_isPool_22 (by decide) ?_
      exact aw_zret (pc := 23) rfl rfl dX9_isPool_23 ⟨_, rfl, h⟩
    · have h := h.2 q
      refine aw_iload_n (pc := 12) 2 dX9_isPool_12 rfl ?_
      refine aw_bipush (pc := 13) 6 dX9_isPool_13 (by decide) ?_
      refine aw_icmp_ge (pc := 15) 22 dX9_isPool_15 (by decide) (fun q => ?_) (fun q => ?_)
      · have h := h.1 q
        refine aw_iconst (pc := 22) 0 dX9_isPool_22 (by decide) ?_
        exact aw_zret (pc := 23) rfl rfl dX9_isPool_23 ⟨_, rfl, h⟩
      · have h := h.2 q
        refine aw_iconst (pc := 18) 1 dX9_isPool_18 (by decide) ?_
        refine aw_goto (pc := 19) 23 dX9_isPool_19 (by decide) ?_
        exact aw_zret (pc := 23) rfl rfl dX9_isPool_23 ⟨_, rfl, h⟩
def wp_X9_isClub (x1 : Int32) (σ : Sg) (K : Int32 → Sg → Prop) : Prop :=
  br (x1 < 0) (K 0 σ) (br ((σ 3 0) ≤ x1) (K 0 σ) (K 1 σ))
set_option maxRecDepth 20000 in
set_option maxHeartbeats 2000000 in
theorem ev_X9_isClub (l : Launch) (x1 : Int32) {σ : Sg} {K : Int32 → Sg → Prop} (h : wp_X9_isClub x1 σ K) : Ev l yX9_isClub cX9_isClub 2 (some .boolean) 0 [.ref 0, .int x1] σ (qI K) := by
  refine ev_ov (by decide) (Nat.le_of_ble_eq_true rfl) ?_
  show AV l RX9 cX9_isClub 2 (some .boolean) 0 (qI K) 0 [(0, .ref 0), (1, .int x1)] [] σ
  refine aw_iload_n (pc := 0) 1 dX9_isClub_0 rfl ?_
  refine aw_if_lt (pc := 1) 19 dX9_isClub_1 (by decide) (fun q => ?_) (fun q => ?_)
  · have h := h.1 q
    refine aw_iconst (pc := 19) 0 dX9_isClub_19 (by decide) ?_
    exact aw_zret (pc := 20) rfl rfl dX9_isClub_20 ⟨_, rfl, h⟩
  · have h := h.2 q
    refine aw_iload_n (pc := 4) 1 dX9_isClub_4 rfl ?_
    refine aw_aload_n (pc := 5) 0 dX9_isClub_5 rfl ?_
    refine aw_getR (pc := 6) 1 kcX9 dX9_isClub_6 lfX9_21 nn_0 ki_0 (by decide) rfl rf_0_1 ?_
    refine aw_getIN (pc := 9) 0 kcX5 dX9_isClub_9 lfnX9_276 nn_3 ki_3 (by decide) rfl ?_
    refine aw_icmp_ge (pc := 12) 19 dX9_isClub_12 (by decide) (fun q => ?_) (fun q => ?_)
    · have h := h.1 q
      refine aw_iconst (pc := 19) 0 dX9_isClub_19 (by decide) ?_
      exact aw_zret (pc := 20) rfl rfl dX9_isClub_20 ⟨_, rfl, h⟩
    · have h := h.2 q
      refine aw_iconst (pc := 15) 1 dX9_isClub_15 (by decide) ?_
      refine aw_goto (pc := 16) 20 dX9_isClub_16 (by decide) ?_
      exact aw_zret (pc := 20) rfl rfl dX9_isClub_20 ⟨_, rfl, h⟩
def b_X9_tieCode_147 (x1 : Int32) (x2 : Int32) (x3 : Int32) (x4 : Int32)  (K : Int32 → Sg → Prop) (z0 : Int32) (σ : Sg) : Prop :=
  br (z0 = 0) (K (-2) σ) (K 0 σ)
set_option maxRecDepth 20000 in
set_option maxHeartbeats 2000000 in
theorem bt_X9_tieCode_147 (l : Launch) (x1 : Int32) (x2 : Int32) (x3 : Int32) (x4 : Int32) {K : Int32 → Sg → Prop}   (z0 : Int32)  (σ : Sg) (h : b_X9_tieCode_147 x1 x2 x3 x4  K z0 σ) : AV l RX9 cX9_tieCode 6 (some .int) 4 (qI K) 147 [] [.int z0] σ := by
  refine aw_istore (pc := 147) [(5, .int z0)] dX9_tieCode_147 (by decide) rfl ?_
  refine aw_iload (pc := 149) 0 dX9_tieCode_149 rfl ?_
  refine aw_if_eq (pc := 151) 158 dX9_tieCode_151 (by decide) (fun q => ?_) (fun q => ?_)
  · have h := h.1 q
    refine aw_bipush (pc := 158) (-2) dX9_tieCode_158 (by decide) ?_
    exact aw_iret (pc := 160) rfl dX9_tieCode_160 ⟨_, rfl, h⟩
  · have h := h.2 q
    refine aw_iconst (pc := 154) 0 dX9_tieCode_154 (by decide) ?_
    refine aw_goto (pc := 155) 160 dX9_tieCode_155 (by decide) ?_
    exact aw_iret (pc := 160) rfl dX9_tieCode_160 ⟨_, rfl, h⟩
def b_X9_tieCode_146 (x1 : Int32) (x2 : Int32) (x3 : Int32) (x4 : Int32)  (K : Int32 → Sg → Prop)  (σ : Sg) : Prop :=
  b_X9_tieCode_147 x1 x2 x3 x4  K 0 σ
set_option maxRecDepth 20000 in
set_option maxHeartbeats 2000000 in
theorem bt_X9_tieCode_146 (l : Launch) (x1 : Int32) (x2 : Int32) (x3 : Int32) (x4 : Int32) {K : Int32 → Sg → Prop}     (σ : Sg) (h : b_X9_tieCode_146 x1 x2 x3 x4  K  σ) : AV l RX9 cX9_tieCode 6 (some .int) 4 (qI K) 146 [] [] σ := by
  refine aw_iconst (pc := 146) 0 dX9_tieCode_146 (by decide) ?_
  exact bt_X9_tieCode_147 l x1 x2 x3 x4   0  _ h
def wp_X9_tieCode (x1 : Int32) (x2 : Int32) (x3 : Int32) (x4 : Int32) (σ : Sg) (K : Int32 → Sg → Prop) : Prop :=
  wp_X9_isPool x1 x2 σ <| fun r3_ τ3 => (br (r3_ = 0) (K (-1) τ3) (wp_X9_isClub x3 τ3 <| fun r11_ τ11 => (br (r11_ = 0) (K (-1) τ11) (wp_X9_isClub x4 τ11 <| fun r20_ τ20 => (br (r20_ = 0) (K (-1) τ20) (br (x3 = x4) (K (-2) τ20) (br (30 ≤ (τ20 55 0)) (K (-2) τ20) (wp_X6_isClosed 55 x1 x2 τ20 <| fun r52_ τ52 => (br (r52_ = 0) (wp_X6_isIn 55 x1 x2 x3 τ52 <| fun r68_ τ68 => (br (r68_ = 0) (wp_X6_isIn 55 x1 x2 x4 τ68 <| fun r82_ τ82 => (br (r82_ = 0) (br (x2 = 0) (K 0 τ82) (wp_X6_isClosed 55 x1 (x2 - 1) τ82 <| fun r105_ τ105 => (br (r105_ = 0) (b_X9_tieCode_146 x1 x2 x3 x4  K  τ105) (wp_X6_hasWonIn 55 x1 (x2 - 1) x3 τ105 <| fun r120_ τ120 => (br (r120_ = 0) (b_X9_tieCode_146 x1 x2 x3 x4  K  τ120) (wp_X6_hasWonIn 55 x1 (x2 - 1) x4 τ120 <| fun r136_ τ136 => (br (r136_ = 0) (b_X9_tieCode_146 x1 x2 x3 x4  K  τ136) (b_X9_tieCode_147 x1 x2 x3 x4  K 1 τ136)))))))) (K (-2) τ82))) (K (-2) τ68))) (K (-2) τ52))))))))))
set_option maxRecDepth 20000 in
set_option maxHeartbeats 2000000 in
theorem ev_X9_tieCode (l : Launch) (x1 : Int32) (x2 : Int32) (x3 : Int32) (x4 : Int32) {σ : Sg} {K : Int32 → Sg → Prop} (h : wp_X9_tieCode x1 x2 x3 x4 σ K) : Ev l yX9_tieCode cX9_tieCode 6 (some .int) 4 [.ref 0, .int x1, .int x2, .int x3, .int x4] σ (qI K) := by
  refine ev_ov (by decide) (Nat.le_of_ble_eq_true rfl) ?_
  show AV l RX9 cX9_tieCode 6 (some .int) 4 (qI K) 0 [(0, .ref 0), (1, .int x1), (2, .int x2), (3, .int x3), (4, .int x4)] [] σ
  refine aw_aload_n (pc := 0) 0 dX9_tieCode_0 rfl ?_
  refine aw_iload_n (pc := 1) 1 dX9_tieCode_1 rfl ?_
  refine aw_iload_n (pc := 2) 2 dX9_tieCode_2 rfl ?_
  refine aw_callV (pc := 3) (As := [.int x1, .int x2]) (rest := []) kcX9 nn_0 ki_0 rfl (ev_X9_isPool l x1 x2 h) mfX9_isPool dX9_tieCode_3 lmX9_270 ⟨Nat.le_refl _, Nat.le_refl _⟩ (by decide) rfl rfl (Nat.le_of_ble_eq_true rfl) (nxI (fun r3_ τ3 h => ?_))
  refine aw_if_eq (pc := 6) 26 dX9_tieCode_6 (by decide) (fun q => ?_) (fun q => ?_)
  · have h := h.1 q
    refine aw_iconst (pc := 26) (-1) dX9_tieCode_26 (by decide) ?_
    exact aw_iret (pc := 27) rfl dX9_tieCode_27 ⟨_, rfl, h⟩
  · have h := h.2 q
    refine aw_aload_n (pc := 9) 0 dX9_tieCode_9 rfl ?_
    refine aw_iload_n (pc := 10) 3 dX9_tieCode_10 rfl ?_
    refine aw_callV (pc := 11) (As := [.int x3]) (rest := []) kcX9 nn_0 ki_0 rfl (ev_X9_isClub l x3 h) mfX9_isClub dX9_tieCode_11 lmX9_185 ⟨Nat.le_refl _, Nat.le_refl _⟩ (by decide) rfl rfl (Nat.le_of_ble_eq_true rfl) (nxI (fun r11_ τ11 h => ?_))
    refine aw_if_eq (pc := 14) 26 dX9_tieCode_14 (by decide) (fun q => ?_) (fun q => ?_)
    · have h := h.1 q
      refine aw_iconst (pc := 26) (-1) dX9_tieCode_26 (by decide) ?_
      exact aw_iret (pc := 27) rfl dX9_tieCode_27 ⟨_, rfl, h⟩
    · have h := h.2 q
      refine aw_aload_n (pc := 17) 0 dX9_tieCode_17 rfl ?_
      refine aw_iload (pc := 18) 4 dX9_tieCode_18 rfl ?_
      refine aw_callV (pc := 20) (As := [.int x4]) (rest := []) kcX9 nn_0 ki_0 rfl (ev_X9_isClub l x4 h) mfX9_isClub dX9_tieCode_20 lmX9_185 ⟨Nat.le_refl _, Nat.le_refl _⟩ (by decide) rfl rfl (Nat.le_of_ble_eq_true rfl) (nxI (fun r20_ τ20 h => ?_))
      refine aw_if_ne (pc := 23) 28 dX9_tieCode_23 (by decide) (fun q => ?_) (fun q => ?_)
      · have h := h.2 q
        refine aw_iload_n (pc := 28) 3 dX9_tieCode_28 rfl ?_
        refine aw_iload (pc := 29) 4 dX9_tieCode_29 rfl ?_
        refine aw_icmp_eq (pc := 31) 58 dX9_tieCode_31 (by decide) (fun q => ?_) (fun q => ?_)
        · have h := h.1 q
          refine aw_bipush (pc := 58) (-2) dX9_tieCode_58 (by decide) ?_
          exact aw_iret (pc := 60) rfl dX9_tieCode_60 ⟨_, rfl, h⟩
        · have h := h.2 q
          refine aw_aload_n (pc := 34) 0 dX9_tieCode_34 rfl ?_
          refine aw_getR (pc := 35) 4 kcX9 dX9_tieCode_35 lfX9_44 nn_0 ki_0 (by decide) rfl rf_0_4 ?_
          refine aw_getIN (pc := 38) 0 kcX6 dX9_tieCode_38 lfnX9_148 nn_55 ki_55 (by decide) rfl ?_
          refine aw_bipush (pc := 41) 30 dX9_tieCode_41 (by decide) ?_
          refine aw_icmp_ge (pc := 43) 58 dX9_tieCode_43 (by decide) (fun q => ?_) (fun q => ?_)
          · have h := h.1 q
            refine aw_bipush (pc := 58) (-2) dX9_tieCode_58 (by decide) ?_
            exact aw_iret (pc := 60) rfl dX9_tieCode_60 ⟨_, rfl, h⟩
          · have h := h.2 q
            refine aw_aload_n (pc := 46) 0 dX9_tieCode_46 rfl ?_
            refine aw_getR (pc := 47) 4 kcX9 dX9_tieCode_47 lfX9_44 nn_0 ki_0 (by decide) rfl rf_0_4 ?_
            refine aw_iload_n (pc := 50) 1 dX9_tieCode_50 rfl ?_
            refine aw_iload_n (pc := 51) 2 dX9_tieCode_51 rfl ?_
            refine aw_callVN (pc := 52) (As := [.int x1, .int x2]) (rest := []) kcX6 nn_55 ki_55 rfl (ev_X6_isClosed l 55 sea_55 x1 x2 h) mfX6_isClosed dX9_tieCode_52 lmnX9_372 ⟨Nat.le_refl _, Nat.le_refl _⟩ (by decide) rfl rfl (Nat.le_of_ble_eq_true rfl) (nxI (fun r52_ τ52 h => ?_))
            refine aw_if_eq (pc := 55) 61 dX9_tieCode_55 (by decide) (fun q => ?_) (fun q => ?_)
            · have h := h.1 q
              refine aw_aload_n (pc := 61) 0 dX9_tieCode_61 rfl ?_
              refine aw_getR (pc := 62) 4 kcX9 dX9_tieCode_62 lfX9_44 nn_0 ki_0 (by decide) rfl rf_0_4 ?_
              refine aw_iload_n (pc := 65) 1 dX9_tieCode_65 rfl ?_
              refine aw_iload_n (pc := 66) 2 dX9_tieCode_66 rfl ?_
              refine aw_iload_n (pc := 67) 3 dX9_tieCode_67 rfl ?_
              refine aw_callVN (pc := 68) (As := [.int x1, .int x2, .int x3]) (rest := []) kcX6 nn_55 ki_55 rfl (ev_X6_isIn l 55 sea_55 x1 x2 x3 h) mfX6_isIn dX9_tieCode_68 lmnX9_375 ⟨Nat.le_refl _, Nat.le_refl _⟩ (by decide) rfl rfl (Nat.le_of_ble_eq_true rfl) (nxI (fun r68_ τ68 h => ?_))
              refine aw_if_ne (pc := 71) 88 dX9_tieCode_71 (by decide) (fun q => ?_) (fun q => ?_)
              · have h := h.2 q
                refine aw_bipush (pc := 88) (-2) dX9_tieCode_88 (by decide) ?_
                exact aw_iret (pc := 90) rfl dX9_tieCode_90 ⟨_, rfl, h⟩
              · have h := h.1 q
                refine aw_aload_n (pc := 74) 0 dX9_tieCode_74 rfl ?_
                refine aw_getR (pc := 75) 4 kcX9 dX9_tieCode_75 lfX9_44 nn_0 ki_0 (by decide) rfl rf_0_4 ?_
                refine aw_iload_n (pc := 78) 1 dX9_tieCode_78 rfl ?_
                refine aw_iload_n (pc := 79) 2 dX9_tieCode_79 rfl ?_
                refine aw_iload (pc := 80) 4 dX9_tieCode_80 rfl ?_
                refine aw_callVN (pc := 82) (As := [.int x1, .int x2, .int x4]) (rest := []) kcX6 nn_55 ki_55 rfl (ev_X6_isIn l 55 sea_55 x1 x2 x4 h) mfX6_isIn dX9_tieCode_82 lmnX9_375 ⟨Nat.le_refl _, Nat.le_refl _⟩ (by decide) rfl rfl (Nat.le_of_ble_eq_true rfl) (nxI (fun r82_ τ82 h => ?_))
                refine aw_if_eq (pc := 85) 91 dX9_tieCode_85 (by decide) (fun q => ?_) (fun q => ?_)
                · have h := h.1 q
                  refine aw_iload_n (pc := 91) 2 dX9_tieCode_91 rfl ?_
                  refine aw_if_ne (pc := 92) 97 dX9_tieCode_92 (by decide) (fun q => ?_) (fun q => ?_)
                  · have h := h.2 q
                    refine aw_aload_n (pc := 97) 0 dX9_tieCode_97 rfl ?_
                    refine aw_getR (pc := 98) 4 kcX9 dX9_tieCode_98 lfX9_44 nn_0 ki_0 (by decide) rfl rf_0_4 ?_
                    refine aw_iload_n (pc := 101) 1 dX9_tieCode_101 rfl ?_
                    refine aw_iload_n (pc := 102) 2 dX9_tieCode_102 rfl ?_
                    refine aw_iconst (pc := 103) 1 dX9_tieCode_103 (by decide) ?_
                    refine aw_isub (pc := 104) dX9_tieCode_104 ?_
                    refine aw_callVN (pc := 105) (As := [.int x1, .int (x2 - 1)]) (rest := []) kcX6 nn_55 ki_55 rfl (ev_X6_isClosed l 55 sea_55 x1 (x2 - 1) h) mfX6_isClosed dX9_tieCode_105 lmnX9_372 ⟨Nat.le_refl _, Nat.le_refl _⟩ (by decide) rfl rfl (Nat.le_of_ble_eq_true rfl) (nxI (fun r105_ τ105 h => ?_))
                    refine aw_if_eq (pc := 108) 146 dX9_tieCode_108 (by decide) (fun q => ?_) (fun q => ?_)
                    · have h := h.1 q
                      refine aw_sub (L' := []) [] rfl ?_
                      exact bt_X9_tieCode_146 l x1 x2 x3 x4     _ h
                    · have h := h.2 q
                      refine aw_aload_n (pc := 111) 0 dX9_tieCode_111 rfl ?_
                      refine aw_getR (pc := 112) 4 kcX9 dX9_tieCode_112 lfX9_44 nn_0 ki_0 (by decide) rfl rf_0_4 ?_
                      refine aw_iload_n (pc := 115) 1 dX9_tieCode_115 rfl ?_
                      refine aw_iload_n (pc := 116) 2 dX9_tieCode_116 rfl ?_
                      refine aw_iconst (pc := 117) 1 dX9_tieCode_117 (by decide) ?_
                      refine aw_isub (pc := 118) dX9_tieCode_118 ?_
                      refine aw_iload_n (pc := 119) 3 dX9_tieCode_119 rfl ?_
                      refine aw_callVN (pc := 120) (As := [.int x1, .int (x2 - 1), .int x3]) (rest := []) kcX6 nn_55 ki_55 rfl (ev_X6_hasWonIn l 55 sea_55 x1 (x2 - 1) x3 h) mfX6_hasWonIn dX9_tieCode_120 lmnX9_379 ⟨Nat.le_refl _, Nat.le_refl _⟩ (by decide) rfl rfl (Nat.le_of_ble_eq_true rfl) (nxI (fun r120_ τ120 h => ?_))
                      refine aw_if_eq (pc := 123) 146 dX9_tieCode_123 (by decide) (fun q => ?_) (fun q => ?_)
                      · have h := h.1 q
                        refine aw_sub (L' := []) [] rfl ?_
                        exact bt_X9_tieCode_146 l x1 x2 x3 x4     _ h
                      · have h := h.2 q
                        refine aw_aload_n (pc := 126) 0 dX9_tieCode_126 rfl ?_
                        refine aw_getR (pc := 127) 4 kcX9 dX9_tieCode_127 lfX9_44 nn_0 ki_0 (by decide) rfl rf_0_4 ?_
                        refine aw_iload_n (pc := 130) 1 dX9_tieCode_130 rfl ?_
                        refine aw_iload_n (pc := 131) 2 dX9_tieCode_131 rfl ?_
                        refine aw_iconst (pc := 132) 1 dX9_tieCode_132 (by decide) ?_
                        refine aw_isub (pc := 133) dX9_tieCode_133 ?_
                        refine aw_iload (pc := 134) 4 dX9_tieCode_134 rfl ?_
                        refine aw_callVN (pc := 136) (As := [.int x1, .int (x2 - 1), .int x4]) (rest := []) kcX6 nn_55 ki_55 rfl (ev_X6_hasWonIn l 55 sea_55 x1 (x2 - 1) x4 h) mfX6_hasWonIn dX9_tieCode_136 lmnX9_379 ⟨Nat.le_refl _, Nat.le_refl _⟩ (by decide) rfl rfl (Nat.le_of_ble_eq_true rfl) (nxI (fun r136_ τ136 h => ?_))
                        refine aw_if_eq (pc := 139) 146 dX9_tieCode_139 (by decide) (fun q => ?_) (fun q => ?_)
                        · have h := h.1 q
                          refine aw_sub (L' := []) [] rfl ?_
                          exact bt_X9_tieCode_146 l x1 x2 x3 x4     _ h
                        · have h := h.2 q
                          refine aw_iconst (pc := 142) 1 dX9_tieCode_142 (by decide) ?_
                          refine aw_goto (pc := 143) 147 dX9_tieCode_143 (by decide) ?_
                          refine aw_sub (L' := []) [] rfl ?_
                          exact bt_X9_tieCode_147 l x1 x2 x3 x4   1  _ h
                  · have h := h.1 q
                    refine aw_iconst (pc := 95) 0 dX9_tieCode_95 (by decide) ?_
                    exact aw_iret (pc := 96) rfl dX9_tieCode_96 ⟨_, rfl, h⟩
                · have h := h.2 q
                  refine aw_bipush (pc := 88) (-2) dX9_tieCode_88 (by decide) ?_
                  exact aw_iret (pc := 90) rfl dX9_tieCode_90 ⟨_, rfl, h⟩
            · have h := h.2 q
              refine aw_bipush (pc := 58) (-2) dX9_tieCode_58 (by decide) ?_
              exact aw_iret (pc := 60) rfl dX9_tieCode_60 ⟨_, rfl, h⟩
      · have h := h.1 q
        refine aw_iconst (pc := 26) (-1) dX9_tieCode_26 (by decide) ?_
        exact aw_iret (pc := 27) rfl dX9_tieCode_27 ⟨_, rfl, h⟩
def wp_X9_isTie (x1 : Int32) (σ : Sg) (K : Int32 → Sg → Prop) : Prop :=
  br (x1 < 0) (K 0 σ) (br ((σ 55 0) ≤ x1) (K 0 σ) (K 1 σ))
set_option maxRecDepth 20000 in
set_option maxHeartbeats 2000000 in
theorem ev_X9_isTie (l : Launch) (x1 : Int32) {σ : Sg} {K : Int32 → Sg → Prop} (h : wp_X9_isTie x1 σ K) : Ev l yX9_isTie cX9_isTie 2 (some .boolean) 0 [.ref 0, .int x1] σ (qI K) := by
  refine ev_ov (by decide) (Nat.le_of_ble_eq_true rfl) ?_
  show AV l RX9 cX9_isTie 2 (some .boolean) 0 (qI K) 0 [(0, .ref 0), (1, .int x1)] [] σ
  refine aw_iload_n (pc := 0) 1 dX9_isTie_0 rfl ?_
  refine aw_if_lt (pc := 1) 19 dX9_isTie_1 (by decide) (fun q => ?_) (fun q => ?_)
  · have h := h.1 q
    refine aw_iconst (pc := 19) 0 dX9_isTie_19 (by decide) ?_
    exact aw_zret (pc := 20) rfl rfl dX9_isTie_20 ⟨_, rfl, h⟩
  · have h := h.2 q
    refine aw_iload_n (pc := 4) 1 dX9_isTie_4 rfl ?_
    refine aw_aload_n (pc := 5) 0 dX9_isTie_5 rfl ?_
    refine aw_getR (pc := 6) 4 kcX9 dX9_isTie_6 lfX9_44 nn_0 ki_0 (by decide) rfl rf_0_4 ?_
    refine aw_getIN (pc := 9) 0 kcX6 dX9_isTie_9 lfnX9_148 nn_55 ki_55 (by decide) rfl ?_
    refine aw_icmp_ge (pc := 12) 19 dX9_isTie_12 (by decide) (fun q => ?_) (fun q => ?_)
    · have h := h.1 q
      refine aw_iconst (pc := 19) 0 dX9_isTie_19 (by decide) ?_
      exact aw_zret (pc := 20) rfl rfl dX9_isTie_20 ⟨_, rfl, h⟩
    · have h := h.2 q
      refine aw_iconst (pc := 15) 1 dX9_isTie_15 (by decide) ?_
      refine aw_goto (pc := 16) 20 dX9_isTie_16 (by decide) ?_
      exact aw_zret (pc := 20) rfl rfl dX9_isTie_20 ⟨_, rfl, h⟩
def wp_X9_isGate (x0 : Int32) (σ : Sg) (K : Int32 → Sg → Prop) : Prop :=
  br (x0 < 0) (K 0 σ) (br (99999 < x0) (K 0 σ) (K 1 σ))
set_option maxRecDepth 20000 in
set_option maxHeartbeats 2000000 in
theorem ev_X9_isGate (l : Launch) (x0 : Int32) {σ : Sg} {K : Int32 → Sg → Prop} (h : wp_X9_isGate x0 σ K) : Ev l yX9_isGate cX9_isGate 1 (some .boolean) 0 [.int x0] σ (qI K) := by
  refine ev_ov (by decide) (Nat.le_of_ble_eq_true rfl) ?_
  show AV l RX9 cX9_isGate 1 (some .boolean) 0 (qI K) 0 [(0, .int x0)] [] σ
  refine aw_iload_n (pc := 0) 0 dX9_isGate_0 rfl ?_
  refine aw_if_lt (pc := 1) 15 dX9_isGate_1 (by decide) (fun q => ?_) (fun q => ?_)
  · have h := h.1 q
    refine aw_iconst (pc := 15) 0 dX9_isGate_15 (by decide) ?_
    exact aw_zret (pc := 16) rfl rfl dX9_isGate_16 ⟨_, rfl, h⟩
  · have h := h.2 q
    refine aw_iload_n (pc := 4) 0 dX9_isGate_4 rfl ?_
    refine aw_ldcw (pc := 5) 99999 dX9_isGate_5 lcX9_371 ?_
    refine aw_icmp_gt (pc := 8) 15 dX9_isGate_8 (by decide) (fun q => ?_) (fun q => ?_)
    · have h := h.1 q
      refine aw_iconst (pc := 15) 0 dX9_isGate_15 (by decide) ?_
      exact aw_zret (pc := 16) rfl rfl dX9_isGate_16 ⟨_, rfl, h⟩
    · have h := h.2 q
      refine aw_iconst (pc := 11) 1 dX9_isGate_11 (by decide) ?_
      refine aw_goto (pc := 12) 16 dX9_isGate_12 (by decide) ?_
      exact aw_zret (pc := 16) rfl rfl dX9_isGate_16 ⟨_, rfl, h⟩
def wp_X9_playCode (x1 : Int32) (x2 : Int32) (x3 : Int32) (σ : Sg) (K : Int32 → Sg → Prop) : Prop :=
  wp_X9_isTie x1 σ <| fun r2_ τ2 => (br (r2_ = 0) (K (-1) τ2) (wp_X9_isGate x2 τ2 <| fun r9_ τ9 => (br (r9_ = 0) (K (-1) τ9) (br (x3 < 0) (K (-1) τ9) (br (x3 ≤ 2) (wp_X6_isDecided 55 x1 τ9 <| fun r31_ τ31 => (br (r31_ = 0) (vp_in x1 30 ∧ (br ((τ31 60 x1.toNatClampNeg) < 4) (vp_in x1 30 ∧ (vp_in (τ31 56 x1.toNatClampNeg) 4 ∧ (∀ v72 : Int32, v72 = τ31 (17 + 1 + (τ31 56 x1.toNatClampNeg).toNatClampNeg) 5 → (br (x3 = 2) (vp_in x1 30 ∧ (br ((τ31 60 x1.toNatClampNeg) < v72) (K 0 τ31) (K (-2) τ31))) (K 0 τ31))))) (K (-2) τ31))) (K (-2) τ31))) (K (-1) τ9))))))
set_option maxRecDepth 20000 in
set_option maxHeartbeats 2000000 in
theorem ev_X9_playCode (l : Launch) (x1 : Int32) (x2 : Int32) (x3 : Int32) {σ : Sg} {K : Int32 → Sg → Prop} (h : wp_X9_playCode x1 x2 x3 σ K) : Ev l yX9_playCode cX9_playCode 5 (some .int) 2 [.ref 0, .int x1, .int x2, .int x3] σ (qI K) := by
  refine ev_ov (by decide) (Nat.le_of_ble_eq_true rfl) ?_
  show AV l RX9 cX9_playCode 5 (some .int) 2 (qI K) 0 [(0, .ref 0), (1, .int x1), (2, .int x2), (3, .int x3)] [] σ
  refine aw_aload_n (pc := 0) 0 dX9_playCode_0 rfl ?_
  refine aw_iload_n (pc := 1) 1 dX9_playCode_1 rfl ?_
  refine aw_callV (pc := 2) (As := [.int x1]) (rest := []) kcX9 nn_0 ki_0 rfl (ev_X9_isTie l x1 h) mfX9_isTie dX9_playCode_2 lmX9_210 ⟨Nat.le_refl _, Nat.le_refl _⟩ (by decide) rfl rfl (Nat.le_of_ble_eq_true rfl) (nxI (fun r2_ τ2 h => ?_))
  refine aw_if_eq (pc := 5) 24 dX9_playCode_5 (by decide) (fun q => ?_) (fun q => ?_)
  · have h := h.1 q
    refine aw_iconst (pc := 24) (-1) dX9_playCode_24 (by decide) ?_
    exact aw_iret (pc := 25) rfl dX9_playCode_25 ⟨_, rfl, h⟩
  · have h := h.2 q
    refine aw_iload_n (pc := 8) 2 dX9_playCode_8 rfl ?_
    refine aw_callS (pc := 9) (As := [.int x2]) (rest := []) (ev_X9_isGate l x2 h) mfX9_isGate dX9_playCode_9 lmX9_325 ⟨Nat.le_refl _, Nat.le_refl _⟩ (by decide) rfl rfl (Nat.le_of_ble_eq_true rfl) (nxI (fun r9_ τ9 h => ?_))
    refine aw_if_eq (pc := 12) 24 dX9_playCode_12 (by decide) (fun q => ?_) (fun q => ?_)
    · have h := h.1 q
      refine aw_iconst (pc := 24) (-1) dX9_playCode_24 (by decide) ?_
      exact aw_iret (pc := 25) rfl dX9_playCode_25 ⟨_, rfl, h⟩
    · have h := h.2 q
      refine aw_iload_n (pc := 15) 3 dX9_playCode_15 rfl ?_
      refine aw_if_lt (pc := 16) 24 dX9_playCode_16 (by decide) (fun q => ?_) (fun q => ?_)
      · have h := h.1 q
        refine aw_iconst (pc := 24) (-1) dX9_playCode_24 (by decide) ?_
        exact aw_iret (pc := 25) rfl dX9_playCode_25 ⟨_, rfl, h⟩
      · have h := h.2 q
        refine aw_iload_n (pc := 19) 3 dX9_playCode_19 rfl ?_
        refine aw_iconst (pc := 20) 2 dX9_playCode_20 (by decide) ?_
        refine aw_icmp_le (pc := 21) 26 dX9_playCode_21 (by decide) (fun q => ?_) (fun q => ?_)
        · have h := h.1 q
          refine aw_aload_n (pc := 26) 0 dX9_playCode_26 rfl ?_
          refine aw_getR (pc := 27) 4 kcX9 dX9_playCode_27 lfX9_44 nn_0 ki_0 (by decide) rfl rf_0_4 ?_
          refine aw_iload_n (pc := 30) 1 dX9_playCode_30 rfl ?_
          refine aw_callVN (pc := 31) (As := [.int x1]) (rest := []) kcX6 nn_55 ki_55 rfl (ev_X6_isDecided l 55 sea_55 x1 h) mfX6_isDecided dX9_playCode_31 lmnX9_382 ⟨Nat.le_refl _, Nat.le_refl _⟩ (by decide) rfl rfl (Nat.le_of_ble_eq_true rfl) (nxI (fun r31_ τ31 h => ?_))
          refine aw_if_ne (pc := 34) 50 dX9_playCode_34 (by decide) (fun q => ?_) (fun q => ?_)
          · have h := h.2 q
            refine aw_bipush (pc := 50) (-2) dX9_playCode_50 (by decide) ?_
            exact aw_iret (pc := 52) rfl dX9_playCode_52 ⟨_, rfl, h⟩
          · have h := h.1 q
            refine aw_aload_n (pc := 37) 0 dX9_playCode_37 rfl ?_
            refine aw_getR (pc := 38) 4 kcX9 dX9_playCode_38 lfX9_44 nn_0 ki_0 (by decide) rfl rf_0_4 ?_
            refine aw_getRN (pc := 41) 6 kcX6 dX9_playCode_41 lfnX9_159 nn_55 ki_55 (by decide) rfl rf_55_6 ?_
            refine aw_iload_n (pc := 44) 1 dX9_playCode_44 rfl ?_
            refine aw_iald (pc := 45) (j := x1.toNatClampNeg) dX9_playCode_45 nn_60 ki_60 ln_60 h.1 rfl ?_
            have h := h.2
            refine aw_iconst (pc := 46) 4 dX9_playCode_46 (by decide) ?_
            refine aw_icmp_lt (pc := 47) 53 dX9_playCode_47 (by decide) (fun q => ?_) (fun q => ?_)
            · have h := h.1 q
              refine aw_aload_n (pc := 53) 0 dX9_playCode_53 rfl ?_
              refine aw_getR (pc := 54) 1 kcX9 dX9_playCode_54 lfX9_21 nn_0 ki_0 (by decide) rfl rf_0_1 ?_
              refine aw_getRN (pc := 57) 3 kcX5 dX9_playCode_57 lfnX9_204 nn_3 ki_3 (by decide) rfl rf_3_3 ?_
              refine aw_aload_n (pc := 60) 0 dX9_playCode_60 rfl ?_
              refine aw_getR (pc := 61) 4 kcX9 dX9_playCode_61 lfX9_44 nn_0 ki_0 (by decide) rfl rf_0_4 ?_
              refine aw_getRN (pc := 64) 2 kcX6 dX9_playCode_64 lfnX9_213 nn_55 ki_55 (by decide) rfl rf_55_2 ?_
              refine aw_iload_n (pc := 67) 1 dX9_playCode_67 rfl ?_
              refine aw_iald (pc := 68) (j := x1.toNatClampNeg) dX9_playCode_68 nn_56 ki_56 ln_56 h.1 rfl ?_
              have h := h.2
              have hin69 := h.1
              have h := h.2
              refine aw_aldI (pc := 69) dX9_playCode_69 nn_17 ki_17 ln_17 hin69 (rf15 ki_17) ?_
              refine aw_iconst (pc := 70) 5 dX9_playCode_70 (by decide) ?_
              refine aw_iald (pc := 71) (j := 5) dX9_playCode_71 (row_17 _ (vp_lt hin69)).1 (row_17 _ (vp_lt hin69)).2.1 (row_17 _ (vp_lt hin69)).2.2 (show vp_in _ _ by unfold vp_in; decide) (by decide) ?_
              refine aw_topi (fun v72 ev72 => ?_)
              have h := h v72 ev72
              refine aw_istore (pc := 72) [(4, .int v72), (0, .ref 0), (1, .int x1), (2, .int x2), (3, .int x3)] dX9_playCode_72 (by decide) rfl ?_
              refine aw_iload_n (pc := 74) 4 dX9_playCode_74 rfl ?_
              refine aw_iconst (pc := 75) 2 dX9_playCode_75 (by decide) ?_
              refine aw_icmp_ne (pc := 76) 98 dX9_playCode_76 (by decide) (fun q => ?_) (fun q => ?_)
              · have h := h.2 q
                refine aw_iconst (pc := 98) 0 dX9_playCode_98 (by decide) ?_
                exact aw_iret (pc := 99) rfl dX9_playCode_99 ⟨_, rfl, h⟩
              · have h := h.1 q
                refine aw_aload_n (pc := 79) 1 dX9_playCode_79 rfl ?_
                refine aw_getR (pc := 80) 4 kcX9 dX9_playCode_80 lfX9_44 nn_0 ki_0 (by decide) rfl rf_0_4 ?_
                refine aw_getRN (pc := 83) 6 kcX6 dX9_playCode_83 lfnX9_159 nn_55 ki_55 (by decide) rfl rf_55_6 ?_
                refine aw_iload_n (pc := 86) 2 dX9_playCode_86 rfl ?_
                refine aw_iald (pc := 87) (j := x1.toNatClampNeg) dX9_playCode_87 nn_60 ki_60 ln_60 h.1 rfl ?_
                have h := h.2
                refine aw_iload (pc := 88) 0 dX9_playCode_88 rfl ?_
                refine aw_icmp_lt (pc := 90) 98 dX9_playCode_90 (by decide) (fun q => ?_) (fun q => ?_)
                · have h := h.1 q
                  refine aw_iconst (pc := 98) 0 dX9_playCode_98 (by decide) ?_
                  exact aw_iret (pc := 99) rfl dX9_playCode_99 ⟨_, rfl, h⟩
                · have h := h.2 q
                  refine aw_bipush (pc := 93) (-2) dX9_playCode_93 (by decide) ?_
                  refine aw_goto (pc := 95) 99 dX9_playCode_95 (by decide) ?_
                  exact aw_iret (pc := 99) rfl dX9_playCode_99 ⟨_, rfl, h⟩
            · have h := h.2 q
              refine aw_bipush (pc := 50) (-2) dX9_playCode_50 (by decide) ?_
              exact aw_iret (pc := 52) rfl dX9_playCode_52 ⟨_, rfl, h⟩
        · have h := h.2 q
          refine aw_iconst (pc := 24) (-1) dX9_playCode_24 (by decide) ?_
          exact aw_iret (pc := 25) rfl dX9_playCode_25 ⟨_, rfl, h⟩
def wp_X9_closeCode (x1 : Int32) (x2 : Int32) (σ : Sg) (K : Int32 → Sg → Prop) : Prop :=
  wp_X9_isPool x1 x2 σ <| fun r3_ τ3 => (br (r3_ = 0) (K (-1) τ3) (wp_X6_canClose 55 x1 x2 τ3 <| fun r17_ τ17 => (br (r17_ = 0) (K (-2) τ17) (K 0 τ17))))
set_option maxRecDepth 20000 in
set_option maxHeartbeats 2000000 in
theorem ev_X9_closeCode (l : Launch) (x1 : Int32) (x2 : Int32) {σ : Sg} {K : Int32 → Sg → Prop} (h : wp_X9_closeCode x1 x2 σ K) : Ev l yX9_closeCode cX9_closeCode 3 (some .int) 3 [.ref 0, .int x1, .int x2] σ (qI K) := by
  refine ev_ov (by decide) (Nat.le_of_ble_eq_true rfl) ?_
  show AV l RX9 cX9_closeCode 3 (some .int) 3 (qI K) 0 [(0, .ref 0), (1, .int x1), (2, .int x2)] [] σ
  refine aw_aload_n (pc := 0) 0 dX9_closeCode_0 rfl ?_
  refine aw_iload_n (pc := 1) 1 dX9_closeCode_1 rfl ?_
  refine aw_iload_n (pc := 2) 2 dX9_closeCode_2 rfl ?_
  refine aw_callV (pc := 3) (As := [.int x1, .int x2]) (rest := []) kcX9 nn_0 ki_0 rfl (ev_X9_isPool l x1 x2 h) mfX9_isPool dX9_closeCode_3 lmX9_270 ⟨Nat.le_refl _, Nat.le_refl _⟩ (by decide) rfl rfl (Nat.le_of_ble_eq_true rfl) (nxI (fun r3_ τ3 h => ?_))
  refine aw_if_ne (pc := 6) 11 dX9_closeCode_6 (by decide) (fun q => ?_) (fun q => ?_)
  · have h := h.2 q
    refine aw_aload_n (pc := 11) 0 dX9_closeCode_11 rfl ?_
    refine aw_getR (pc := 12) 4 kcX9 dX9_closeCode_12 lfX9_44 nn_0 ki_0 (by decide) rfl rf_0_4 ?_
    refine aw_iload_n (pc := 15) 1 dX9_closeCode_15 rfl ?_
    refine aw_iload_n (pc := 16) 2 dX9_closeCode_16 rfl ?_
    refine aw_callVN (pc := 17) (As := [.int x1, .int x2]) (rest := []) kcX6 nn_55 ki_55 rfl (ev_X6_canClose l 55 sea_55 x1 x2 h) mfX6_canClose dX9_closeCode_17 lmnX9_385 ⟨Nat.le_refl _, Nat.le_refl _⟩ (by decide) rfl rfl (Nat.le_of_ble_eq_true rfl) (nxI (fun r17_ τ17 h => ?_))
    refine aw_if_eq (pc := 20) 27 dX9_closeCode_20 (by decide) (fun q => ?_) (fun q => ?_)
    · have h := h.1 q
      refine aw_bipush (pc := 27) (-2) dX9_closeCode_27 (by decide) ?_
      exact aw_iret (pc := 29) rfl dX9_closeCode_29 ⟨_, rfl, h⟩
    · have h := h.2 q
      refine aw_iconst (pc := 23) 0 dX9_closeCode_23 (by decide) ?_
      refine aw_goto (pc := 24) 29 dX9_closeCode_24 (by decide) ?_
      exact aw_iret (pc := 29) rfl dX9_closeCode_29 ⟨_, rfl, h⟩
  · have h := h.1 q
    refine aw_iconst (pc := 9) (-1) dX9_closeCode_9 (by decide) ?_
    exact aw_iret (pc := 10) rfl dX9_closeCode_10 ⟨_, rfl, h⟩
def wp_X9_deedCode (x1 : Int32) (σ : Sg) (K : Int32 → Sg → Prop) : Prop :=
  ∀ v11 : Int32, v11 = x1 * 5 → (vp_in v11 335 ∧ (br ((σ 54 v11.toNatClampNeg) = 0) (vp_in (v11 + 1) 335 ∧ (vp_in (v11 + 2) 335 ∧ (vp_in (v11 + 3) 335 ∧ (vp_in (v11 + 4) 335 ∧ (wp_X9_tieCode (σ 54 (v11 + 1).toNatClampNeg) (σ 54 (v11 + 2).toNatClampNeg) (σ 54 (v11 + 3).toNatClampNeg) (σ 54 (v11 + 4).toNatClampNeg) σ <| fun r61_ τ61 => (K r61_ τ61)))))) (br ((σ 54 v11.toNatClampNeg) = 1) (vp_in (v11 + 1) 335 ∧ (vp_in (v11 + 2) 335 ∧ (vp_in (v11 + 3) 335 ∧ (wp_X9_playCode (σ 54 (v11 + 1).toNatClampNeg) (σ 54 (v11 + 2).toNatClampNeg) (σ 54 (v11 + 3).toNatClampNeg) σ <| fun r81_ τ81 => (K r81_ τ81))))) (vp_in (v11 + 1) 335 ∧ (vp_in (v11 + 2) 335 ∧ (wp_X9_closeCode (σ 54 (v11 + 1).toNatClampNeg) (σ 54 (v11 + 2).toNatClampNeg) σ <| fun r96_ τ96 => (K r96_ τ96)))))))
set_option maxRecDepth 20000 in
set_option maxHeartbeats 2000000 in
theorem ev_X9_deedCode (l : Launch) (x1 : Int32) {σ : Sg} {K : Int32 → Sg → Prop} (h : wp_X9_deedCode x1 σ K) : Ev l yX9_deedCode cX9_deedCode 4 (some .int) 5 [.ref 0, .int x1] σ (qI K) := by
  refine ev_ov (by decide) (Nat.le_of_ble_eq_true rfl) ?_
  show AV l RX9 cX9_deedCode 4 (some .int) 5 (qI K) 0 [(0, .ref 0), (1, .int x1)] [] σ
  refine aw_aload_n (pc := 0) 0 dX9_deedCode_0 rfl ?_
  refine aw_getR (pc := 1) 3 kcX9 dX9_deedCode_1 lfX9_37 nn_0 ki_0 (by decide) rfl rf_0_3 ?_
  refine aw_getRN (pc := 4) 1 kcX1 dX9_deedCode_4 lfnX9_388 nn_53 ki_53 (by decide) rfl rf_53_1 ?_
  refine aw_astore_n (pc := 7) (i := 2) [(2, .ref 54), (0, .ref 0), (1, .int x1)] dX9_deedCode_7 rfl (by decide) rfl ?_
  refine aw_iload_n (pc := 8) 2 dX9_deedCode_8 rfl ?_
  refine aw_iconst (pc := 9) 5 dX9_deedCode_9 (by decide) ?_
  refine aw_imul (pc := 10) dX9_deedCode_10 ?_
  refine aw_topi (fun v11 ev11 => ?_)
  have h := h v11 ev11
  refine aw_istore_n (pc := 11) (i := 3) [(3, .int v11), (2, .ref 54), (0, .ref 0), (1, .int x1)] dX9_deedCode_11 rfl (by decide) rfl ?_
  refine aw_aload_n (pc := 12) 1 dX9_deedCode_12 rfl ?_
  refine aw_iload_n (pc := 13) 0 dX9_deedCode_13 rfl ?_
  refine aw_iald (pc := 14) (j := v11.toNatClampNeg) dX9_deedCode_14 nn_54 ki_54 ln_54 h.1 rfl ?_
  have h := h.2
  by_cases q0 : (σ 54 v11.toNatClampNeg) = 0
  · have h := h.1 q0
    refine aw_lookup (pc := 15) (off := 25) 40 dX9_deedCode_15 (by decide) (by rw [q0]; try rfl) (by decide) ?_
    refine aw_aload_n (pc := 40) 2 dX9_deedCode_40 rfl ?_
    refine aw_aload_n (pc := 41) 1 dX9_deedCode_41 rfl ?_
    refine aw_iload_n (pc := 42) 0 dX9_deedCode_42 rfl ?_
    refine aw_iconst (pc := 43) 1 dX9_deedCode_43 (by decide) ?_
    refine aw_iadd (pc := 44) dX9_deedCode_44 ?_
    refine aw_iald (pc := 45) (j := (v11 + 1).toNatClampNeg) dX9_deedCode_45 nn_54 ki_54 ln_54 h.1 rfl ?_
    have h := h.2
    refine aw_aload_n (pc := 46) 1 dX9_deedCode_46 rfl ?_
    refine aw_iload_n (pc := 47) 0 dX9_deedCode_47 rfl ?_
    refine aw_iconst (pc := 48) 2 dX9_deedCode_48 (by decide) ?_
    refine aw_iadd (pc := 49) dX9_deedCode_49 ?_
    refine aw_iald (pc := 50) (j := (v11 + 2).toNatClampNeg) dX9_deedCode_50 nn_54 ki_54 ln_54 h.1 rfl ?_
    have h := h.2
    refine aw_aload_n (pc := 51) 1 dX9_deedCode_51 rfl ?_
    refine aw_iload_n (pc := 52) 0 dX9_deedCode_52 rfl ?_
    refine aw_iconst (pc := 53) 3 dX9_deedCode_53 (by decide) ?_
    refine aw_iadd (pc := 54) dX9_deedCode_54 ?_
    refine aw_iald (pc := 55) (j := (v11 + 3).toNatClampNeg) dX9_deedCode_55 nn_54 ki_54 ln_54 h.1 rfl ?_
    have h := h.2
    refine aw_aload_n (pc := 56) 1 dX9_deedCode_56 rfl ?_
    refine aw_iload_n (pc := 57) 0 dX9_deedCode_57 rfl ?_
    refine aw_iconst (pc := 58) 4 dX9_deedCode_58 (by decide) ?_
    refine aw_iadd (pc := 59) dX9_deedCode_59 ?_
    refine aw_iald (pc := 60) (j := (v11 + 4).toNatClampNeg) dX9_deedCode_60 nn_54 ki_54 ln_54 h.1 rfl ?_
    have h := h.2
    refine aw_callV (pc := 61) (As := [.int (σ 54 (v11 + 1).toNatClampNeg), .int (σ 54 (v11 + 2).toNatClampNeg), .int (σ 54 (v11 + 3).toNatClampNeg), .int (σ 54 (v11 + 4).toNatClampNeg)]) (rest := []) kcX9 nn_0 ki_0 rfl (ev_X9_tieCode l (σ 54 (v11 + 1).toNatClampNeg) (σ 54 (v11 + 2).toNatClampNeg) (σ 54 (v11 + 3).toNatClampNeg) (σ 54 (v11 + 4).toNatClampNeg) h) mfX9_tieCode dX9_deedCode_61 lmX9_140 ⟨Nat.le_refl _, Nat.le_refl _⟩ (by decide) rfl rfl (Nat.le_of_ble_eq_true rfl) (nxI (fun r61_ τ61 h => ?_))
    exact aw_iret (pc := 64) rfl dX9_deedCode_64 ⟨_, rfl, h⟩
  · have h := h.2 q0
    by_cases q1 : (σ 54 v11.toNatClampNeg) = 1
    · have h := h.1 q1
      refine aw_lookup (pc := 15) (off := 50) 65 dX9_deedCode_15 (by decide) (by rw [q1]; try rfl) (by decide) ?_
      refine aw_aload_n (pc := 65) 2 dX9_deedCode_65 rfl ?_
      refine aw_aload_n (pc := 66) 1 dX9_deedCode_66 rfl ?_
      refine aw_iload_n (pc := 67) 0 dX9_deedCode_67 rfl ?_
      refine aw_iconst (pc := 68) 1 dX9_deedCode_68 (by decide) ?_
      refine aw_iadd (pc := 69) dX9_deedCode_69 ?_
      refine aw_iald (pc := 70) (j := (v11 + 1).toNatClampNeg) dX9_deedCode_70 nn_54 ki_54 ln_54 h.1 rfl ?_
      have h := h.2
      refine aw_aload_n (pc := 71) 1 dX9_deedCode_71 rfl ?_
      refine aw_iload_n (pc := 72) 0 dX9_deedCode_72 rfl ?_
      refine aw_iconst (pc := 73) 2 dX9_deedCode_73 (by decide) ?_
      refine aw_iadd (pc := 74) dX9_deedCode_74 ?_
      refine aw_iald (pc := 75) (j := (v11 + 2).toNatClampNeg) dX9_deedCode_75 nn_54 ki_54 ln_54 h.1 rfl ?_
      have h := h.2
      refine aw_aload_n (pc := 76) 1 dX9_deedCode_76 rfl ?_
      refine aw_iload_n (pc := 77) 0 dX9_deedCode_77 rfl ?_
      refine aw_iconst (pc := 78) 3 dX9_deedCode_78 (by decide) ?_
      refine aw_iadd (pc := 79) dX9_deedCode_79 ?_
      refine aw_iald (pc := 80) (j := (v11 + 3).toNatClampNeg) dX9_deedCode_80 nn_54 ki_54 ln_54 h.1 rfl ?_
      have h := h.2
      refine aw_callV (pc := 81) (As := [.int (σ 54 (v11 + 1).toNatClampNeg), .int (σ 54 (v11 + 2).toNatClampNeg), .int (σ 54 (v11 + 3).toNatClampNeg)]) (rest := []) kcX9 nn_0 ki_0 rfl (ev_X9_playCode l (σ 54 (v11 + 1).toNatClampNeg) (σ 54 (v11 + 2).toNatClampNeg) (σ 54 (v11 + 3).toNatClampNeg) h) mfX9_playCode dX9_deedCode_81 lmX9_151 ⟨Nat.le_refl _, Nat.le_refl _⟩ (by decide) rfl rfl (Nat.le_of_ble_eq_true rfl) (nxI (fun r81_ τ81 h => ?_))
      exact aw_iret (pc := 84) rfl dX9_deedCode_84 ⟨_, rfl, h⟩
    · have h := h.2 q1
      refine aw_lookup (pc := 15) (off := 70) 85 dX9_deedCode_15 (by decide) (by show Op.lookupswitch.offset [(0, 25), (1, 50)] 70 _ = _; rw [lv_osw (a := 0) q0 rfl, lv_osw (a := 1) q1 rfl]; try rfl) (by decide) ?_
      refine aw_aload_n (pc := 85) 2 dX9_deedCode_85 rfl ?_
      refine aw_aload_n (pc := 86) 1 dX9_deedCode_86 rfl ?_
      refine aw_iload_n (pc := 87) 0 dX9_deedCode_87 rfl ?_
      refine aw_iconst (pc := 88) 1 dX9_deedCode_88 (by decide) ?_
      refine aw_iadd (pc := 89) dX9_deedCode_89 ?_
      refine aw_iald (pc := 90) (j := (v11 + 1).toNatClampNeg) dX9_deedCode_90 nn_54 ki_54 ln_54 h.1 rfl ?_
      have h := h.2
      refine aw_aload_n (pc := 91) 1 dX9_deedCode_91 rfl ?_
      refine aw_iload_n (pc := 92) 0 dX9_deedCode_92 rfl ?_
      refine aw_iconst (pc := 93) 2 dX9_deedCode_93 (by decide) ?_
      refine aw_iadd (pc := 94) dX9_deedCode_94 ?_
      refine aw_iald (pc := 95) (j := (v11 + 2).toNatClampNeg) dX9_deedCode_95 nn_54 ki_54 ln_54 h.1 rfl ?_
      have h := h.2
      refine aw_callV (pc := 96) (As := [.int (σ 54 (v11 + 1).toNatClampNeg), .int (σ 54 (v11 + 2).toNatClampNeg)]) (rest := []) kcX9 nn_0 ki_0 rfl (ev_X9_closeCode l (σ 54 (v11 + 1).toNatClampNeg) (σ 54 (v11 + 2).toNatClampNeg) h) mfX9_closeCode dX9_deedCode_96 lmX9_163 ⟨Nat.le_refl _, Nat.le_refl _⟩ (by decide) rfl rfl (Nat.le_of_ble_eq_true rfl) (nxI (fun r96_ τ96 h => ?_))
      exact aw_iret (pc := 99) rfl dX9_deedCode_99 ⟨_, rfl, h⟩
def wp_X9_remember  (σ : Sg) (K : Sg → Prop) : Prop :=
  wp_X2_put  σ <| fun τ8 => (∀ τ16 : Sg, τ16 = up τ8 180 6 0 → (K τ16))
set_option maxRecDepth 20000 in
set_option maxHeartbeats 2000000 in
theorem ev_X9_remember (l : Launch)  {σ : Sg} {K : Sg → Prop} (h : wp_X9_remember  σ K) : Ev l yX9_remember cX9_remember 1 none 3 [.ref 0] σ (qV K) := by
  refine ev_ov (by decide) (Nat.le_of_ble_eq_true rfl) ?_
  show AV l RX9 cX9_remember 1 none 3 (qV K) 0 [(0, .ref 0)] [] σ
  refine aw_aload_n (pc := 0) 0 dX9_remember_0 rfl ?_
  refine aw_getR (pc := 1) 5 kcX9 dX9_remember_1 lfX9_51 nn_0 ki_0 (by decide) rfl rf_0_5 ?_
  refine aw_aload_n (pc := 4) 0 dX9_remember_4 rfl ?_
  refine aw_getR (pc := 5) 4 kcX9 dX9_remember_5 lfX9_44 nn_0 ki_0 (by decide) rfl rf_0_4 ?_
  refine aw_callVN (pc := 8) (As := [.ref 55]) (rest := []) kcX2 nn_63 ki_63 rfl (ev_X2_put l  h) mfX2_put dX9_remember_8 lmnX9_391 ⟨Nat.le_refl _, Nat.le_refl _⟩ (by decide) rfl rfl (Nat.le_of_ble_eq_true rfl) (nxV (fun τ8 h => ?_))
  refine aw_aload_n (pc := 11) 0 dX9_remember_11 rfl ?_
  refine aw_getR (pc := 12) 9 kcX9 dX9_remember_12 lfX9_73 nn_0 ki_0 (by decide) rfl rf_0_9 ?_
  refine aw_iconst (pc := 15) 0 dX9_remember_15 (by decide) ?_
  refine aw_putN (pc := 16) 6 kcX3 dX9_remember_16 lfnX9_107 nn_180 ki_180 (by decide) rfl rfl rfl rfl ?_
  refine aw_tops (fun τ16 eτ16 => ?_)
  have h := h τ16 eτ16
  exact aw_vret (pc := 19) rfl dX9_remember_19 ⟨rfl, h⟩
def wp_X9_carryOut (x1 : Int32) (σ : Sg) (K : Sg → Prop) : Prop :=
  ∀ v11 : Int32, v11 = x1 * 5 → (vp_in v11 335 ∧ (br ((σ 54 v11.toNatClampNeg) = 0) (vp_in (v11 + 1) 335 ∧ (vp_in (v11 + 2) 335 ∧ (vp_in (v11 + 3) 335 ∧ (vp_in (v11 + 4) 335 ∧ (wp_X6_addTie 55 (σ 54 (v11 + 1).toNatClampNeg) (σ 54 (v11 + 2).toNatClampNeg) (σ 54 (v11 + 3).toNatClampNeg) (σ 54 (v11 + 4).toNatClampNeg) σ <| fun τ64 => (K τ64)))))) (br ((σ 54 v11.toNatClampNeg) = 1) (vp_in (v11 + 1) 335 ∧ (vp_in (v11 + 2) 335 ∧ (vp_in (v11 + 3) 335 ∧ (wp_X6_addGame 55 (σ 54 (v11 + 1).toNatClampNeg) (σ 54 (v11 + 2).toNatClampNeg) (σ 54 (v11 + 3).toNatClampNeg) σ <| fun τ89 => (K τ89))))) (vp_in (v11 + 1) 335 ∧ (vp_in (v11 + 2) 335 ∧ (wp_X6_closeRound 55 (σ 54 (v11 + 1).toNatClampNeg) (σ 54 (v11 + 2).toNatClampNeg) σ <| fun τ109 => (K τ109)))))))
set_option maxRecDepth 20000 in
set_option maxHeartbeats 2000000 in
theorem ev_X9_carryOut (l : Launch) (x1 : Int32) {σ : Sg} {K : Sg → Prop} (h : wp_X9_carryOut x1 σ K) : Ev l yX9_carryOut cX9_carryOut 4 none 1 [.ref 0, .int x1] σ (qV K) := by
  refine ev_ov (by decide) (Nat.le_of_ble_eq_true rfl) ?_
  show AV l RX9 cX9_carryOut 4 none 1 (qV K) 0 [(0, .ref 0), (1, .int x1)] [] σ
  refine aw_aload_n (pc := 0) 0 dX9_carryOut_0 rfl ?_
  refine aw_getR (pc := 1) 3 kcX9 dX9_carryOut_1 lfX9_37 nn_0 ki_0 (by decide) rfl rf_0_3 ?_
  refine aw_getRN (pc := 4) 1 kcX1 dX9_carryOut_4 lfnX9_388 nn_53 ki_53 (by decide) rfl rf_53_1 ?_
  refine aw_astore_n (pc := 7) (i := 2) [(2, .ref 54), (0, .ref 0), (1, .int x1)] dX9_carryOut_7 rfl (by decide) rfl ?_
  refine aw_iload_n (pc := 8) 2 dX9_carryOut_8 rfl ?_
  refine aw_iconst (pc := 9) 5 dX9_carryOut_9 (by decide) ?_
  refine aw_imul (pc := 10) dX9_carryOut_10 ?_
  refine aw_topi (fun v11 ev11 => ?_)
  have h := h v11 ev11
  refine aw_istore_n (pc := 11) (i := 3) [(3, .int v11), (2, .ref 54), (0, .ref 0), (1, .int x1)] dX9_carryOut_11 rfl (by decide) rfl ?_
  refine aw_aload_n (pc := 12) 1 dX9_carryOut_12 rfl ?_
  refine aw_iload_n (pc := 13) 0 dX9_carryOut_13 rfl ?_
  refine aw_iald (pc := 14) (j := v11.toNatClampNeg) dX9_carryOut_14 nn_54 ki_54 ln_54 h.1 rfl ?_
  have h := h.2
  by_cases q0 : (σ 54 v11.toNatClampNeg) = 0
  · have h := h.1 q0
    refine aw_lookup (pc := 15) (off := 25) 40 dX9_carryOut_15 (by decide) (by rw [q0]; try rfl) (by decide) ?_
    refine aw_aload_n (pc := 40) 2 dX9_carryOut_40 rfl ?_
    refine aw_getR (pc := 41) 4 kcX9 dX9_carryOut_41 lfX9_44 nn_0 ki_0 (by decide) rfl rf_0_4 ?_
    refine aw_aload_n (pc := 44) 1 dX9_carryOut_44 rfl ?_
    refine aw_iload_n (pc := 45) 0 dX9_carryOut_45 rfl ?_
    refine aw_iconst (pc := 46) 1 dX9_carryOut_46 (by decide) ?_
    refine aw_iadd (pc := 47) dX9_carryOut_47 ?_
    refine aw_iald (pc := 48) (j := (v11 + 1).toNatClampNeg) dX9_carryOut_48 nn_54 ki_54 ln_54 h.1 rfl ?_
    have h := h.2
    refine aw_aload_n (pc := 49) 1 dX9_carryOut_49 rfl ?_
    refine aw_iload_n (pc := 50) 0 dX9_carryOut_50 rfl ?_
    refine aw_iconst (pc := 51) 2 dX9_carryOut_51 (by decide) ?_
    refine aw_iadd (pc := 52) dX9_carryOut_52 ?_
    refine aw_iald (pc := 53) (j := (v11 + 2).toNatClampNeg) dX9_carryOut_53 nn_54 ki_54 ln_54 h.1 rfl ?_
    have h := h.2
    refine aw_aload_n (pc := 54) 1 dX9_carryOut_54 rfl ?_
    refine aw_iload_n (pc := 55) 0 dX9_carryOut_55 rfl ?_
    refine aw_iconst (pc := 56) 3 dX9_carryOut_56 (by decide) ?_
    refine aw_iadd (pc := 57) dX9_carryOut_57 ?_
    refine aw_iald (pc := 58) (j := (v11 + 3).toNatClampNeg) dX9_carryOut_58 nn_54 ki_54 ln_54 h.1 rfl ?_
    have h := h.2
    refine aw_aload_n (pc := 59) 1 dX9_carryOut_59 rfl ?_
    refine aw_iload_n (pc := 60) 0 dX9_carryOut_60 rfl ?_
    refine aw_iconst (pc := 61) 4 dX9_carryOut_61 (by decide) ?_
    refine aw_iadd (pc := 62) dX9_carryOut_62 ?_
    refine aw_iald (pc := 63) (j := (v11 + 4).toNatClampNeg) dX9_carryOut_63 nn_54 ki_54 ln_54 h.1 rfl ?_
    have h := h.2
    refine aw_callVN (pc := 64) (As := [.int (σ 54 (v11 + 1).toNatClampNeg), .int (σ 54 (v11 + 2).toNatClampNeg), .int (σ 54 (v11 + 3).toNatClampNeg), .int (σ 54 (v11 + 4).toNatClampNeg)]) (rest := []) kcX6 nn_55 ki_55 rfl (ev_X6_addTie l 55 sea_55 (σ 54 (v11 + 1).toNatClampNeg) (σ 54 (v11 + 2).toNatClampNeg) (σ 54 (v11 + 3).toNatClampNeg) (σ 54 (v11 + 4).toNatClampNeg) h) mfX6_addTie dX9_carryOut_64 lmnX9_144 ⟨Nat.le_refl _, Nat.le_refl _⟩ (by decide) rfl rfl (Nat.le_of_ble_eq_true rfl) (nxV (fun τ64 h => ?_))
    refine aw_goto (pc := 67) 112 dX9_carryOut_67 (by decide) ?_
    exact aw_vret (pc := 112) rfl dX9_carryOut_112 ⟨rfl, h⟩
  · have h := h.2 q0
    by_cases q1 : (σ 54 v11.toNatClampNeg) = 1
    · have h := h.1 q1
      refine aw_lookup (pc := 15) (off := 55) 70 dX9_carryOut_15 (by decide) (by rw [q1]; try rfl) (by decide) ?_
      refine aw_aload_n (pc := 70) 2 dX9_carryOut_70 rfl ?_
      refine aw_getR (pc := 71) 4 kcX9 dX9_carryOut_71 lfX9_44 nn_0 ki_0 (by decide) rfl rf_0_4 ?_
      refine aw_aload_n (pc := 74) 1 dX9_carryOut_74 rfl ?_
      refine aw_iload_n (pc := 75) 0 dX9_carryOut_75 rfl ?_
      refine aw_iconst (pc := 76) 1 dX9_carryOut_76 (by decide) ?_
      refine aw_iadd (pc := 77) dX9_carryOut_77 ?_
      refine aw_iald (pc := 78) (j := (v11 + 1).toNatClampNeg) dX9_carryOut_78 nn_54 ki_54 ln_54 h.1 rfl ?_
      have h := h.2
      refine aw_aload_n (pc := 79) 1 dX9_carryOut_79 rfl ?_
      refine aw_iload_n (pc := 80) 0 dX9_carryOut_80 rfl ?_
      refine aw_iconst (pc := 81) 2 dX9_carryOut_81 (by decide) ?_
      refine aw_iadd (pc := 82) dX9_carryOut_82 ?_
      refine aw_iald (pc := 83) (j := (v11 + 2).toNatClampNeg) dX9_carryOut_83 nn_54 ki_54 ln_54 h.1 rfl ?_
      have h := h.2
      refine aw_aload_n (pc := 84) 1 dX9_carryOut_84 rfl ?_
      refine aw_iload_n (pc := 85) 0 dX9_carryOut_85 rfl ?_
      refine aw_iconst (pc := 86) 3 dX9_carryOut_86 (by decide) ?_
      refine aw_iadd (pc := 87) dX9_carryOut_87 ?_
      refine aw_iald (pc := 88) (j := (v11 + 3).toNatClampNeg) dX9_carryOut_88 nn_54 ki_54 ln_54 h.1 rfl ?_
      have h := h.2
      refine aw_callVN (pc := 89) (As := [.int (σ 54 (v11 + 1).toNatClampNeg), .int (σ 54 (v11 + 2).toNatClampNeg), .int (σ 54 (v11 + 3).toNatClampNeg)]) (rest := []) kcX6 nn_55 ki_55 rfl (ev_X6_addGame l 55 sea_55 (σ 54 (v11 + 1).toNatClampNeg) (σ 54 (v11 + 2).toNatClampNeg) (σ 54 (v11 + 3).toNatClampNeg) h) mfX6_addGame dX9_carryOut_89 lmnX9_155 ⟨Nat.le_refl _, Nat.le_refl _⟩ (by decide) rfl rfl (Nat.le_of_ble_eq_true rfl) (nxV (fun τ89 h => ?_))
      refine aw_goto (pc := 92) 112 dX9_carryOut_92 (by decide) ?_
      exact aw_vret (pc := 112) rfl dX9_carryOut_112 ⟨rfl, h⟩
    · have h := h.2 q1
      refine aw_lookup (pc := 15) (off := 80) 95 dX9_carryOut_15 (by decide) (by show Op.lookupswitch.offset [(0, 25), (1, 55)] 80 _ = _; rw [lv_osw (a := 0) q0 rfl, lv_osw (a := 1) q1 rfl]; try rfl) (by decide) ?_
      refine aw_aload_n (pc := 95) 2 dX9_carryOut_95 rfl ?_
      refine aw_getR (pc := 96) 4 kcX9 dX9_carryOut_96 lfX9_44 nn_0 ki_0 (by decide) rfl rf_0_4 ?_
      refine aw_aload_n (pc := 99) 1 dX9_carryOut_99 rfl ?_
      refine aw_iload_n (pc := 100) 0 dX9_carryOut_100 rfl ?_
      refine aw_iconst (pc := 101) 1 dX9_carryOut_101 (by decide) ?_
      refine aw_iadd (pc := 102) dX9_carryOut_102 ?_
      refine aw_iald (pc := 103) (j := (v11 + 1).toNatClampNeg) dX9_carryOut_103 nn_54 ki_54 ln_54 h.1 rfl ?_
      have h := h.2
      refine aw_aload_n (pc := 104) 1 dX9_carryOut_104 rfl ?_
      refine aw_iload_n (pc := 105) 0 dX9_carryOut_105 rfl ?_
      refine aw_iconst (pc := 106) 2 dX9_carryOut_106 (by decide) ?_
      refine aw_iadd (pc := 107) dX9_carryOut_107 ?_
      refine aw_iald (pc := 108) (j := (v11 + 2).toNatClampNeg) dX9_carryOut_108 nn_54 ki_54 ln_54 h.1 rfl ?_
      have h := h.2
      refine aw_callVN (pc := 109) (As := [.int (σ 54 (v11 + 1).toNatClampNeg), .int (σ 54 (v11 + 2).toNatClampNeg)]) (rest := []) kcX6 nn_55 ki_55 rfl (ev_X6_closeRound l 55 sea_55 (σ 54 (v11 + 1).toNatClampNeg) (σ 54 (v11 + 2).toNatClampNeg) h) mfX6_closeRound dX9_carryOut_109 lmnX9_167 ⟨Nat.le_refl _, Nat.le_refl _⟩ (by decide) rfl rfl (Nat.le_of_ble_eq_true rfl) (nxV (fun τ109 h => ?_))
      exact aw_vret (pc := 112) rfl dX9_carryOut_112 ⟨rfl, h⟩
def b_X9_deeds_58  (B31 : Int32 → Sg → Prop) (K : Int32 → Sg → Prop) (y2 : Int32) (σ : Sg) : Prop :=
  wp_X9_carryOut y2 σ <| fun τ60 => (∀ v63 : Int32, v63 = y2 + 1 → (B31 v63 τ60))
set_option maxRecDepth 20000 in
set_option maxHeartbeats 2000000 in
theorem bt_X9_deeds_58 (l : Launch)  {K : Int32 → Sg → Prop} (B31 : Int32 → Sg → Prop) (hB31 : ∀ (y2 : Int32)  (τ : Sg), B31 y2 τ → AV l RX9 cX9_deeds 3 (some .int) 10 (qI K) 31 [(0, .ref 0), (2, .int y2)] [] τ) (y2 : Int32)  (σ : Sg) (h : b_X9_deeds_58  B31 K y2 σ) : AV l RX9 cX9_deeds 3 (some .int) 10 (qI K) 58 [(0, .ref 0), (2, .int y2)] [] σ := by
  refine aw_aload_n (pc := 58) 0 dX9_deeds_58 rfl ?_
  refine aw_iload_n (pc := 59) 1 dX9_deeds_59 rfl ?_
  refine aw_callV (pc := 60) (As := [.int y2]) (rest := []) kcX9 nn_0 ki_0 rfl (ev_X9_carryOut l y2 h) mfX9_carryOut dX9_deeds_60 lmX9_130 ⟨Nat.le_refl _, Nat.le_refl _⟩ (by decide) rfl rfl (Nat.le_of_ble_eq_true rfl) (nxV (fun τ60 h => ?_))
  obtain ⟨v63, ev63⟩ : ∃ v : Int32, v = y2 + 1 := ⟨_, rfl⟩
  have h := h v63 ev63
  refine aw_iinc (pc := 63) 1 v63 [(2, .int v63), (0, .ref 0)] dX9_deeds_63 rfl (by rw [ev63]; rfl) (by decide) rfl ?_
  refine aw_goto (pc := 66) 31 dX9_deeds_66 (by decide) ?_
  refine aw_sub (L' := [(0, .ref 0), (2, .int v63)]) [1, 0] rfl ?_
  exact hB31 v63  _ h
def b_X9_deeds_31   (K : Int32 → Sg → Prop) : Nat → Int32 → Sg → Prop
  | 0, _, _ => False
  | n + 1, y2, σ =>
  br ((σ 53 2) ≤ y2) (K y2 σ) (wp_X9_deedCode y2 σ <| fun r44_ τ44 => (br (r44_ < 0) (K y2 τ44) (br (y2 = 0) (wp_X9_remember  τ44 <| fun τ55 => (b_X9_deeds_58  (fun y2' τ => b_X9_deeds_31   K n y2' τ) K y2 τ55)) (b_X9_deeds_58  (fun y2' τ => b_X9_deeds_31   K n y2' τ) K y2 τ44))))
set_option maxRecDepth 20000 in
set_option maxHeartbeats 2000000 in
theorem bt_X9_deeds_31 (l : Launch)  {K : Int32 → Sg → Prop}   : ∀ (n : Nat) (y2 : Int32)  (σ : Sg), b_X9_deeds_31   K n y2 σ → AV l RX9 cX9_deeds 3 (some .int) 10 (qI K) 31 [(0, .ref 0), (2, .int y2)] [] σ := by
  intro n
  induction n with
  | zero => intro y2 σ h; exact h.elim
  | succ n ih =>
    intro y2 σ h
    refine aw_iload_n (pc := 31) 1 dX9_deeds_31 rfl ?_
    refine aw_aload_n (pc := 32) 0 dX9_deeds_32 rfl ?_
    refine aw_getR (pc := 33) 3 kcX9 dX9_deeds_33 lfX9_37 nn_0 ki_0 (by decide) rfl rf_0_3 ?_
    refine aw_getIN (pc := 36) 2 kcX1 dX9_deeds_36 lfnX9_120 nn_53 ki_53 (by decide) rfl ?_
    refine aw_icmp_ge (pc := 39) 69 dX9_deeds_39 (by decide) (fun q => ?_) (fun q => ?_)
    · have h := h.1 q
      refine aw_iload_n (pc := 69) 1 dX9_deeds_69 rfl ?_
      exact aw_iret (pc := 70) rfl dX9_deeds_70 ⟨_, rfl, h⟩
    · have h := h.2 q
      refine aw_aload_n (pc := 42) 0 dX9_deeds_42 rfl ?_
      refine aw_iload_n (pc := 43) 1 dX9_deeds_43 rfl ?_
      refine aw_callV (pc := 44) (As := [.int y2]) (rest := []) kcX9 nn_0 ki_0 rfl (ev_X9_deedCode l y2 h) mfX9_deedCode dX9_deeds_44 lmX9_123 ⟨Nat.le_refl _, Nat.le_refl _⟩ (by decide) rfl rfl (Nat.le_of_ble_eq_true rfl) (nxI (fun r44_ τ44 h => ?_))
      refine aw_if_lt (pc := 47) 69 dX9_deeds_47 (by decide) (fun q => ?_) (fun q => ?_)
      · have h := h.1 q
        refine aw_iload_n (pc := 69) 1 dX9_deeds_69 rfl ?_
        exact aw_iret (pc := 70) rfl dX9_deeds_70 ⟨_, rfl, h⟩
      · have h := h.2 q
        refine aw_iload_n (pc := 50) 1 dX9_deeds_50 rfl ?_
        refine aw_if_ne (pc := 51) 58 dX9_deeds_51 (by decide) (fun q => ?_) (fun q => ?_)
        · have h := h.2 q
          exact bt_X9_deeds_58 l  (fun y2' τ => b_X9_deeds_31   K n y2' τ) (fun y2' τ h => ih y2' τ h) y2  _ h
        · have h := h.1 q
          refine aw_aload_n (pc := 54) 0 dX9_deeds_54 rfl ?_
          refine aw_callV (pc := 55) (As := []) (rest := []) kcX9 nn_0 ki_0 rfl (ev_X9_remember l  h) mfX9_remember dX9_deeds_55 lmX9_127 ⟨Nat.le_refl _, Nat.le_refl _⟩ (by decide) rfl rfl (Nat.le_of_ble_eq_true rfl) (nxV (fun τ55 h => ?_))
          exact bt_X9_deeds_58 l  (fun y2' τ => b_X9_deeds_31   K n y2' τ) (fun y2' τ h => ih y2' τ h) y2  _ h
def wp_X9_deeds  (σ : Sg) (K : Int32 → Sg → Prop) : Prop :=
  wp_X1_readDeeds  σ <| fun r4_ τ4 => (∀ τ13 : Sg, τ13 = up τ4 1 1 0 → (br (r4_ = 0) (K (-1) τ13) (wp_X9_hasBook  τ13 <| fun r21_ τ21 => (br (r21_ = 0) (K (-1) τ21) (∃ nf, b_X9_deeds_31   K nf 0 τ21)))))
set_option maxRecDepth 20000 in
set_option maxHeartbeats 2000000 in
theorem ev_X9_deeds (l : Launch)  {σ : Sg} {K : Int32 → Sg → Prop} (h : wp_X9_deeds  σ K) : Ev l yX9_deeds cX9_deeds 3 (some .int) 10 [.ref 0] σ (qI K) := by
  refine ev_ov (by decide) (Nat.le_of_ble_eq_true rfl) ?_
  show AV l RX9 cX9_deeds 3 (some .int) 10 (qI K) 0 [(0, .ref 0)] [] σ
  refine aw_aload_n (pc := 0) 0 dX9_deeds_0 rfl ?_
  refine aw_getR (pc := 1) 3 kcX9 dX9_deeds_1 lfX9_37 nn_0 ki_0 (by decide) rfl rf_0_3 ?_
  refine aw_callVN (pc := 4) (As := []) (rest := []) kcX1 nn_53 ki_53 rfl (ev_X1_readDeeds l  h) mfX1_readDeeds dX9_deeds_4 lmnX9_114 ⟨Nat.le_refl _, Nat.le_refl _⟩ (by decide) rfl rfl (Nat.le_of_ble_eq_true rfl) (nxI (fun r4_ τ4 h => ?_))
  refine aw_istore_n (pc := 7) (i := 1) [(1, .int r4_), (0, .ref 0)] dX9_deeds_7 rfl (by decide) rfl ?_
  refine aw_aload_n (pc := 8) 1 dX9_deeds_8 rfl ?_
  refine aw_getR (pc := 9) 0 kcX9 dX9_deeds_9 lfX9_12 nn_0 ki_0 (by decide) rfl rf_0_0 ?_
  refine aw_iconst (pc := 12) 0 dX9_deeds_12 (by decide) ?_
  refine aw_putN (pc := 13) 1 kcX4 dX9_deeds_13 lfnX9_88 nn_1 ki_1 (by decide) rfl rfl rfl rfl ?_
  refine aw_tops (fun τ13 eτ13 => ?_)
  have h := h τ13 eτ13
  refine aw_iload_n (pc := 16) 0 dX9_deeds_16 rfl ?_
  refine aw_if_eq (pc := 17) 27 dX9_deeds_17 (by decide) (fun q => ?_) (fun q => ?_)
  · have h := h.1 q
    refine aw_iconst (pc := 27) (-1) dX9_deeds_27 (by decide) ?_
    exact aw_iret (pc := 28) rfl dX9_deeds_28 ⟨_, rfl, h⟩
  · have h := h.2 q
    refine aw_aload_n (pc := 20) 1 dX9_deeds_20 rfl ?_
    refine aw_callV (pc := 21) (As := []) (rest := []) kcX9 nn_0 ki_0 rfl (ev_X9_hasBook l  h) mfX9_hasBook dX9_deeds_21 lmX9_117 ⟨Nat.le_refl _, Nat.le_refl _⟩ (by decide) rfl rfl (Nat.le_of_ble_eq_true rfl) (nxI (fun r21_ τ21 h => ?_))
    refine aw_if_ne (pc := 24) 29 dX9_deeds_24 (by decide) (fun q => ?_) (fun q => ?_)
    · have h := h.2 q
      refine aw_iconst (pc := 29) 0 dX9_deeds_29 (by decide) ?_
      refine aw_istore_n (pc := 30) (i := 2) [(2, .int 0), (1, .int r4_), (0, .ref 0)] dX9_deeds_30 rfl (by decide) rfl ?_
      refine aw_sub (L' := [(0, .ref 0), (2, .int 0)]) [2, 0] rfl ?_
      obtain ⟨nf, h⟩ := h
      exact bt_X9_deeds_31 l    nf 0  _ h
    · have h := h.1 q
      refine aw_iconst (pc := 27) (-1) dX9_deeds_27 (by decide) ?_
      exact aw_iret (pc := 28) rfl dX9_deeds_28 ⟨_, rfl, h⟩
def wp_X9_fault (x1 : Int32) (σ : Sg) (K : Int32 → Sg → Prop) : Prop :=
  br (x1 = 0) (K (σ 1 5) σ) (br (x1 = 1) (K (σ 1 6) σ) (K (-1) σ))
set_option maxRecDepth 20000 in
set_option maxHeartbeats 2000000 in
theorem ev_X9_fault (l : Launch) (x1 : Int32) {σ : Sg} {K : Int32 → Sg → Prop} (h : wp_X9_fault x1 σ K) : Ev l yX9_fault cX9_fault 2 (some .int) 0 [.ref 0, .int x1] σ (qI K) := by
  refine ev_ov (by decide) (Nat.le_of_ble_eq_true rfl) ?_
  show AV l RX9 cX9_fault 2 (some .int) 0 (qI K) 0 [(0, .ref 0), (1, .int x1)] [] σ
  refine aw_iload_n (pc := 0) 1 dX9_fault_0 rfl ?_
  refine aw_if_ne (pc := 1) 12 dX9_fault_1 (by decide) (fun q => ?_) (fun q => ?_)
  · have h := h.2 q
    refine aw_iload_n (pc := 12) 1 dX9_fault_12 rfl ?_
    refine aw_iconst (pc := 13) 1 dX9_fault_13 (by decide) ?_
    refine aw_icmp_ne (pc := 14) 27 dX9_fault_14 (by decide) (fun q => ?_) (fun q => ?_)
    · have h := h.2 q
      refine aw_iconst (pc := 27) (-1) dX9_fault_27 (by decide) ?_
      exact aw_iret (pc := 28) rfl dX9_fault_28 ⟨_, rfl, h⟩
    · have h := h.1 q
      refine aw_aload_n (pc := 17) 0 dX9_fault_17 rfl ?_
      refine aw_getR (pc := 18) 0 kcX9 dX9_fault_18 lfX9_12 nn_0 ki_0 (by decide) rfl rf_0_0 ?_
      refine aw_getIN (pc := 21) 6 kcX4 dX9_fault_21 lfnX9_137 nn_1 ki_1 (by decide) rfl ?_
      refine aw_goto (pc := 24) 28 dX9_fault_24 (by decide) ?_
      exact aw_iret (pc := 28) rfl dX9_fault_28 ⟨_, rfl, h⟩
  · have h := h.1 q
    refine aw_aload_n (pc := 4) 0 dX9_fault_4 rfl ?_
    refine aw_getR (pc := 5) 0 kcX9 dX9_fault_5 lfX9_12 nn_0 ki_0 (by decide) rfl rf_0_0 ?_
    refine aw_getIN (pc := 8) 5 kcX4 dX9_fault_8 lfnX9_134 nn_1 ki_1 (by decide) rfl ?_
    exact aw_iret (pc := 11) rfl dX9_fault_11 ⟨_, rfl, h⟩
def wp_X9_tie (x1 : Int32) (x2 : Int32) (x3 : Int32) (x4 : Int32) (σ : Sg) (K : Int32 → Sg → Prop) : Prop :=
  wp_X9_tieCode x1 x2 x3 x4 σ <| fun r6_ τ6 => (br (0 ≤ r6_) (wp_X9_remember  τ6 <| fun τ20 => (wp_X6_addTie 55 x1 x2 x3 x4 τ20 <| fun τ32 => (K ((τ32 55 0) - 1) τ32))) (K r6_ τ6))
set_option maxRecDepth 20000 in
set_option maxHeartbeats 2000000 in
theorem ev_X9_tie (l : Launch) (x1 : Int32) (x2 : Int32) (x3 : Int32) (x4 : Int32) {σ : Sg} {K : Int32 → Sg → Prop} (h : wp_X9_tie x1 x2 x3 x4 σ K) : Ev l yX9_tie cX9_tie 6 (some .int) 5 [.ref 0, .int x1, .int x2, .int x3, .int x4] σ (qI K) := by
  refine ev_ov (by decide) (Nat.le_of_ble_eq_true rfl) ?_
  show AV l RX9 cX9_tie 6 (some .int) 5 (qI K) 0 [(0, .ref 0), (1, .int x1), (2, .int x2), (3, .int x3), (4, .int x4)] [] σ
  refine aw_aload_n (pc := 0) 0 dX9_tie_0 rfl ?_
  refine aw_iload_n (pc := 1) 1 dX9_tie_1 rfl ?_
  refine aw_iload_n (pc := 2) 2 dX9_tie_2 rfl ?_
  refine aw_iload_n (pc := 3) 3 dX9_tie_3 rfl ?_
  refine aw_iload (pc := 4) 4 dX9_tie_4 rfl ?_
  refine aw_callV (pc := 6) (As := [.int x1, .int x2, .int x3, .int x4]) (rest := []) kcX9 nn_0 ki_0 rfl (ev_X9_tieCode l x1 x2 x3 x4 h) mfX9_tieCode dX9_tie_6 lmX9_140 ⟨Nat.le_refl _, Nat.le_refl _⟩ (by decide) rfl rfl (Nat.le_of_ble_eq_true rfl) (nxI (fun r6_ τ6 h => ?_))
  refine aw_istore (pc := 9) [(5, .int r6_), (0, .ref 0), (1, .int x1), (2, .int x2), (3, .int x3), (4, .int x4)] dX9_tie_9 (by decide) rfl ?_
  refine aw_iload (pc := 11) 0 dX9_tie_11 rfl ?_
  refine aw_if_ge (pc := 13) 19 dX9_tie_13 (by decide) (fun q => ?_) (fun q => ?_)
  · have h := h.1 q
    refine aw_aload_n (pc := 19) 1 dX9_tie_19 rfl ?_
    refine aw_callV (pc := 20) (As := []) (rest := []) kcX9 nn_0 ki_0 rfl (ev_X9_remember l  h) mfX9_remember dX9_tie_20 lmX9_127 ⟨Nat.le_refl _, Nat.le_refl _⟩ (by decide) rfl rfl (Nat.le_of_ble_eq_true rfl) (nxV (fun τ20 h => ?_))
    refine aw_aload_n (pc := 23) 1 dX9_tie_23 rfl ?_
    refine aw_getR (pc := 24) 4 kcX9 dX9_tie_24 lfX9_44 nn_0 ki_0 (by decide) rfl rf_0_4 ?_
    refine aw_iload_n (pc := 27) 2 dX9_tie_27 rfl ?_
    refine aw_iload_n (pc := 28) 3 dX9_tie_28 rfl ?_
    refine aw_iload_n (pc := 29) 4 dX9_tie_29 rfl ?_
    refine aw_iload (pc := 30) 5 dX9_tie_30 rfl ?_
    refine aw_callVN (pc := 32) (As := [.int x1, .int x2, .int x3, .int x4]) (rest := []) kcX6 nn_55 ki_55 rfl (ev_X6_addTie l 55 sea_55 x1 x2 x3 x4 h) mfX6_addTie dX9_tie_32 lmnX9_144 ⟨Nat.le_refl _, Nat.le_refl _⟩ (by decide) rfl rfl (Nat.le_of_ble_eq_true rfl) (nxV (fun τ32 h => ?_))
    refine aw_aload_n (pc := 35) 1 dX9_tie_35 rfl ?_
    refine aw_getR (pc := 36) 4 kcX9 dX9_tie_36 lfX9_44 nn_0 ki_0 (by decide) rfl rf_0_4 ?_
    refine aw_getIN (pc := 39) 0 kcX6 dX9_tie_39 lfnX9_148 nn_55 ki_55 (by decide) rfl ?_
    refine aw_iconst (pc := 42) 1 dX9_tie_42 (by decide) ?_
    refine aw_isub (pc := 43) dX9_tie_43 ?_
    exact aw_iret (pc := 44) rfl dX9_tie_44 ⟨_, rfl, h⟩
  · have h := h.2 q
    refine aw_iload (pc := 16) 0 dX9_tie_16 rfl ?_
    exact aw_iret (pc := 18) rfl dX9_tie_18 ⟨_, rfl, h⟩
def wp_X9_play (x1 : Int32) (x2 : Int32) (x3 : Int32) (σ : Sg) (K : Int32 → Sg → Prop) : Prop :=
  wp_X9_playCode x1 x2 x3 σ <| fun r4_ τ4 => (br (0 ≤ r4_) (wp_X9_remember  τ4 <| fun τ18 => (wp_X6_addGame 55 x1 x2 x3 τ18 <| fun τ28 => (vp_in x1 30 ∧ (K (τ28 60 x1.toNatClampNeg) τ28)))) (K r4_ τ4))
set_option maxRecDepth 20000 in
set_option maxHeartbeats 2000000 in
theorem ev_X9_play (l : Launch) (x1 : Int32) (x2 : Int32) (x3 : Int32) {σ : Sg} {K : Int32 → Sg → Prop} (h : wp_X9_play x1 x2 x3 σ K) : Ev l yX9_play cX9_play 5 (some .int) 4 [.ref 0, .int x1, .int x2, .int x3] σ (qI K) := by
  refine ev_ov (by decide) (Nat.le_of_ble_eq_true rfl) ?_
  show AV l RX9 cX9_play 5 (some .int) 4 (qI K) 0 [(0, .ref 0), (1, .int x1), (2, .int x2), (3, .int x3)] [] σ
  refine aw_aload_n (pc := 0) 0 dX9_play_0 rfl ?_
  refine aw_iload_n (pc := 1) 1 dX9_play_1 rfl ?_
  refine aw_iload_n (pc := 2) 2 dX9_play_2 rfl ?_
  refine aw_iload_n (pc := 3) 3 dX9_play_3 rfl ?_
  refine aw_callV (pc := 4) (As := [.int x1, .int x2, .int x3]) (rest := []) kcX9 nn_0 ki_0 rfl (ev_X9_playCode l x1 x2 x3 h) mfX9_playCode dX9_play_4 lmX9_151 ⟨Nat.le_refl _, Nat.le_refl _⟩ (by decide) rfl rfl (Nat.le_of_ble_eq_true rfl) (nxI (fun r4_ τ4 h => ?_))
  refine aw_istore (pc := 7) [(4, .int r4_), (0, .ref 0), (1, .int x1), (2, .int x2), (3, .int x3)] dX9_play_7 (by decide) rfl ?_
  refine aw_iload (pc := 9) 0 dX9_play_9 rfl ?_
  refine aw_if_ge (pc := 11) 17 dX9_play_11 (by decide) (fun q => ?_) (fun q => ?_)
  · have h := h.1 q
    refine aw_aload_n (pc := 17) 1 dX9_play_17 rfl ?_
    refine aw_callV (pc := 18) (As := []) (rest := []) kcX9 nn_0 ki_0 rfl (ev_X9_remember l  h) mfX9_remember dX9_play_18 lmX9_127 ⟨Nat.le_refl _, Nat.le_refl _⟩ (by decide) rfl rfl (Nat.le_of_ble_eq_true rfl) (nxV (fun τ18 h => ?_))
    refine aw_aload_n (pc := 21) 1 dX9_play_21 rfl ?_
    refine aw_getR (pc := 22) 4 kcX9 dX9_play_22 lfX9_44 nn_0 ki_0 (by decide) rfl rf_0_4 ?_
    refine aw_iload_n (pc := 25) 2 dX9_play_25 rfl ?_
    refine aw_iload_n (pc := 26) 3 dX9_play_26 rfl ?_
    refine aw_iload_n (pc := 27) 4 dX9_play_27 rfl ?_
    refine aw_callVN (pc := 28) (As := [.int x1, .int x2, .int x3]) (rest := []) kcX6 nn_55 ki_55 rfl (ev_X6_addGame l 55 sea_55 x1 x2 x3 h) mfX6_addGame dX9_play_28 lmnX9_155 ⟨Nat.le_refl _, Nat.le_refl _⟩ (by decide) rfl rfl (Nat.le_of_ble_eq_true rfl) (nxV (fun τ28 h => ?_))
    refine aw_aload_n (pc := 31) 1 dX9_play_31 rfl ?_
    refine aw_getR (pc := 32) 4 kcX9 dX9_play_32 lfX9_44 nn_0 ki_0 (by decide) rfl rf_0_4 ?_
    refine aw_getRN (pc := 35) 6 kcX6 dX9_play_35 lfnX9_159 nn_55 ki_55 (by decide) rfl rf_55_6 ?_
    refine aw_iload_n (pc := 38) 2 dX9_play_38 rfl ?_
    refine aw_iald (pc := 39) (j := x1.toNatClampNeg) dX9_play_39 nn_60 ki_60 ln_60 h.1 rfl ?_
    have h := h.2
    exact aw_iret (pc := 40) rfl dX9_play_40 ⟨_, rfl, h⟩
  · have h := h.2 q
    refine aw_iload (pc := 14) 0 dX9_play_14 rfl ?_
    exact aw_iret (pc := 16) rfl dX9_play_16 ⟨_, rfl, h⟩
def wp_X9_reckon  (σ : Sg) (K : Sg → Prop) : Prop :=
  br ((σ 180 6) = 0) (wp_X3_reckonAll  σ <| fun τ26 => (K τ26)) (K σ)
set_option maxRecDepth 20000 in
set_option maxHeartbeats 2000000 in
theorem ev_X9_reckon (l : Launch)  {σ : Sg} {K : Sg → Prop} (h : wp_X9_reckon  σ K) : Ev l yX9_reckon cX9_reckon 1 none 6 [.ref 0] σ (qV K) := by
  refine ev_ov (by decide) (Nat.le_of_ble_eq_true rfl) ?_
  show AV l RX9 cX9_reckon 1 none 6 (qV K) 0 [(0, .ref 0)] [] σ
  refine aw_aload_n (pc := 0) 0 dX9_reckon_0 rfl ?_
  refine aw_getR (pc := 1) 9 kcX9 dX9_reckon_1 lfX9_73 nn_0 ki_0 (by decide) rfl rf_0_9 ?_
  refine aw_getIN (pc := 4) 6 kcX3 dX9_reckon_4 lfnX9_107 nn_180 ki_180 (by decide) rfl ?_
  refine aw_if_ne (pc := 7) 29 dX9_reckon_7 (by decide) (fun q => ?_) (fun q => ?_)
  · have h := h.2 q
    exact aw_vret (pc := 29) rfl dX9_reckon_29 ⟨rfl, h⟩
  · have h := h.1 q
    refine aw_aload_n (pc := 10) 0 dX9_reckon_10 rfl ?_
    refine aw_getR (pc := 11) 9 kcX9 dX9_reckon_11 lfX9_73 nn_0 ki_0 (by decide) rfl rf_0_9 ?_
    refine aw_aload_n (pc := 14) 0 dX9_reckon_14 rfl ?_
    refine aw_getR (pc := 15) 1 kcX9 dX9_reckon_15 lfX9_21 nn_0 ki_0 (by decide) rfl rf_0_1 ?_
    refine aw_aload_n (pc := 18) 0 dX9_reckon_18 rfl ?_
    refine aw_getR (pc := 19) 4 kcX9 dX9_reckon_19 lfX9_44 nn_0 ki_0 (by decide) rfl rf_0_4 ?_
    refine aw_aload_n (pc := 22) 0 dX9_reckon_22 rfl ?_
    refine aw_getR (pc := 23) 8 kcX9 dX9_reckon_23 lfX9_66 nn_0 ki_0 (by decide) rfl rf_0_8 ?_
    refine aw_callVN (pc := 26) (As := [.ref 3, .ref 55, .ref 179]) (rest := []) kcX3 nn_180 ki_180 rfl (ev_X3_reckonAll l  h) mfX3_reckonAll dX9_reckon_26 lmnX9_352 ⟨Nat.le_refl _, Nat.le_refl _⟩ (by decide) rfl rfl (Nat.le_of_ble_eq_true rfl) (nxV (fun τ26 h => ?_))
    exact aw_vret (pc := 29) rfl dX9_reckon_29 ⟨rfl, h⟩
def wp_X9_close (x1 : Int32) (x2 : Int32) (σ : Sg) (K : Int32 → Sg → Prop) : Prop :=
  wp_X9_closeCode x1 x2 σ <| fun r3_ τ3 => (br (0 ≤ r3_) (wp_X9_remember  τ3 <| fun τ14 => (wp_X6_closeRound 55 x1 x2 τ14 <| fun τ23 => (wp_X9_reckon  τ23 <| fun τ27 => (vp_in ((x1 * 6) + x2) 24 ∧ (K (τ27 (199 + 1 + ((x1 * 6) + x2).toNatClampNeg) 2) τ27))))) (K r3_ τ3))
set_option maxRecDepth 20000 in
set_option maxHeartbeats 2000000 in
theorem ev_X9_close (l : Launch) (x1 : Int32) (x2 : Int32) {σ : Sg} {K : Int32 → Sg → Prop} (h : wp_X9_close x1 x2 σ K) : Ev l yX9_close cX9_close 4 (some .int) 7 [.ref 0, .int x1, .int x2] σ (qI K) := by
  refine ev_ov (by decide) (Nat.le_of_ble_eq_true rfl) ?_
  show AV l RX9 cX9_close 4 (some .int) 7 (qI K) 0 [(0, .ref 0), (1, .int x1), (2, .int x2)] [] σ
  refine aw_aload_n (pc := 0) 0 dX9_close_0 rfl ?_
  refine aw_iload_n (pc := 1) 1 dX9_close_1 rfl ?_
  refine aw_iload_n (pc := 2) 2 dX9_close_2 rfl ?_
  refine aw_callV (pc := 3) (As := [.int x1, .int x2]) (rest := []) kcX9 nn_0 ki_0 rfl (ev_X9_closeCode l x1 x2 h) mfX9_closeCode dX9_close_3 lmX9_163 ⟨Nat.le_refl _, Nat.le_refl _⟩ (by decide) rfl rfl (Nat.le_of_ble_eq_true rfl) (nxI (fun r3_ τ3 h => ?_))
  refine aw_istore_n (pc := 6) (i := 3) [(3, .int r3_), (0, .ref 0), (1, .int x1), (2, .int x2)] dX9_close_6 rfl (by decide) rfl ?_
  refine aw_iload_n (pc := 7) 0 dX9_close_7 rfl ?_
  refine aw_if_ge (pc := 8) 13 dX9_close_8 (by decide) (fun q => ?_) (fun q => ?_)
  · have h := h.1 q
    refine aw_aload_n (pc := 13) 1 dX9_close_13 rfl ?_
    refine aw_callV (pc := 14) (As := []) (rest := []) kcX9 nn_0 ki_0 rfl (ev_X9_remember l  h) mfX9_remember dX9_close_14 lmX9_127 ⟨Nat.le_refl _, Nat.le_refl _⟩ (by decide) rfl rfl (Nat.le_of_ble_eq_true rfl) (nxV (fun τ14 h => ?_))
    refine aw_aload_n (pc := 17) 1 dX9_close_17 rfl ?_
    refine aw_getR (pc := 18) 4 kcX9 dX9_close_18 lfX9_44 nn_0 ki_0 (by decide) rfl rf_0_4 ?_
    refine aw_iload_n (pc := 21) 2 dX9_close_21 rfl ?_
    refine aw_iload_n (pc := 22) 3 dX9_close_22 rfl ?_
    refine aw_callVN (pc := 23) (As := [.int x1, .int x2]) (rest := []) kcX6 nn_55 ki_55 rfl (ev_X6_closeRound l 55 sea_55 x1 x2 h) mfX6_closeRound dX9_close_23 lmnX9_167 ⟨Nat.le_refl _, Nat.le_refl _⟩ (by decide) rfl rfl (Nat.le_of_ble_eq_true rfl) (nxV (fun τ23 h => ?_))
    refine aw_aload_n (pc := 26) 1 dX9_close_26 rfl ?_
    refine aw_callV (pc := 27) (As := []) (rest := []) kcX9 nn_0 ki_0 rfl (ev_X9_reckon l  h) mfX9_reckon dX9_close_27 lmX9_171 ⟨Nat.le_refl _, Nat.le_refl _⟩ (by decide) rfl rfl (Nat.le_of_ble_eq_true rfl) (nxV (fun τ27 h => ?_))
    refine aw_aload_n (pc := 30) 1 dX9_close_30 rfl ?_
    refine aw_getR (pc := 31) 9 kcX9 dX9_close_31 lfX9_73 nn_0 ki_0 (by decide) rfl rf_0_9 ?_
    refine aw_getRN (pc := 34) 2 kcX3 dX9_close_34 lfnX9_174 nn_180 ki_180 (by decide) rfl rf_180_2 ?_
    refine aw_iload_n (pc := 37) 2 dX9_close_37 rfl ?_
    refine aw_bipush (pc := 38) 6 dX9_close_38 (by decide) ?_
    refine aw_imul (pc := 40) dX9_close_40 ?_
    refine aw_iload_n (pc := 41) 3 dX9_close_41 rfl ?_
    refine aw_iadd (pc := 42) dX9_close_42 ?_
    have hin43 := h.1
    have h := h.2
    refine aw_aldI (pc := 43) dX9_close_43 nn_199 ki_199 ln_199 hin43 (rf15 ki_199) ?_
    refine aw_iconst (pc := 44) 2 dX9_close_44 (by decide) ?_
    refine aw_iald (pc := 45) (j := 2) dX9_close_45 (row_199 _ (vp_lt hin43)).1 (row_199 _ (vp_lt hin43)).2.1 (row_199 _ (vp_lt hin43)).2.2 (show vp_in _ _ by unfold vp_in; decide) (by decide) ?_
    exact aw_iret (pc := 46) rfl dX9_close_46 ⟨_, rfl, h⟩
  · have h := h.2 q
    refine aw_iload_n (pc := 11) 0 dX9_close_11 rfl ?_
    exact aw_iret (pc := 12) rfl dX9_close_12 ⟨_, rfl, h⟩
def wp_X9_undo  (σ : Sg) (K : Int32 → Sg → Prop) : Prop :=
  wp_X9_hasBook  σ <| fun r1_ τ1 => (br (r1_ = 0) (K (-1) τ1) (br ((τ1 63 2) = 0) (K (-2) τ1) (wp_X2_takeBack  τ1 <| fun τ30 => (∀ τ38 : Sg, τ38 = up τ30 180 6 0 → (K (τ38 63 2) τ38)))))
set_option maxRecDepth 20000 in
set_option maxHeartbeats 2000000 in
theorem ev_X9_undo (l : Launch)  {σ : Sg} {K : Int32 → Sg → Prop} (h : wp_X9_undo  σ K) : Ev l yX9_undo cX9_undo 1 (some .int) 3 [.ref 0] σ (qI K) := by
  refine ev_ov (by decide) (Nat.le_of_ble_eq_true rfl) ?_
  show AV l RX9 cX9_undo 1 (some .int) 3 (qI K) 0 [(0, .ref 0)] [] σ
  refine aw_aload_n (pc := 0) 0 dX9_undo_0 rfl ?_
  refine aw_callV (pc := 1) (As := []) (rest := []) kcX9 nn_0 ki_0 rfl (ev_X9_hasBook l  h) mfX9_hasBook dX9_undo_1 lmX9_117 ⟨Nat.le_refl _, Nat.le_refl _⟩ (by decide) rfl rfl (Nat.le_of_ble_eq_true rfl) (nxI (fun r1_ τ1 h => ?_))
  refine aw_if_ne (pc := 4) 9 dX9_undo_4 (by decide) (fun q => ?_) (fun q => ?_)
  · have h := h.2 q
    refine aw_aload_n (pc := 9) 0 dX9_undo_9 rfl ?_
    refine aw_getR (pc := 10) 5 kcX9 dX9_undo_10 lfX9_51 nn_0 ki_0 (by decide) rfl rf_0_5 ?_
    refine aw_getIN (pc := 13) 2 kcX2 dX9_undo_13 lfnX9_178 nn_63 ki_63 (by decide) rfl ?_
    refine aw_if_ne (pc := 16) 22 dX9_undo_16 (by decide) (fun q => ?_) (fun q => ?_)
    · have h := h.2 q
      refine aw_aload_n (pc := 22) 0 dX9_undo_22 rfl ?_
      refine aw_getR (pc := 23) 5 kcX9 dX9_undo_23 lfX9_51 nn_0 ki_0 (by decide) rfl rf_0_5 ?_
      refine aw_aload_n (pc := 26) 0 dX9_undo_26 rfl ?_
      refine aw_getR (pc := 27) 4 kcX9 dX9_undo_27 lfX9_44 nn_0 ki_0 (by decide) rfl rf_0_4 ?_
      refine aw_callVN (pc := 30) (As := [.ref 55]) (rest := []) kcX2 nn_63 ki_63 rfl (ev_X2_takeBack l  h) mfX2_takeBack dX9_undo_30 lmnX9_179 ⟨Nat.le_refl _, Nat.le_refl _⟩ (by decide) rfl rfl (Nat.le_of_ble_eq_true rfl) (nxV (fun τ30 h => ?_))
      refine aw_aload_n (pc := 33) 0 dX9_undo_33 rfl ?_
      refine aw_getR (pc := 34) 9 kcX9 dX9_undo_34 lfX9_73 nn_0 ki_0 (by decide) rfl rf_0_9 ?_
      refine aw_iconst (pc := 37) 0 dX9_undo_37 (by decide) ?_
      refine aw_putN (pc := 38) 6 kcX3 dX9_undo_38 lfnX9_107 nn_180 ki_180 (by decide) rfl rfl rfl rfl ?_
      refine aw_tops (fun τ38 eτ38 => ?_)
      have h := h τ38 eτ38
      refine aw_aload_n (pc := 41) 0 dX9_undo_41 rfl ?_
      refine aw_getR (pc := 42) 5 kcX9 dX9_undo_42 lfX9_51 nn_0 ki_0 (by decide) rfl rf_0_5 ?_
      refine aw_getIN (pc := 45) 2 kcX2 dX9_undo_45 lfnX9_178 nn_63 ki_63 (by decide) rfl ?_
      exact aw_iret (pc := 48) rfl dX9_undo_48 ⟨_, rfl, h⟩
    · have h := h.1 q
      refine aw_bipush (pc := 19) (-2) dX9_undo_19 (by decide) ?_
      exact aw_iret (pc := 21) rfl dX9_undo_21 ⟨_, rfl, h⟩
  · have h := h.1 q
    refine aw_iconst (pc := 7) (-1) dX9_undo_7 (by decide) ?_
    exact aw_iret (pc := 8) rfl dX9_undo_8 ⟨_, rfl, h⟩
def wp_X9_keep (x1 : Int32) (σ : Sg) (K : Int32 → Sg → Prop) : Prop :=
  wp_X9_hasBook  σ <| fun r1_ τ1 => (br (r1_ = 0) (K 0 τ1) (br (x1 < 0) (K 0 τ1) (br (x1 < 2) (vp_in x1 2 ∧ (wp_X6_copyFrom (161 + 1 + 8 * x1.toNatClampNeg) 55 τ1 <| fun τ28 => (vp_in x1 2 ∧ (∀ τ37 : Sg, τ37 = up τ28 178 x1.toNatClampNeg 1 → (K 1 τ37))))) (K 0 τ1))))
set_option maxRecDepth 20000 in
set_option maxHeartbeats 2000000 in
theorem ev_X9_keep (l : Launch) (x1 : Int32) {σ : Sg} {K : Int32 → Sg → Prop} (h : wp_X9_keep x1 σ K) : Ev l yX9_keep cX9_keep 2 (some .boolean) 2 [.ref 0, .int x1] σ (qI K) := by
  refine ev_ov (by decide) (Nat.le_of_ble_eq_true rfl) ?_
  show AV l RX9 cX9_keep 2 (some .boolean) 2 (qI K) 0 [(0, .ref 0), (1, .int x1)] [] σ
  refine aw_aload_n (pc := 0) 0 dX9_keep_0 rfl ?_
  refine aw_callV (pc := 1) (As := []) (rest := []) kcX9 nn_0 ki_0 rfl (ev_X9_hasBook l  h) mfX9_hasBook dX9_keep_1 lmX9_117 ⟨Nat.le_refl _, Nat.le_refl _⟩ (by decide) rfl rfl (Nat.le_of_ble_eq_true rfl) (nxI (fun r1_ τ1 h => ?_))
  refine aw_if_eq (pc := 4) 16 dX9_keep_4 (by decide) (fun q => ?_) (fun q => ?_)
  · have h := h.1 q
    refine aw_iconst (pc := 16) 0 dX9_keep_16 (by decide) ?_
    exact aw_zret (pc := 17) rfl rfl dX9_keep_17 ⟨_, rfl, h⟩
  · have h := h.2 q
    refine aw_iload_n (pc := 7) 1 dX9_keep_7 rfl ?_
    refine aw_if_lt (pc := 8) 16 dX9_keep_8 (by decide) (fun q => ?_) (fun q => ?_)
    · have h := h.1 q
      refine aw_iconst (pc := 16) 0 dX9_keep_16 (by decide) ?_
      exact aw_zret (pc := 17) rfl rfl dX9_keep_17 ⟨_, rfl, h⟩
    · have h := h.2 q
      refine aw_iload_n (pc := 11) 1 dX9_keep_11 rfl ?_
      refine aw_iconst (pc := 12) 2 dX9_keep_12 (by decide) ?_
      refine aw_icmp_lt (pc := 13) 18 dX9_keep_13 (by decide) (fun q => ?_) (fun q => ?_)
      · have h := h.1 q
        refine aw_aload_n (pc := 18) 0 dX9_keep_18 rfl ?_
        refine aw_getR (pc := 19) 6 kcX9 dX9_keep_19 lfX9_55 nn_0 ki_0 (by decide) rfl rf_0_6 ?_
        refine aw_iload_n (pc := 22) 1 dX9_keep_22 rfl ?_
        have hin23 := h.1
        have h := h.2
        refine aw_aldS (pc := 23) dX9_keep_23 nn_161 ki_161 ln_161 hin23 (rf14 ki_161) ?_
        refine aw_aload_n (pc := 24) 0 dX9_keep_24 rfl ?_
        refine aw_getR (pc := 25) 4 kcX9 dX9_keep_25 lfX9_44 nn_0 ki_0 (by decide) rfl rf_0_4 ?_
        refine aw_callVN (pc := 28) (As := [.ref 55]) (rest := []) kcX6 (sea_nn (kept_mem _ (vp_lt hin23))) (sea_ki (kept_mem _ (vp_lt hin23))) rfl (ev_X6_copyFrom l (161 + 1 + 8 * x1.toNatClampNeg) (kept_mem _ (vp_lt hin23)) 55 sea_55 h) mfX6_copyFrom dX9_keep_28 lmnX9_183 ⟨Nat.le_refl _, Nat.le_refl _⟩ (by decide) rfl rfl (Nat.le_of_ble_eq_true rfl) (nxV (fun τ28 h => ?_))
        refine aw_aload_n (pc := 31) 0 dX9_keep_31 rfl ?_
        refine aw_getR (pc := 32) 7 kcX9 dX9_keep_32 lfX9_59 nn_0 ki_0 (by decide) rfl rf_0_7 ?_
        refine aw_iload_n (pc := 35) 1 dX9_keep_35 rfl ?_
        refine aw_iconst (pc := 36) 1 dX9_keep_36 (by decide) ?_
        refine aw_zast (pc := 37) (j := x1.toNatClampNeg) (v := 1) dX9_keep_37 nn_178 ki_178 ln_178 h.1 rfl rfl ?_
        have h := h.2
        refine aw_tops (fun τ37 eτ37 => ?_)
        have h := h τ37 eτ37
        refine aw_iconst (pc := 38) 1 dX9_keep_38 (by decide) ?_
        exact aw_zret (pc := 39) rfl rfl dX9_keep_39 ⟨_, rfl, h⟩
      · have h := h.2 q
        refine aw_iconst (pc := 16) 0 dX9_keep_16 (by decide) ?_
        exact aw_zret (pc := 17) rfl rfl dX9_keep_17 ⟨_, rfl, h⟩
def wp_X9_again (x1 : Int32) (σ : Sg) (K : Int32 → Sg → Prop) : Prop :=
  br (x1 < 0) (K 0 σ) (br (2 ≤ x1) (K 0 σ) (vp_in x1 2 ∧ (br ((σ 178 x1.toNatClampNeg) = 0) (K 0 σ) (wp_X9_remember  σ <| fun τ21 => (vp_in x1 2 ∧ (wp_X6_copyFrom 55 (161 + 1 + 8 * x1.toNatClampNeg) τ21 <| fun τ34 => (K 1 τ34)))))))
set_option maxRecDepth 20000 in
set_option maxHeartbeats 2000000 in
theorem ev_X9_again (l : Launch) (x1 : Int32) {σ : Sg} {K : Int32 → Sg → Prop} (h : wp_X9_again x1 σ K) : Ev l yX9_again cX9_again 2 (some .boolean) 4 [.ref 0, .int x1] σ (qI K) := by
  refine ev_ov (by decide) (Nat.le_of_ble_eq_true rfl) ?_
  show AV l RX9 cX9_again 2 (some .boolean) 4 (qI K) 0 [(0, .ref 0), (1, .int x1)] [] σ
  refine aw_iload_n (pc := 0) 1 dX9_again_0 rfl ?_
  refine aw_if_lt (pc := 1) 18 dX9_again_1 (by decide) (fun q => ?_) (fun q => ?_)
  · have h := h.1 q
    refine aw_iconst (pc := 18) 0 dX9_again_18 (by decide) ?_
    exact aw_zret (pc := 19) rfl rfl dX9_again_19 ⟨_, rfl, h⟩
  · have h := h.2 q
    refine aw_iload_n (pc := 4) 1 dX9_again_4 rfl ?_
    refine aw_iconst (pc := 5) 2 dX9_again_5 (by decide) ?_
    refine aw_icmp_ge (pc := 6) 18 dX9_again_6 (by decide) (fun q => ?_) (fun q => ?_)
    · have h := h.1 q
      refine aw_iconst (pc := 18) 0 dX9_again_18 (by decide) ?_
      exact aw_zret (pc := 19) rfl rfl dX9_again_19 ⟨_, rfl, h⟩
    · have h := h.2 q
      refine aw_aload_n (pc := 9) 0 dX9_again_9 rfl ?_
      refine aw_getR (pc := 10) 7 kcX9 dX9_again_10 lfX9_59 nn_0 ki_0 (by decide) rfl rf_0_7 ?_
      refine aw_iload_n (pc := 13) 1 dX9_again_13 rfl ?_
      refine aw_zald (pc := 14) (j := x1.toNatClampNeg) dX9_again_14 nn_178 ki_178 ln_178 h.1 rfl ?_
      have h := h.2
      refine aw_if_ne (pc := 15) 20 dX9_again_15 (by decide) (fun q => ?_) (fun q => ?_)
      · have h := h.2 q
        refine aw_aload_n (pc := 20) 0 dX9_again_20 rfl ?_
        refine aw_callV (pc := 21) (As := []) (rest := []) kcX9 nn_0 ki_0 rfl (ev_X9_remember l  h) mfX9_remember dX9_again_21 lmX9_127 ⟨Nat.le_refl _, Nat.le_refl _⟩ (by decide) rfl rfl (Nat.le_of_ble_eq_true rfl) (nxV (fun τ21 h => ?_))
        refine aw_aload_n (pc := 24) 0 dX9_again_24 rfl ?_
        refine aw_getR (pc := 25) 4 kcX9 dX9_again_25 lfX9_44 nn_0 ki_0 (by decide) rfl rf_0_4 ?_
        refine aw_aload_n (pc := 28) 0 dX9_again_28 rfl ?_
        refine aw_getR (pc := 29) 6 kcX9 dX9_again_29 lfX9_55 nn_0 ki_0 (by decide) rfl rf_0_6 ?_
        refine aw_iload_n (pc := 32) 1 dX9_again_32 rfl ?_
        have hin33 := h.1
        have h := h.2
        refine aw_aldS (pc := 33) dX9_again_33 nn_161 ki_161 ln_161 hin33 (rf14 ki_161) ?_
        refine aw_callVN (pc := 34) (As := [.ref (161 + 1 + 8 * x1.toNatClampNeg)]) (rest := []) kcX6 nn_55 ki_55 rfl (ev_X6_copyFrom l 55 sea_55 (161 + 1 + 8 * x1.toNatClampNeg) (kept_mem _ (vp_lt hin33)) h) mfX6_copyFrom dX9_again_34 lmnX9_183 ⟨Nat.le_refl _, Nat.le_refl _⟩ (by decide) rfl rfl (Nat.le_of_ble_eq_true rfl) (nxV (fun τ34 h => ?_))
        refine aw_iconst (pc := 37) 1 dX9_again_37 (by decide) ?_
        exact aw_zret (pc := 38) rfl rfl dX9_again_38 ⟨_, rfl, h⟩
      · have h := h.1 q
        refine aw_iconst (pc := 18) 0 dX9_again_18 (by decide) ?_
        exact aw_zret (pc := 19) rfl rfl dX9_again_19 ⟨_, rfl, h⟩
def b_X9_club_18 (x1 : Int32) (x2 : Int32)  (K : Int32 → Sg → Prop)  (σ : Sg) : Prop :=
  False
set_option maxRecDepth 20000 in
set_option maxHeartbeats 2000000 in
theorem bt_X9_club_18 (l : Launch) (x1 : Int32) (x2 : Int32) {K : Int32 → Sg → Prop}     (σ : Sg) (h : b_X9_club_18 x1 x2  K  σ) : AV l RX9 cX9_club 3 (some .int) 7 (qI K) 18 [] [] σ := by
  exact h.elim
def wp_X9_club (x1 : Int32) (x2 : Int32) (σ : Sg) (K : Int32 → Sg → Prop) : Prop :=
  wp_X9_isClub x1 σ <| fun r2_ τ2 => (br (r2_ = 0) (b_X9_club_18 x1 x2  K  τ2) (br (x2 < 0) (b_X9_club_18 x1 x2  K  τ2) (br (x2 < 12) (br (2 < x2) (wp_X9_reckon  τ2 <| fun τ46 => (vp_in x1 12 ∧ (vp_in x2 12 ∧ (K (τ46 (181 + 1 + x1.toNatClampNeg) x2.toNatClampNeg) τ46)))) (vp_in x1 12 ∧ (vp_in x2 3 ∧ (K (τ2 (4 + 1 + x1.toNatClampNeg) x2.toNatClampNeg) τ2)))) (b_X9_club_18 x1 x2  K  τ2))))
set_option maxRecDepth 20000 in
set_option maxHeartbeats 2000000 in
theorem ev_X9_club (l : Launch) (x1 : Int32) (x2 : Int32) {σ : Sg} {K : Int32 → Sg → Prop} (h : wp_X9_club x1 x2 σ K) : Ev l yX9_club cX9_club 3 (some .int) 7 [.ref 0, .int x1, .int x2] σ (qI K) := by
  refine ev_ov (by decide) (Nat.le_of_ble_eq_true rfl) ?_
  show AV l RX9 cX9_club 3 (some .int) 7 (qI K) 0 [(0, .ref 0), (1, .int x1), (2, .int x2)] [] σ
  refine aw_aload_n (pc := 0) 0 dX9_club_0 rfl ?_
  refine aw_iload_n (pc := 1) 1 dX9_club_1 rfl ?_
  refine aw_callV (pc := 2) (As := [.int x1]) (rest := []) kcX9 nn_0 ki_0 rfl (ev_X9_isClub l x1 h) mfX9_isClub dX9_club_2 lmX9_185 ⟨Nat.le_refl _, Nat.le_refl _⟩ (by decide) rfl rfl (Nat.le_of_ble_eq_true rfl) (nxI (fun r2_ τ2 h => ?_))
  refine aw_if_eq (pc := 5) 18 dX9_club_5 (by decide) (fun q => ?_) (fun q => ?_)
  · have h := h.1 q
    refine aw_sub (L' := []) [] rfl ?_
    exact bt_X9_club_18 l x1 x2     _ h
  · have h := h.2 q
    refine aw_iload_n (pc := 8) 2 dX9_club_8 rfl ?_
    refine aw_if_lt (pc := 9) 18 dX9_club_9 (by decide) (fun q => ?_) (fun q => ?_)
    · have h := h.1 q
      refine aw_sub (L' := []) [] rfl ?_
      exact bt_X9_club_18 l x1 x2     _ h
    · have h := h.2 q
      refine aw_iload_n (pc := 12) 2 dX9_club_12 rfl ?_
      refine aw_bipush (pc := 13) 12 dX9_club_13 (by decide) ?_
      refine aw_icmp_lt (pc := 15) 28 dX9_club_15 (by decide) (fun q => ?_) (fun q => ?_)
      · have h := h.1 q
        refine aw_iload_n (pc := 28) 2 dX9_club_28 rfl ?_
        refine aw_iconst (pc := 29) 2 dX9_club_29 (by decide) ?_
        refine aw_icmp_gt (pc := 30) 45 dX9_club_30 (by decide) (fun q => ?_) (fun q => ?_)
        · have h := h.1 q
          refine aw_aload_n (pc := 45) 0 dX9_club_45 rfl ?_
          refine aw_callV (pc := 46) (As := []) (rest := []) kcX9 nn_0 ki_0 rfl (ev_X9_reckon l  h) mfX9_reckon dX9_club_46 lmX9_171 ⟨Nat.le_refl _, Nat.le_refl _⟩ (by decide) rfl rfl (Nat.le_of_ble_eq_true rfl) (nxV (fun τ46 h => ?_))
          refine aw_aload_n (pc := 49) 0 dX9_club_49 rfl ?_
          refine aw_getR (pc := 50) 9 kcX9 dX9_club_50 lfX9_73 nn_0 ki_0 (by decide) rfl rf_0_9 ?_
          refine aw_getRN (pc := 53) 0 kcX3 dX9_club_53 lfnX9_198 nn_180 ki_180 (by decide) rfl rf_180_0 ?_
          refine aw_iload_n (pc := 56) 1 dX9_club_56 rfl ?_
          have hin57 := h.1
          have h := h.2
          refine aw_aldI (pc := 57) dX9_club_57 nn_181 ki_181 ln_181 hin57 (rf15 ki_181) ?_
          refine aw_iload_n (pc := 58) 2 dX9_club_58 rfl ?_
          refine aw_iald (pc := 59) (j := x2.toNatClampNeg) dX9_club_59 (row_181 _ (vp_lt hin57)).1 (row_181 _ (vp_lt hin57)).2.1 (row_181 _ (vp_lt hin57)).2.2 h.1 rfl ?_
          have h := h.2
          exact aw_iret (pc := 60) rfl dX9_club_60 ⟨_, rfl, h⟩
        · have h := h.2 q
          refine aw_aload_n (pc := 33) 0 dX9_club_33 rfl ?_
          refine aw_getR (pc := 34) 1 kcX9 dX9_club_34 lfX9_21 nn_0 ki_0 (by decide) rfl rf_0_1 ?_
          refine aw_getRN (pc := 37) 2 kcX5 dX9_club_37 lfnX9_195 nn_3 ki_3 (by decide) rfl rf_3_2 ?_
          refine aw_iload_n (pc := 40) 1 dX9_club_40 rfl ?_
          have hin41 := h.1
          have h := h.2
          refine aw_aldI (pc := 41) dX9_club_41 nn_4 ki_4 ln_4 hin41 (rf15 ki_4) ?_
          refine aw_iload_n (pc := 42) 2 dX9_club_42 rfl ?_
          refine aw_iald (pc := 43) (j := x2.toNatClampNeg) dX9_club_43 (row_4 _ (vp_lt hin41)).1 (row_4 _ (vp_lt hin41)).2.1 (row_4 _ (vp_lt hin41)).2.2 h.1 rfl ?_
          have h := h.2
          exact aw_iret (pc := 44) rfl dX9_club_44 ⟨_, rfl, h⟩
      · have h := h.2 q
        refine aw_sub (L' := []) [] rfl ?_
        exact bt_X9_club_18 l x1 x2     _ h
def wp_X9_cup (x1 : Int32) (x2 : Int32) (σ : Sg) (K : Int32 → Sg → Prop) : Prop :=
  wp_X9_isCup x1 σ <| fun r2_ τ2 => (br (r2_ = 0) (K (-1) τ2) (br (x2 < 0) (K (-1) τ2) (br (x2 < 14) (br (11 ≤ x2) (wp_X9_reckon  τ2 <| fun τ39 => (vp_in x1 4 ∧ (vp_in (x2 - 11) 3 ∧ (K (τ39 (194 + 1 + x1.toNatClampNeg) (x2 - 11).toNatClampNeg) τ39)))) (vp_in x1 4 ∧ (vp_in x2 11 ∧ (K (τ2 (17 + 1 + x1.toNatClampNeg) x2.toNatClampNeg) τ2)))) (K (-1) τ2))))
set_option maxRecDepth 20000 in
set_option maxHeartbeats 2000000 in
theorem ev_X9_cup (l : Launch) (x1 : Int32) (x2 : Int32) {σ : Sg} {K : Int32 → Sg → Prop} (h : wp_X9_cup x1 x2 σ K) : Ev l yX9_cup cX9_cup 3 (some .int) 7 [.ref 0, .int x1, .int x2] σ (qI K) := by
  refine ev_ov (by decide) (Nat.le_of_ble_eq_true rfl) ?_
  show AV l RX9 cX9_cup 3 (some .int) 7 (qI K) 0 [(0, .ref 0), (1, .int x1), (2, .int x2)] [] σ
  refine aw_aload_n (pc := 0) 0 dX9_cup_0 rfl ?_
  refine aw_iload_n (pc := 1) 1 dX9_cup_1 rfl ?_
  refine aw_callV (pc := 2) (As := [.int x1]) (rest := []) kcX9 nn_0 ki_0 rfl (ev_X9_isCup l x1 h) mfX9_isCup dX9_cup_2 lmX9_201 ⟨Nat.le_refl _, Nat.le_refl _⟩ (by decide) rfl rfl (Nat.le_of_ble_eq_true rfl) (nxI (fun r2_ τ2 h => ?_))
  refine aw_if_eq (pc := 5) 18 dX9_cup_5 (by decide) (fun q => ?_) (fun q => ?_)
  · have h := h.1 q
    refine aw_iconst (pc := 18) (-1) dX9_cup_18 (by decide) ?_
    exact aw_iret (pc := 19) rfl dX9_cup_19 ⟨_, rfl, h⟩
  · have h := h.2 q
    refine aw_iload_n (pc := 8) 2 dX9_cup_8 rfl ?_
    refine aw_if_lt (pc := 9) 18 dX9_cup_9 (by decide) (fun q => ?_) (fun q => ?_)
    · have h := h.1 q
      refine aw_iconst (pc := 18) (-1) dX9_cup_18 (by decide) ?_
      exact aw_iret (pc := 19) rfl dX9_cup_19 ⟨_, rfl, h⟩
    · have h := h.2 q
      refine aw_iload_n (pc := 12) 2 dX9_cup_12 rfl ?_
      refine aw_bipush (pc := 13) 14 dX9_cup_13 (by decide) ?_
      refine aw_icmp_lt (pc := 15) 20 dX9_cup_15 (by decide) (fun q => ?_) (fun q => ?_)
      · have h := h.1 q
        refine aw_iload_n (pc := 20) 2 dX9_cup_20 rfl ?_
        refine aw_bipush (pc := 21) 11 dX9_cup_21 (by decide) ?_
        refine aw_icmp_ge (pc := 23) 38 dX9_cup_23 (by decide) (fun q => ?_) (fun q => ?_)
        · have h := h.1 q
          refine aw_aload_n (pc := 38) 0 dX9_cup_38 rfl ?_
          refine aw_callV (pc := 39) (As := []) (rest := []) kcX9 nn_0 ki_0 rfl (ev_X9_reckon l  h) mfX9_reckon dX9_cup_39 lmX9_171 ⟨Nat.le_refl _, Nat.le_refl _⟩ (by decide) rfl rfl (Nat.le_of_ble_eq_true rfl) (nxV (fun τ39 h => ?_))
          refine aw_aload_n (pc := 42) 0 dX9_cup_42 rfl ?_
          refine aw_getR (pc := 43) 9 kcX9 dX9_cup_43 lfX9_73 nn_0 ki_0 (by decide) rfl rf_0_9 ?_
          refine aw_getRN (pc := 46) 1 kcX3 dX9_cup_46 lfnX9_207 nn_180 ki_180 (by decide) rfl rf_180_1 ?_
          refine aw_iload_n (pc := 49) 1 dX9_cup_49 rfl ?_
          have hin50 := h.1
          have h := h.2
          refine aw_aldI (pc := 50) dX9_cup_50 nn_194 ki_194 ln_194 hin50 (rf15 ki_194) ?_
          refine aw_iload_n (pc := 51) 2 dX9_cup_51 rfl ?_
          refine aw_bipush (pc := 52) 11 dX9_cup_52 (by decide) ?_
          refine aw_isub (pc := 54) dX9_cup_54 ?_
          refine aw_iald (pc := 55) (j := (x2 - 11).toNatClampNeg) dX9_cup_55 (row_194 _ (vp_lt hin50)).1 (row_194 _ (vp_lt hin50)).2.1 (row_194 _ (vp_lt hin50)).2.2 h.1 rfl ?_
          have h := h.2
          exact aw_iret (pc := 56) rfl dX9_cup_56 ⟨_, rfl, h⟩
        · have h := h.2 q
          refine aw_aload_n (pc := 26) 0 dX9_cup_26 rfl ?_
          refine aw_getR (pc := 27) 1 kcX9 dX9_cup_27 lfX9_21 nn_0 ki_0 (by decide) rfl rf_0_1 ?_
          refine aw_getRN (pc := 30) 3 kcX5 dX9_cup_30 lfnX9_204 nn_3 ki_3 (by decide) rfl rf_3_3 ?_
          refine aw_iload_n (pc := 33) 1 dX9_cup_33 rfl ?_
          have hin34 := h.1
          have h := h.2
          refine aw_aldI (pc := 34) dX9_cup_34 nn_17 ki_17 ln_17 hin34 (rf15 ki_17) ?_
          refine aw_iload_n (pc := 35) 2 dX9_cup_35 rfl ?_
          refine aw_iald (pc := 36) (j := x2.toNatClampNeg) dX9_cup_36 (row_17 _ (vp_lt hin34)).1 (row_17 _ (vp_lt hin34)).2.1 (row_17 _ (vp_lt hin34)).2.2 h.1 rfl ?_
          have h := h.2
          exact aw_iret (pc := 37) rfl dX9_cup_37 ⟨_, rfl, h⟩
      · have h := h.2 q
        refine aw_iconst (pc := 18) (-1) dX9_cup_18 (by decide) ?_
        exact aw_iret (pc := 19) rfl dX9_cup_19 ⟨_, rfl, h⟩
def wp_X9_splitGame (x1 : Int32) (x2 : Int32) (x3 : Int32) (x4 : Int32) (σ : Sg) (K : Sg → Prop) : Prop :=
  vp_in x1 30 ∧ (wp_X6_hostOf 55 x1 x3 σ <| fun r25_ τ25 => (wp_X6_guestOf 55 x1 x3 τ25 <| fun r34_ τ34 => (wp_X8_reckonGame x2 (σ 57 x1.toNatClampNeg) x3 r25_ r34_ x4 τ34 <| fun τ39 => (K τ39))))
set_option maxRecDepth 20000 in
set_option maxHeartbeats 2000000 in
theorem ev_X9_splitGame (l : Launch) (x1 : Int32) (x2 : Int32) (x3 : Int32) (x4 : Int32) {σ : Sg} {K : Sg → Prop} (h : wp_X9_splitGame x1 x2 x3 x4 σ K) : Ev l yX9_splitGame cX9_splitGame 5 none 3 [.ref 0, .int x1, .int x2, .int x3, .int x4] σ (qV K) := by
  refine ev_ov (by decide) (Nat.le_of_ble_eq_true rfl) ?_
  show AV l RX9 cX9_splitGame 5 none 3 (qV K) 0 [(0, .ref 0), (1, .int x1), (2, .int x2), (3, .int x3), (4, .int x4)] [] σ
  refine aw_aload_n (pc := 0) 0 dX9_splitGame_0 rfl ?_
  refine aw_getR (pc := 1) 8 kcX9 dX9_splitGame_1 lfX9_66 nn_0 ki_0 (by decide) rfl rf_0_8 ?_
  refine aw_aload_n (pc := 4) 0 dX9_splitGame_4 rfl ?_
  refine aw_getR (pc := 5) 1 kcX9 dX9_splitGame_5 lfX9_21 nn_0 ki_0 (by decide) rfl rf_0_1 ?_
  refine aw_iload_n (pc := 8) 2 dX9_splitGame_8 rfl ?_
  refine aw_aload_n (pc := 9) 0 dX9_splitGame_9 rfl ?_
  refine aw_getR (pc := 10) 4 kcX9 dX9_splitGame_10 lfX9_44 nn_0 ki_0 (by decide) rfl rf_0_4 ?_
  refine aw_getRN (pc := 13) 3 kcX6 dX9_splitGame_13 lfnX9_215 nn_55 ki_55 (by decide) rfl rf_55_3 ?_
  refine aw_iload_n (pc := 16) 1 dX9_splitGame_16 rfl ?_
  refine aw_iald (pc := 17) (j := x1.toNatClampNeg) dX9_splitGame_17 nn_57 ki_57 ln_57 h.1 rfl ?_
  have h := h.2
  refine aw_iload_n (pc := 18) 3 dX9_splitGame_18 rfl ?_
  refine aw_aload_n (pc := 19) 0 dX9_splitGame_19 rfl ?_
  refine aw_getR (pc := 20) 4 kcX9 dX9_splitGame_20 lfX9_44 nn_0 ki_0 (by decide) rfl rf_0_4 ?_
  refine aw_iload_n (pc := 23) 1 dX9_splitGame_23 rfl ?_
  refine aw_iload_n (pc := 24) 3 dX9_splitGame_24 rfl ?_
  refine aw_callVN (pc := 25) (As := [.int x1, .int x3]) (rest := [.int x3, .int (σ 57 x1.toNatClampNeg), .int x2, .ref 3, .ref 179]) kcX6 nn_55 ki_55 rfl (ev_X6_hostOf l 55 sea_55 x1 x3 h) mfX6_hostOf dX9_splitGame_25 lmnX9_243 ⟨Nat.le_refl _, Nat.le_refl _⟩ (by decide) rfl rfl (Nat.le_of_ble_eq_true rfl) (nxI (fun r25_ τ25 h => ?_))
  refine aw_aload_n (pc := 28) 0 dX9_splitGame_28 rfl ?_
  refine aw_getR (pc := 29) 4 kcX9 dX9_splitGame_29 lfX9_44 nn_0 ki_0 (by decide) rfl rf_0_4 ?_
  refine aw_iload_n (pc := 32) 1 dX9_splitGame_32 rfl ?_
  refine aw_iload_n (pc := 33) 3 dX9_splitGame_33 rfl ?_
  refine aw_callVN (pc := 34) (As := [.int x1, .int x3]) (rest := [.int r25_, .int x3, .int (σ 57 x1.toNatClampNeg), .int x2, .ref 3, .ref 179]) kcX6 nn_55 ki_55 rfl (ev_X6_guestOf l 55 sea_55 x1 x3 h) mfX6_guestOf dX9_splitGame_34 lmnX9_394 ⟨Nat.le_refl _, Nat.le_refl _⟩ (by decide) rfl rfl (Nat.le_of_ble_eq_true rfl) (nxI (fun r34_ τ34 h => ?_))
  refine aw_iload (pc := 37) 4 dX9_splitGame_37 rfl ?_
  refine aw_callVN (pc := 39) (As := [.ref 3, .int x2, .int (σ 57 x1.toNatClampNeg), .int x3, .int r25_, .int r34_, .int x4]) (rest := []) kcX8 nn_179 ki_179 rfl (ev_X8_reckonGame l x2 (σ 57 x1.toNatClampNeg) x3 r25_ r34_ x4 h) mfX8_reckonGame dX9_splitGame_39 lmnX9_397 ⟨Nat.le_refl _, Nat.le_refl _⟩ (by decide) rfl rfl (Nat.le_of_ble_eq_true rfl) (nxV (fun τ39 h => ?_))
  exact aw_vret (pc := 42) rfl dX9_splitGame_42 ⟨rfl, h⟩
def b_X9_hadOfTie_6 (x1 : Int32) (x2 : Int32) (x3 : Int32)  (K : Int32 → Sg → Prop) : Nat → Int32 → Int32 → Sg → Prop
  | 0, _, _, _ => False
  | n + 1, y4, y5, σ =>
  vp_in x1 30 ∧ (br ((σ 60 x1.toNatClampNeg) ≤ y5) (K y4 σ) (vp_in ((x1 * 4) + y5) 120 ∧ (wp_X9_splitGame x1 x2 y5 (σ 61 ((x1 * 4) + y5).toNatClampNeg) σ <| fun τ39 => (wp_X8_partOf x3 y5 τ39 <| fun r51_ τ51 => (∀ v55 : Int32, v55 = y4 + r51_ → (∀ v57 : Int32, v57 = y5 + 1 → (b_X9_hadOfTie_6 x1 x2 x3  K n v55 v57 τ51)))))))
set_option maxRecDepth 20000 in
set_option maxHeartbeats 2000000 in
theorem bt_X9_hadOfTie_6 (l : Launch) (x1 : Int32) (x2 : Int32) (x3 : Int32) {K : Int32 → Sg → Prop}   : ∀ (n : Nat) (y4 : Int32) (y5 : Int32)  (σ : Sg), b_X9_hadOfTie_6 x1 x2 x3  K n y4 y5 σ → AV l RX9 cX9_hadOfTie 6 (some .int) 4 (qI K) 6 [(0, .ref 0), (1, .int x1), (2, .int x2), (3, .int x3), (4, .int y4), (5, .int y5)] [] σ := by
  intro n
  induction n with
  | zero => intro y4 y5 σ h; exact h.elim
  | succ n ih =>
    intro y4 y5 σ h
    refine aw_iload (pc := 6) 5 dX9_hadOfTie_6 rfl ?_
    refine aw_aload_n (pc := 8) 0 dX9_hadOfTie_8 rfl ?_
    refine aw_getR (pc := 9) 4 kcX9 dX9_hadOfTie_9 lfX9_44 nn_0 ki_0 (by decide) rfl rf_0_4 ?_
    refine aw_getRN (pc := 12) 6 kcX6 dX9_hadOfTie_12 lfnX9_159 nn_55 ki_55 (by decide) rfl rf_55_6 ?_
    refine aw_iload_n (pc := 15) 1 dX9_hadOfTie_15 rfl ?_
    refine aw_iald (pc := 16) (j := x1.toNatClampNeg) dX9_hadOfTie_16 nn_60 ki_60 ln_60 h.1 rfl ?_
    have h := h.2
    refine aw_icmp_ge (pc := 17) 63 dX9_hadOfTie_17 (by decide) (fun q => ?_) (fun q => ?_)
    · have h := h.1 q
      refine aw_iload (pc := 63) 4 dX9_hadOfTie_63 rfl ?_
      exact aw_iret (pc := 65) rfl dX9_hadOfTie_65 ⟨_, rfl, h⟩
    · have h := h.2 q
      refine aw_aload_n (pc := 20) 0 dX9_hadOfTie_20 rfl ?_
      refine aw_iload_n (pc := 21) 1 dX9_hadOfTie_21 rfl ?_
      refine aw_iload_n (pc := 22) 2 dX9_hadOfTie_22 rfl ?_
      refine aw_iload (pc := 23) 5 dX9_hadOfTie_23 rfl ?_
      refine aw_aload_n (pc := 25) 0 dX9_hadOfTie_25 rfl ?_
      refine aw_getR (pc := 26) 4 kcX9 dX9_hadOfTie_26 lfX9_44 nn_0 ki_0 (by decide) rfl rf_0_4 ?_
      refine aw_getRN (pc := 29) 7 kcX6 dX9_hadOfTie_29 lfnX9_237 nn_55 ki_55 (by decide) rfl rf_55_7 ?_
      refine aw_iload_n (pc := 32) 1 dX9_hadOfTie_32 rfl ?_
      refine aw_iconst (pc := 33) 4 dX9_hadOfTie_33 (by decide) ?_
      refine aw_imul (pc := 34) dX9_hadOfTie_34 ?_
      refine aw_iload (pc := 35) 5 dX9_hadOfTie_35 rfl ?_
      refine aw_iadd (pc := 37) dX9_hadOfTie_37 ?_
      refine aw_iald (pc := 38) (j := ((x1 * 4) + y5).toNatClampNeg) dX9_hadOfTie_38 nn_61 ki_61 ln_61 h.1 rfl ?_
      have h := h.2
      refine aw_callV (pc := 39) (As := [.int x1, .int x2, .int y5, .int (σ 61 ((x1 * 4) + y5).toNatClampNeg)]) (rest := []) kcX9 nn_0 ki_0 rfl (ev_X9_splitGame l x1 x2 y5 (σ 61 ((x1 * 4) + y5).toNatClampNeg) h) mfX9_splitGame dX9_hadOfTie_39 lmX9_240 ⟨Nat.le_refl _, Nat.le_refl _⟩ (by decide) rfl rfl (Nat.le_of_ble_eq_true rfl) (nxV (fun τ39 h => ?_))
      refine aw_iload (pc := 42) 4 dX9_hadOfTie_42 rfl ?_
      refine aw_aload_n (pc := 44) 0 dX9_hadOfTie_44 rfl ?_
      refine aw_getR (pc := 45) 8 kcX9 dX9_hadOfTie_45 lfX9_66 nn_0 ki_0 (by decide) rfl rf_0_8 ?_
      refine aw_iload_n (pc := 48) 3 dX9_hadOfTie_48 rfl ?_
      refine aw_iload (pc := 49) 5 dX9_hadOfTie_49 rfl ?_
      refine aw_callVN (pc := 51) (As := [.int x3, .int y5]) (rest := [.int y4]) kcX8 nn_179 ki_179 rfl (ev_X8_partOf l x3 y5 h) mfX8_partOf dX9_hadOfTie_51 lmnX9_401 ⟨Nat.le_refl _, Nat.le_refl _⟩ (by decide) rfl rfl (Nat.le_of_ble_eq_true rfl) (nxI (fun r51_ τ51 h => ?_))
      refine aw_iadd (pc := 54) dX9_hadOfTie_54 ?_
      refine aw_topi (fun v55 ev55 => ?_)
      have h := h v55 ev55
      refine aw_istore (pc := 55) [(4, .int v55), (0, .ref 0), (1, .int x1), (2, .int x2), (3, .int x3), (5, .int y5)] dX9_hadOfTie_55 (by decide) rfl ?_
      obtain ⟨v57, ev57⟩ : ∃ v : Int32, v = y5 + 1 := ⟨_, rfl⟩
      have h := h v57 ev57
      refine aw_iinc (pc := 57) 5 v57 [(5, .int v57), (4, .int v55), (0, .ref 0), (1, .int x1), (2, .int x2), (3, .int x3)] dX9_hadOfTie_57 rfl (by rw [ev57]; rfl) (by decide) rfl ?_
      refine aw_goto (pc := 60) 6 dX9_hadOfTie_60 (by decide) ?_
      refine aw_sub (L' := [(0, .ref 0), (1, .int x1), (2, .int x2), (3, .int x3), (4, .int v55), (5, .int v57)]) [2, 3, 4, 5, 1, 0] rfl ?_
      exact ih v55 v57  _ h
def wp_X9_hadOfTie (x1 : Int32) (x2 : Int32) (x3 : Int32) (σ : Sg) (K : Int32 → Sg → Prop) : Prop :=
  ∃ nf, b_X9_hadOfTie_6 x1 x2 x3  K nf 0 0 σ
set_option maxRecDepth 20000 in
set_option maxHeartbeats 2000000 in
theorem ev_X9_hadOfTie (l : Launch) (x1 : Int32) (x2 : Int32) (x3 : Int32) {σ : Sg} {K : Int32 → Sg → Prop} (h : wp_X9_hadOfTie x1 x2 x3 σ K) : Ev l yX9_hadOfTie cX9_hadOfTie 6 (some .int) 4 [.ref 0, .int x1, .int x2, .int x3] σ (qI K) := by
  refine ev_ov (by decide) (Nat.le_of_ble_eq_true rfl) ?_
  show AV l RX9 cX9_hadOfTie 6 (some .int) 4 (qI K) 0 [(0, .ref 0), (1, .int x1), (2, .int x2), (3, .int x3)] [] σ
  refine aw_iconst (pc := 0) 0 dX9_hadOfTie_0 (by decide) ?_
  refine aw_istore (pc := 1) [(4, .int 0), (0, .ref 0), (1, .int x1), (2, .int x2), (3, .int x3)] dX9_hadOfTie_1 (by decide) rfl ?_
  refine aw_iconst (pc := 3) 0 dX9_hadOfTie_3 (by decide) ?_
  refine aw_istore (pc := 4) [(5, .int 0), (4, .int 0), (0, .ref 0), (1, .int x1), (2, .int x2), (3, .int x3)] dX9_hadOfTie_4 (by decide) rfl ?_
  refine aw_sub (L' := [(0, .ref 0), (1, .int x1), (2, .int x2), (3, .int x3), (4, .int 0), (5, .int 0)]) [2, 3, 4, 5, 1, 0] rfl ?_
  obtain ⟨nf, h⟩ := h
  exact bt_X9_hadOfTie_6 l x1 x2 x3   nf 0 0  _ h
def wp_X9_tieOf (x1 : Int32) (x2 : Int32) (σ : Sg) (K : Int32 → Sg → Prop) : Prop :=
  wp_X9_isTie x1 σ <| fun r2_ τ2 => (br (r2_ = 0) (K (-1) τ2) (br (x2 = 0) (vp_in x1 30 ∧ (K (τ2 56 x1.toNatClampNeg) τ2)) (br (x2 = 1) (vp_in x1 30 ∧ (K (τ2 57 x1.toNatClampNeg) τ2)) (br (x2 = 2) (vp_in x1 30 ∧ (K (τ2 58 x1.toNatClampNeg) τ2)) (br (x2 = 3) (vp_in x1 30 ∧ (K (τ2 59 x1.toNatClampNeg) τ2)) (br (x2 = 4) (vp_in x1 30 ∧ (K (τ2 60 x1.toNatClampNeg) τ2)) (br (x2 = 5) (wp_X6_winnerOf 55 x1 τ2 <| fun r119_ τ119 => (K r119_ τ119)) (br (x2 = 6) (wp_X6_gatesOf 55 x1 τ2 <| fun r128_ τ128 => (K r128_ τ128)) (br (x2 = 7) (vp_in x1 30 ∧ (wp_X9_hadOfTie x1 (τ2 56 x1.toNatClampNeg) 0 τ2 <| fun r144_ τ144 => (K r144_ τ144))) (br (x2 = 8) (vp_in x1 30 ∧ (wp_X9_hadOfTie x1 (τ2 56 x1.toNatClampNeg) 1 τ2 <| fun r160_ τ160 => (K r160_ τ160))) (br (x2 = 9) (vp_in x1 30 ∧ (wp_X9_hadOfTie x1 (τ2 56 x1.toNatClampNeg) 2 τ2 <| fun r176_ τ176 => (K r176_ τ176))) (K (-1) τ2))))))))))))
set_option maxRecDepth 20000 in
set_option maxHeartbeats 2000000 in
theorem ev_X9_tieOf (l : Launch) (x1 : Int32) (x2 : Int32) {σ : Sg} {K : Int32 → Sg → Prop} (h : wp_X9_tieOf x1 x2 σ K) : Ev l yX9_tieOf cX9_tieOf 3 (some .int) 5 [.ref 0, .int x1, .int x2] σ (qI K) := by
  refine ev_ov (by decide) (Nat.le_of_ble_eq_true rfl) ?_
  show AV l RX9 cX9_tieOf 3 (some .int) 5 (qI K) 0 [(0, .ref 0), (1, .int x1), (2, .int x2)] [] σ
  refine aw_aload_n (pc := 0) 0 dX9_tieOf_0 rfl ?_
  refine aw_iload_n (pc := 1) 1 dX9_tieOf_1 rfl ?_
  refine aw_callV (pc := 2) (As := [.int x1]) (rest := []) kcX9 nn_0 ki_0 rfl (ev_X9_isTie l x1 h) mfX9_isTie dX9_tieOf_2 lmX9_210 ⟨Nat.le_refl _, Nat.le_refl _⟩ (by decide) rfl rfl (Nat.le_of_ble_eq_true rfl) (nxI (fun r2_ τ2 h => ?_))
  refine aw_if_ne (pc := 5) 10 dX9_tieOf_5 (by decide) (fun q => ?_) (fun q => ?_)
  · have h := h.2 q
    refine aw_iload_n (pc := 10) 2 dX9_tieOf_10 rfl ?_
    by_cases q0 : x2 = 0
    · have h := h.1 q0
      refine aw_tableIn (pc := 11) 64 dX9_tieOf_11 (by rw [q0]; decide) (by rw [q0]; decide) (by rw [q0]; rfl) (by decide) ?_
      refine aw_aload_n (pc := 64) 0 dX9_tieOf_64 rfl ?_
      refine aw_getR (pc := 65) 4 kcX9 dX9_tieOf_65 lfX9_44 nn_0 ki_0 (by decide) rfl rf_0_4 ?_
      refine aw_getRN (pc := 68) 2 kcX6 dX9_tieOf_68 lfnX9_213 nn_55 ki_55 (by decide) rfl rf_55_2 ?_
      refine aw_iload_n (pc := 71) 1 dX9_tieOf_71 rfl ?_
      refine aw_iald (pc := 72) (j := x1.toNatClampNeg) dX9_tieOf_72 nn_56 ki_56 ln_56 h.1 rfl ?_
      have h := h.2
      exact aw_iret (pc := 73) rfl dX9_tieOf_73 ⟨_, rfl, h⟩
    · have h := h.2 q0
      by_cases q1 : x2 = 1
      · have h := h.1 q1
        refine aw_tableIn (pc := 11) 74 dX9_tieOf_11 (by rw [q1]; decide) (by rw [q1]; decide) (by rw [q1]; rfl) (by decide) ?_
        refine aw_aload_n (pc := 74) 0 dX9_tieOf_74 rfl ?_
        refine aw_getR (pc := 75) 4 kcX9 dX9_tieOf_75 lfX9_44 nn_0 ki_0 (by decide) rfl rf_0_4 ?_
        refine aw_getRN (pc := 78) 3 kcX6 dX9_tieOf_78 lfnX9_215 nn_55 ki_55 (by decide) rfl rf_55_3 ?_
        refine aw_iload_n (pc := 81) 1 dX9_tieOf_81 rfl ?_
        refine aw_iald (pc := 82) (j := x1.toNatClampNeg) dX9_tieOf_82 nn_57 ki_57 ln_57 h.1 rfl ?_
        have h := h.2
        exact aw_iret (pc := 83) rfl dX9_tieOf_83 ⟨_, rfl, h⟩
      · have h := h.2 q1
        by_cases q2 : x2 = 2
        · have h := h.1 q2
          refine aw_tableIn (pc := 11) 84 dX9_tieOf_11 (by rw [q2]; decide) (by rw [q2]; decide) (by rw [q2]; rfl) (by decide) ?_
          refine aw_aload_n (pc := 84) 0 dX9_tieOf_84 rfl ?_
          refine aw_getR (pc := 85) 4 kcX9 dX9_tieOf_85 lfX9_44 nn_0 ki_0 (by decide) rfl rf_0_4 ?_
          refine aw_getRN (pc := 88) 4 kcX6 dX9_tieOf_88 lfnX9_218 nn_55 ki_55 (by decide) rfl rf_55_4 ?_
          refine aw_iload_n (pc := 91) 1 dX9_tieOf_91 rfl ?_
          refine aw_iald (pc := 92) (j := x1.toNatClampNeg) dX9_tieOf_92 nn_58 ki_58 ln_58 h.1 rfl ?_
          have h := h.2
          exact aw_iret (pc := 93) rfl dX9_tieOf_93 ⟨_, rfl, h⟩
        · have h := h.2 q2
          by_cases q3 : x2 = 3
          · have h := h.1 q3
            refine aw_tableIn (pc := 11) 94 dX9_tieOf_11 (by rw [q3]; decide) (by rw [q3]; decide) (by rw [q3]; rfl) (by decide) ?_
            refine aw_aload_n (pc := 94) 0 dX9_tieOf_94 rfl ?_
            refine aw_getR (pc := 95) 4 kcX9 dX9_tieOf_95 lfX9_44 nn_0 ki_0 (by decide) rfl rf_0_4 ?_
            refine aw_getRN (pc := 98) 5 kcX6 dX9_tieOf_98 lfnX9_221 nn_55 ki_55 (by decide) rfl rf_55_5 ?_
            refine aw_iload_n (pc := 101) 1 dX9_tieOf_101 rfl ?_
            refine aw_iald (pc := 102) (j := x1.toNatClampNeg) dX9_tieOf_102 nn_59 ki_59 ln_59 h.1 rfl ?_
            have h := h.2
            exact aw_iret (pc := 103) rfl dX9_tieOf_103 ⟨_, rfl, h⟩
          · have h := h.2 q3
            by_cases q4 : x2 = 4
            · have h := h.1 q4
              refine aw_tableIn (pc := 11) 104 dX9_tieOf_11 (by rw [q4]; decide) (by rw [q4]; decide) (by rw [q4]; rfl) (by decide) ?_
              refine aw_aload_n (pc := 104) 0 dX9_tieOf_104 rfl ?_
              refine aw_getR (pc := 105) 4 kcX9 dX9_tieOf_105 lfX9_44 nn_0 ki_0 (by decide) rfl rf_0_4 ?_
              refine aw_getRN (pc := 108) 6 kcX6 dX9_tieOf_108 lfnX9_159 nn_55 ki_55 (by decide) rfl rf_55_6 ?_
              refine aw_iload_n (pc := 111) 1 dX9_tieOf_111 rfl ?_
              refine aw_iald (pc := 112) (j := x1.toNatClampNeg) dX9_tieOf_112 nn_60 ki_60 ln_60 h.1 rfl ?_
              have h := h.2
              exact aw_iret (pc := 113) rfl dX9_tieOf_113 ⟨_, rfl, h⟩
            · have h := h.2 q4
              by_cases q5 : x2 = 5
              · have h := h.1 q5
                refine aw_tableIn (pc := 11) 114 dX9_tieOf_11 (by rw [q5]; decide) (by rw [q5]; decide) (by rw [q5]; rfl) (by decide) ?_
                refine aw_aload_n (pc := 114) 0 dX9_tieOf_114 rfl ?_
                refine aw_getR (pc := 115) 4 kcX9 dX9_tieOf_115 lfX9_44 nn_0 ki_0 (by decide) rfl rf_0_4 ?_
                refine aw_iload_n (pc := 118) 1 dX9_tieOf_118 rfl ?_
                refine aw_callVN (pc := 119) (As := [.int x1]) (rest := []) kcX6 nn_55 ki_55 rfl (ev_X6_winnerOf l 55 sea_55 x1 h) mfX6_winnerOf dX9_tieOf_119 lmnX9_224 ⟨Nat.le_refl _, Nat.le_refl _⟩ (by decide) rfl rfl (Nat.le_of_ble_eq_true rfl) (nxI (fun r119_ τ119 h => ?_))
                exact aw_iret (pc := 122) rfl dX9_tieOf_122 ⟨_, rfl, h⟩
              · have h := h.2 q5
                by_cases q6 : x2 = 6
                · have h := h.1 q6
                  refine aw_tableIn (pc := 11) 123 dX9_tieOf_11 (by rw [q6]; decide) (by rw [q6]; decide) (by rw [q6]; rfl) (by decide) ?_
                  refine aw_aload_n (pc := 123) 0 dX9_tieOf_123 rfl ?_
                  refine aw_getR (pc := 124) 4 kcX9 dX9_tieOf_124 lfX9_44 nn_0 ki_0 (by decide) rfl rf_0_4 ?_
                  refine aw_iload_n (pc := 127) 1 dX9_tieOf_127 rfl ?_
                  refine aw_callVN (pc := 128) (As := [.int x1]) (rest := []) kcX6 nn_55 ki_55 rfl (ev_X6_gatesOf l 55 sea_55 x1 h) mfX6_gatesOf dX9_tieOf_128 lmnX9_227 ⟨Nat.le_refl _, Nat.le_refl _⟩ (by decide) rfl rfl (Nat.le_of_ble_eq_true rfl) (nxI (fun r128_ τ128 h => ?_))
                  exact aw_iret (pc := 131) rfl dX9_tieOf_131 ⟨_, rfl, h⟩
                · have h := h.2 q6
                  by_cases q7 : x2 = 7
                  · have h := h.1 q7
                    refine aw_tableIn (pc := 11) 132 dX9_tieOf_11 (by rw [q7]; decide) (by rw [q7]; decide) (by rw [q7]; rfl) (by decide) ?_
                    refine aw_aload_n (pc := 132) 0 dX9_tieOf_132 rfl ?_
                    refine aw_iload_n (pc := 133) 1 dX9_tieOf_133 rfl ?_
                    refine aw_aload_n (pc := 134) 0 dX9_tieOf_134 rfl ?_
                    refine aw_getR (pc := 135) 4 kcX9 dX9_tieOf_135 lfX9_44 nn_0 ki_0 (by decide) rfl rf_0_4 ?_
                    refine aw_getRN (pc := 138) 2 kcX6 dX9_tieOf_138 lfnX9_213 nn_55 ki_55 (by decide) rfl rf_55_2 ?_
                    refine aw_iload_n (pc := 141) 1 dX9_tieOf_141 rfl ?_
                    refine aw_iald (pc := 142) (j := x1.toNatClampNeg) dX9_tieOf_142 nn_56 ki_56 ln_56 h.1 rfl ?_
                    have h := h.2
                    refine aw_iconst (pc := 143) 0 dX9_tieOf_143 (by decide) ?_
                    refine aw_callV (pc := 144) (As := [.int x1, .int (τ2 56 x1.toNatClampNeg), .int 0]) (rest := []) kcX9 nn_0 ki_0 rfl (ev_X9_hadOfTie l x1 (τ2 56 x1.toNatClampNeg) 0 h) mfX9_hadOfTie dX9_tieOf_144 lmX9_230 ⟨Nat.le_refl _, Nat.le_refl _⟩ (by decide) rfl rfl (Nat.le_of_ble_eq_true rfl) (nxI (fun r144_ τ144 h => ?_))
                    exact aw_iret (pc := 147) rfl dX9_tieOf_147 ⟨_, rfl, h⟩
                  · have h := h.2 q7
                    by_cases q8 : x2 = 8
                    · have h := h.1 q8
                      refine aw_tableIn (pc := 11) 148 dX9_tieOf_11 (by rw [q8]; decide) (by rw [q8]; decide) (by rw [q8]; rfl) (by decide) ?_
                      refine aw_aload_n (pc := 148) 0 dX9_tieOf_148 rfl ?_
                      refine aw_iload_n (pc := 149) 1 dX9_tieOf_149 rfl ?_
                      refine aw_aload_n (pc := 150) 0 dX9_tieOf_150 rfl ?_
                      refine aw_getR (pc := 151) 4 kcX9 dX9_tieOf_151 lfX9_44 nn_0 ki_0 (by decide) rfl rf_0_4 ?_
                      refine aw_getRN (pc := 154) 2 kcX6 dX9_tieOf_154 lfnX9_213 nn_55 ki_55 (by decide) rfl rf_55_2 ?_
                      refine aw_iload_n (pc := 157) 1 dX9_tieOf_157 rfl ?_
                      refine aw_iald (pc := 158) (j := x1.toNatClampNeg) dX9_tieOf_158 nn_56 ki_56 ln_56 h.1 rfl ?_
                      have h := h.2
                      refine aw_iconst (pc := 159) 1 dX9_tieOf_159 (by decide) ?_
                      refine aw_callV (pc := 160) (As := [.int x1, .int (τ2 56 x1.toNatClampNeg), .int 1]) (rest := []) kcX9 nn_0 ki_0 rfl (ev_X9_hadOfTie l x1 (τ2 56 x1.toNatClampNeg) 1 h) mfX9_hadOfTie dX9_tieOf_160 lmX9_230 ⟨Nat.le_refl _, Nat.le_refl _⟩ (by decide) rfl rfl (Nat.le_of_ble_eq_true rfl) (nxI (fun r160_ τ160 h => ?_))
                      exact aw_iret (pc := 163) rfl dX9_tieOf_163 ⟨_, rfl, h⟩
                    · have h := h.2 q8
                      by_cases q9 : x2 = 9
                      · have h := h.1 q9
                        refine aw_tableIn (pc := 11) 164 dX9_tieOf_11 (by rw [q9]; decide) (by rw [q9]; decide) (by rw [q9]; rfl) (by decide) ?_
                        refine aw_aload_n (pc := 164) 0 dX9_tieOf_164 rfl ?_
                        refine aw_iload_n (pc := 165) 1 dX9_tieOf_165 rfl ?_
                        refine aw_aload_n (pc := 166) 0 dX9_tieOf_166 rfl ?_
                        refine aw_getR (pc := 167) 4 kcX9 dX9_tieOf_167 lfX9_44 nn_0 ki_0 (by decide) rfl rf_0_4 ?_
                        refine aw_getRN (pc := 170) 2 kcX6 dX9_tieOf_170 lfnX9_213 nn_55 ki_55 (by decide) rfl rf_55_2 ?_
                        refine aw_iload_n (pc := 173) 1 dX9_tieOf_173 rfl ?_
                        refine aw_iald (pc := 174) (j := x1.toNatClampNeg) dX9_tieOf_174 nn_56 ki_56 ln_56 h.1 rfl ?_
                        have h := h.2
                        refine aw_iconst (pc := 175) 2 dX9_tieOf_175 (by decide) ?_
                        refine aw_callV (pc := 176) (As := [.int x1, .int (τ2 56 x1.toNatClampNeg), .int 2]) (rest := []) kcX9 nn_0 ki_0 rfl (ev_X9_hadOfTie l x1 (τ2 56 x1.toNatClampNeg) 2 h) mfX9_hadOfTie dX9_tieOf_176 lmX9_230 ⟨Nat.le_refl _, Nat.le_refl _⟩ (by decide) rfl rfl (Nat.le_of_ble_eq_true rfl) (nxI (fun r176_ τ176 h => ?_))
                        exact aw_iret (pc := 179) rfl dX9_tieOf_179 ⟨_, rfl, h⟩
                      · have h := h.2 q9
                        have t0 := lv_neT (a := 0) q0 rfl
                        have t1 := lv_neT (a := 1) q1 rfl
                        have t2 := lv_neT (a := 2) q2 rfl
                        have t3 := lv_neT (a := 3) q3 rfl
                        have t4 := lv_neT (a := 4) q4 rfl
                        have t5 := lv_neT (a := 5) q5 rfl
                        have t6 := lv_neT (a := 6) q6 rfl
                        have t7 := lv_neT (a := 7) q7 rfl
                        have t8 := lv_neT (a := 8) q8 rfl
                        have t9 := lv_neT (a := 9) q9 rfl
                        refine aw_tableOut (pc := 11) 180 dX9_tieOf_11 (by omega) (by decide) ?_
                        refine aw_iconst (pc := 180) (-1) dX9_tieOf_180 (by decide) ?_
                        exact aw_iret (pc := 181) rfl dX9_tieOf_181 ⟨_, rfl, h⟩
  · have h := h.1 q
    refine aw_iconst (pc := 8) (-1) dX9_tieOf_8 (by decide) ?_
    exact aw_iret (pc := 9) rfl dX9_tieOf_9 ⟨_, rfl, h⟩
def wp_X9_isGame (x1 : Int32) (x2 : Int32) (σ : Sg) (K : Int32 → Sg → Prop) : Prop :=
  wp_X9_isTie x1 σ <| fun r2_ τ2 => (br (r2_ = 0) (K 0 τ2) (br (x2 < 0) (K 0 τ2) (vp_in x1 30 ∧ (br ((τ2 60 x1.toNatClampNeg) ≤ x2) (K 0 τ2) (K 1 τ2)))))
set_option maxRecDepth 20000 in
set_option maxHeartbeats 2000000 in
theorem ev_X9_isGame (l : Launch) (x1 : Int32) (x2 : Int32) {σ : Sg} {K : Int32 → Sg → Prop} (h : wp_X9_isGame x1 x2 σ K) : Ev l yX9_isGame cX9_isGame 3 (some .boolean) 1 [.ref 0, .int x1, .int x2] σ (qI K) := by
  refine ev_ov (by decide) (Nat.le_of_ble_eq_true rfl) ?_
  show AV l RX9 cX9_isGame 3 (some .boolean) 1 (qI K) 0 [(0, .ref 0), (1, .int x1), (2, .int x2)] [] σ
  refine aw_aload_n (pc := 0) 0 dX9_isGame_0 rfl ?_
  refine aw_iload_n (pc := 1) 1 dX9_isGame_1 rfl ?_
  refine aw_callV (pc := 2) (As := [.int x1]) (rest := []) kcX9 nn_0 ki_0 rfl (ev_X9_isTie l x1 h) mfX9_isTie dX9_isGame_2 lmX9_210 ⟨Nat.le_refl _, Nat.le_refl _⟩ (by decide) rfl rfl (Nat.le_of_ble_eq_true rfl) (nxI (fun r2_ τ2 h => ?_))
  refine aw_if_eq (pc := 5) 29 dX9_isGame_5 (by decide) (fun q => ?_) (fun q => ?_)
  · have h := h.1 q
    refine aw_iconst (pc := 29) 0 dX9_isGame_29 (by decide) ?_
    exact aw_zret (pc := 30) rfl rfl dX9_isGame_30 ⟨_, rfl, h⟩
  · have h := h.2 q
    refine aw_iload_n (pc := 8) 2 dX9_isGame_8 rfl ?_
    refine aw_if_lt (pc := 9) 29 dX9_isGame_9 (by decide) (fun q => ?_) (fun q => ?_)
    · have h := h.1 q
      refine aw_iconst (pc := 29) 0 dX9_isGame_29 (by decide) ?_
      exact aw_zret (pc := 30) rfl rfl dX9_isGame_30 ⟨_, rfl, h⟩
    · have h := h.2 q
      refine aw_iload_n (pc := 12) 2 dX9_isGame_12 rfl ?_
      refine aw_aload_n (pc := 13) 0 dX9_isGame_13 rfl ?_
      refine aw_getR (pc := 14) 4 kcX9 dX9_isGame_14 lfX9_44 nn_0 ki_0 (by decide) rfl rf_0_4 ?_
      refine aw_getRN (pc := 17) 6 kcX6 dX9_isGame_17 lfnX9_159 nn_55 ki_55 (by decide) rfl rf_55_6 ?_
      refine aw_iload_n (pc := 20) 1 dX9_isGame_20 rfl ?_
      refine aw_iald (pc := 21) (j := x1.toNatClampNeg) dX9_isGame_21 nn_60 ki_60 ln_60 h.1 rfl ?_
      have h := h.2
      refine aw_icmp_ge (pc := 22) 29 dX9_isGame_22 (by decide) (fun q => ?_) (fun q => ?_)
      · have h := h.1 q
        refine aw_iconst (pc := 29) 0 dX9_isGame_29 (by decide) ?_
        exact aw_zret (pc := 30) rfl rfl dX9_isGame_30 ⟨_, rfl, h⟩
      · have h := h.2 q
        refine aw_iconst (pc := 25) 1 dX9_isGame_25 (by decide) ?_
        refine aw_goto (pc := 26) 30 dX9_isGame_26 (by decide) ?_
        exact aw_zret (pc := 30) rfl rfl dX9_isGame_30 ⟨_, rfl, h⟩
def wp_X9_game (x1 : Int32) (x2 : Int32) (x3 : Int32) (σ : Sg) (K : Int32 → Sg → Prop) : Prop :=
  wp_X9_isGame x1 x2 σ <| fun r3_ τ3 => (br (r3_ = 0) (K (-1) τ3) (vp_in ((x1 * 4) + x2) 120 ∧ (∀ v24 : Int32, v24 = τ3 61 ((x1 * 4) + x2).toNatClampNeg → (vp_in x1 30 ∧ (wp_X9_splitGame x1 (τ3 56 x1.toNatClampNeg) x2 v24 τ3 <| fun τ40 => (br (x3 = 0) (K v24 τ40) (br (x3 = 1) (wp_X6_hostOf 55 x1 x2 τ40 <| fun r109_ τ109 => (K r109_ τ109)) (br (x3 = 2) (K (τ40 179 2) τ40) (br (x3 = 3) (K (τ40 179 3) τ40) (br (x3 = 4) (K (τ40 179 4) τ40) (br (x3 = 5) (K (τ40 179 5) τ40) (br (x3 = 6) (K (τ40 179 6) τ40) (br (x3 = 7) (K (τ40 179 7) τ40) (br (x3 = 8) (K (τ40 179 8) τ40) (br (x3 = 9) (vp_in ((x1 * 4) + x2) 120 ∧ (K (τ40 62 ((x1 * 4) + x2).toNatClampNeg) τ40)) (K (-1) τ40))))))))))))))))
set_option maxRecDepth 20000 in
set_option maxHeartbeats 2000000 in
theorem ev_X9_game (l : Launch) (x1 : Int32) (x2 : Int32) (x3 : Int32) {σ : Sg} {K : Int32 → Sg → Prop} (h : wp_X9_game x1 x2 x3 σ K) : Ev l yX9_game cX9_game 5 (some .int) 4 [.ref 0, .int x1, .int x2, .int x3] σ (qI K) := by
  refine ev_ov (by decide) (Nat.le_of_ble_eq_true rfl) ?_
  show AV l RX9 cX9_game 5 (some .int) 4 (qI K) 0 [(0, .ref 0), (1, .int x1), (2, .int x2), (3, .int x3)] [] σ
  refine aw_aload_n (pc := 0) 0 dX9_game_0 rfl ?_
  refine aw_iload_n (pc := 1) 1 dX9_game_1 rfl ?_
  refine aw_iload_n (pc := 2) 2 dX9_game_2 rfl ?_
  refine aw_callV (pc := 3) (As := [.int x1, .int x2]) (rest := []) kcX9 nn_0 ki_0 rfl (ev_X9_isGame l x1 x2 h) mfX9_isGame dX9_game_3 lmX9_233 ⟨Nat.le_refl _, Nat.le_refl _⟩ (by decide) rfl rfl (Nat.le_of_ble_eq_true rfl) (nxI (fun r3_ τ3 h => ?_))
  refine aw_if_ne (pc := 6) 11 dX9_game_6 (by decide) (fun q => ?_) (fun q => ?_)
  · have h := h.2 q
    refine aw_aload_n (pc := 11) 0 dX9_game_11 rfl ?_
    refine aw_getR (pc := 12) 4 kcX9 dX9_game_12 lfX9_44 nn_0 ki_0 (by decide) rfl rf_0_4 ?_
    refine aw_getRN (pc := 15) 7 kcX6 dX9_game_15 lfnX9_237 nn_55 ki_55 (by decide) rfl rf_55_7 ?_
    refine aw_iload_n (pc := 18) 1 dX9_game_18 rfl ?_
    refine aw_iconst (pc := 19) 4 dX9_game_19 (by decide) ?_
    refine aw_imul (pc := 20) dX9_game_20 ?_
    refine aw_iload_n (pc := 21) 2 dX9_game_21 rfl ?_
    refine aw_iadd (pc := 22) dX9_game_22 ?_
    refine aw_iald (pc := 23) (j := ((x1 * 4) + x2).toNatClampNeg) dX9_game_23 nn_61 ki_61 ln_61 h.1 rfl ?_
    have h := h.2
    refine aw_topi (fun v24 ev24 => ?_)
    have h := h v24 ev24
    refine aw_istore (pc := 24) [(4, .int v24), (0, .ref 0), (1, .int x1), (2, .int x2), (3, .int x3)] dX9_game_24 (by decide) rfl ?_
    refine aw_aload_n (pc := 26) 1 dX9_game_26 rfl ?_
    refine aw_iload_n (pc := 27) 2 dX9_game_27 rfl ?_
    refine aw_aload_n (pc := 28) 1 dX9_game_28 rfl ?_
    refine aw_getR (pc := 29) 4 kcX9 dX9_game_29 lfX9_44 nn_0 ki_0 (by decide) rfl rf_0_4 ?_
    refine aw_getRN (pc := 32) 2 kcX6 dX9_game_32 lfnX9_213 nn_55 ki_55 (by decide) rfl rf_55_2 ?_
    refine aw_iload_n (pc := 35) 2 dX9_game_35 rfl ?_
    refine aw_iald (pc := 36) (j := x1.toNatClampNeg) dX9_game_36 nn_56 ki_56 ln_56 h.1 rfl ?_
    have h := h.2
    refine aw_iload_n (pc := 37) 3 dX9_game_37 rfl ?_
    refine aw_iload (pc := 38) 0 dX9_game_38 rfl ?_
    refine aw_callV (pc := 40) (As := [.int x1, .int (τ3 56 x1.toNatClampNeg), .int x2, .int v24]) (rest := []) kcX9 nn_0 ki_0 rfl (ev_X9_splitGame l x1 (τ3 56 x1.toNatClampNeg) x2 v24 h) mfX9_splitGame dX9_game_40 lmX9_240 ⟨Nat.le_refl _, Nat.le_refl _⟩ (by decide) rfl rfl (Nat.le_of_ble_eq_true rfl) (nxV (fun τ40 h => ?_))
    refine aw_iload_n (pc := 43) 4 dX9_game_43 rfl ?_
    by_cases q0 : x3 = 0
    · have h := h.1 q0
      refine aw_tableIn (pc := 44) 100 dX9_game_44 (by rw [q0]; decide) (by rw [q0]; decide) (by rw [q0]; rfl) (by decide) ?_
      refine aw_iload (pc := 100) 0 dX9_game_100 rfl ?_
      exact aw_iret (pc := 102) rfl dX9_game_102 ⟨_, rfl, h⟩
    · have h := h.2 q0
      by_cases q1 : x3 = 1
      · have h := h.1 q1
        refine aw_tableIn (pc := 44) 103 dX9_game_44 (by rw [q1]; decide) (by rw [q1]; decide) (by rw [q1]; rfl) (by decide) ?_
        refine aw_aload_n (pc := 103) 1 dX9_game_103 rfl ?_
        refine aw_getR (pc := 104) 4 kcX9 dX9_game_104 lfX9_44 nn_0 ki_0 (by decide) rfl rf_0_4 ?_
        refine aw_iload_n (pc := 107) 2 dX9_game_107 rfl ?_
        refine aw_iload_n (pc := 108) 3 dX9_game_108 rfl ?_
        refine aw_callVN (pc := 109) (As := [.int x1, .int x2]) (rest := []) kcX6 nn_55 ki_55 rfl (ev_X6_hostOf l 55 sea_55 x1 x2 h) mfX6_hostOf dX9_game_109 lmnX9_243 ⟨Nat.le_refl _, Nat.le_refl _⟩ (by decide) rfl rfl (Nat.le_of_ble_eq_true rfl) (nxI (fun r109_ τ109 h => ?_))
        exact aw_iret (pc := 112) rfl dX9_game_112 ⟨_, rfl, h⟩
      · have h := h.2 q1
        by_cases q2 : x3 = 2
        · have h := h.1 q2
          refine aw_tableIn (pc := 44) 113 dX9_game_44 (by rw [q2]; decide) (by rw [q2]; decide) (by rw [q2]; rfl) (by decide) ?_
          refine aw_aload_n (pc := 113) 1 dX9_game_113 rfl ?_
          refine aw_getR (pc := 114) 8 kcX9 dX9_game_114 lfX9_66 nn_0 ki_0 (by decide) rfl rf_0_8 ?_
          refine aw_getIN (pc := 117) 2 kcX8 dX9_game_117 lfnX9_246 nn_179 ki_179 (by decide) rfl ?_
          exact aw_iret (pc := 120) rfl dX9_game_120 ⟨_, rfl, h⟩
        · have h := h.2 q2
          by_cases q3 : x3 = 3
          · have h := h.1 q3
            refine aw_tableIn (pc := 44) 121 dX9_game_44 (by rw [q3]; decide) (by rw [q3]; decide) (by rw [q3]; rfl) (by decide) ?_
            refine aw_aload_n (pc := 121) 1 dX9_game_121 rfl ?_
            refine aw_getR (pc := 122) 8 kcX9 dX9_game_122 lfX9_66 nn_0 ki_0 (by decide) rfl rf_0_8 ?_
            refine aw_getIN (pc := 125) 3 kcX8 dX9_game_125 lfnX9_249 nn_179 ki_179 (by decide) rfl ?_
            exact aw_iret (pc := 128) rfl dX9_game_128 ⟨_, rfl, h⟩
          · have h := h.2 q3
            by_cases q4 : x3 = 4
            · have h := h.1 q4
              refine aw_tableIn (pc := 44) 129 dX9_game_44 (by rw [q4]; decide) (by rw [q4]; decide) (by rw [q4]; rfl) (by decide) ?_
              refine aw_aload_n (pc := 129) 1 dX9_game_129 rfl ?_
              refine aw_getR (pc := 130) 8 kcX9 dX9_game_130 lfX9_66 nn_0 ki_0 (by decide) rfl rf_0_8 ?_
              refine aw_getIN (pc := 133) 4 kcX8 dX9_game_133 lfnX9_252 nn_179 ki_179 (by decide) rfl ?_
              exact aw_iret (pc := 136) rfl dX9_game_136 ⟨_, rfl, h⟩
            · have h := h.2 q4
              by_cases q5 : x3 = 5
              · have h := h.1 q5
                refine aw_tableIn (pc := 44) 137 dX9_game_44 (by rw [q5]; decide) (by rw [q5]; decide) (by rw [q5]; rfl) (by decide) ?_
                refine aw_aload_n (pc := 137) 1 dX9_game_137 rfl ?_
                refine aw_getR (pc := 138) 8 kcX9 dX9_game_138 lfX9_66 nn_0 ki_0 (by decide) rfl rf_0_8 ?_
                refine aw_getIN (pc := 141) 5 kcX8 dX9_game_141 lfnX9_255 nn_179 ki_179 (by decide) rfl ?_
                exact aw_iret (pc := 144) rfl dX9_game_144 ⟨_, rfl, h⟩
              · have h := h.2 q5
                by_cases q6 : x3 = 6
                · have h := h.1 q6
                  refine aw_tableIn (pc := 44) 145 dX9_game_44 (by rw [q6]; decide) (by rw [q6]; decide) (by rw [q6]; rfl) (by decide) ?_
                  refine aw_aload_n (pc := 145) 1 dX9_game_145 rfl ?_
                  refine aw_getR (pc := 146) 8 kcX9 dX9_game_146 lfX9_66 nn_0 ki_0 (by decide) rfl rf_0_8 ?_
                  refine aw_getIN (pc := 149) 6 kcX8 dX9_game_149 lfnX9_258 nn_179 ki_179 (by decide) rfl ?_
                  exact aw_iret (pc := 152) rfl dX9_game_152 ⟨_, rfl, h⟩
                · have h := h.2 q6
                  by_cases q7 : x3 = 7
                  · have h := h.1 q7
                    refine aw_tableIn (pc := 44) 153 dX9_game_44 (by rw [q7]; decide) (by rw [q7]; decide) (by rw [q7]; rfl) (by decide) ?_
                    refine aw_aload_n (pc := 153) 1 dX9_game_153 rfl ?_
                    refine aw_getR (pc := 154) 8 kcX9 dX9_game_154 lfX9_66 nn_0 ki_0 (by decide) rfl rf_0_8 ?_
                    refine aw_getIN (pc := 157) 7 kcX8 dX9_game_157 lfnX9_261 nn_179 ki_179 (by decide) rfl ?_
                    exact aw_iret (pc := 160) rfl dX9_game_160 ⟨_, rfl, h⟩
                  · have h := h.2 q7
                    by_cases q8 : x3 = 8
                    · have h := h.1 q8
                      refine aw_tableIn (pc := 44) 161 dX9_game_44 (by rw [q8]; decide) (by rw [q8]; decide) (by rw [q8]; rfl) (by decide) ?_
                      refine aw_aload_n (pc := 161) 1 dX9_game_161 rfl ?_
                      refine aw_getR (pc := 162) 8 kcX9 dX9_game_162 lfX9_66 nn_0 ki_0 (by decide) rfl rf_0_8 ?_
                      refine aw_getIN (pc := 165) 8 kcX8 dX9_game_165 lfnX9_264 nn_179 ki_179 (by decide) rfl ?_
                      exact aw_iret (pc := 168) rfl dX9_game_168 ⟨_, rfl, h⟩
                    · have h := h.2 q8
                      by_cases q9 : x3 = 9
                      · have h := h.1 q9
                        refine aw_tableIn (pc := 44) 169 dX9_game_44 (by rw [q9]; decide) (by rw [q9]; decide) (by rw [q9]; rfl) (by decide) ?_
                        refine aw_aload_n (pc := 169) 1 dX9_game_169 rfl ?_
                        refine aw_getR (pc := 170) 4 kcX9 dX9_game_170 lfX9_44 nn_0 ki_0 (by decide) rfl rf_0_4 ?_
                        refine aw_getRN (pc := 173) 8 kcX6 dX9_game_173 lfnX9_267 nn_55 ki_55 (by decide) rfl rf_55_8 ?_
                        refine aw_iload_n (pc := 176) 2 dX9_game_176 rfl ?_
                        refine aw_iconst (pc := 177) 4 dX9_game_177 (by decide) ?_
                        refine aw_imul (pc := 178) dX9_game_178 ?_
                        refine aw_iload_n (pc := 179) 3 dX9_game_179 rfl ?_
                        refine aw_iadd (pc := 180) dX9_game_180 ?_
                        refine aw_iald (pc := 181) (j := ((x1 * 4) + x2).toNatClampNeg) dX9_game_181 nn_62 ki_62 ln_62 h.1 rfl ?_
                        have h := h.2
                        exact aw_iret (pc := 182) rfl dX9_game_182 ⟨_, rfl, h⟩
                      · have h := h.2 q9
                        have t0 := lv_neT (a := 0) q0 rfl
                        have t1 := lv_neT (a := 1) q1 rfl
                        have t2 := lv_neT (a := 2) q2 rfl
                        have t3 := lv_neT (a := 3) q3 rfl
                        have t4 := lv_neT (a := 4) q4 rfl
                        have t5 := lv_neT (a := 5) q5 rfl
                        have t6 := lv_neT (a := 6) q6 rfl
                        have t7 := lv_neT (a := 7) q7 rfl
                        have t8 := lv_neT (a := 8) q8 rfl
                        have t9 := lv_neT (a := 9) q9 rfl
                        refine aw_tableOut (pc := 44) 183 dX9_game_44 (by omega) (by decide) ?_
                        refine aw_iconst (pc := 183) (-1) dX9_game_183 (by decide) ?_
                        exact aw_iret (pc := 184) rfl dX9_game_184 ⟨_, rfl, h⟩
  · have h := h.1 q
    refine aw_iconst (pc := 9) (-1) dX9_game_9 (by decide) ?_
    exact aw_iret (pc := 10) rfl dX9_game_10 ⟨_, rfl, h⟩
def wp_X9_pool (x1 : Int32) (x2 : Int32) (x3 : Int32) (σ : Sg) (K : Int32 → Sg → Prop) : Prop :=
  wp_X9_isPool x1 x2 σ <| fun r3_ τ3 => (br (r3_ = 0) (K (-1) τ3) (br (x3 < 0) (K (-1) τ3) (br (x3 < 7) (wp_X9_reckon  τ3 <| fun τ22 => (vp_in ((x1 * 6) + x2) 24 ∧ (vp_in x3 7 ∧ (K (τ22 (199 + 1 + ((x1 * 6) + x2).toNatClampNeg) x3.toNatClampNeg) τ22)))) (K (-1) τ3))))
set_option maxRecDepth 20000 in
set_option maxHeartbeats 2000000 in
theorem ev_X9_pool (l : Launch) (x1 : Int32) (x2 : Int32) (x3 : Int32) {σ : Sg} {K : Int32 → Sg → Prop} (h : wp_X9_pool x1 x2 x3 σ K) : Ev l yX9_pool cX9_pool 4 (some .int) 7 [.ref 0, .int x1, .int x2, .int x3] σ (qI K) := by
  refine ev_ov (by decide) (Nat.le_of_ble_eq_true rfl) ?_
  show AV l RX9 cX9_pool 4 (some .int) 7 (qI K) 0 [(0, .ref 0), (1, .int x1), (2, .int x2), (3, .int x3)] [] σ
  refine aw_aload_n (pc := 0) 0 dX9_pool_0 rfl ?_
  refine aw_iload_n (pc := 1) 1 dX9_pool_1 rfl ?_
  refine aw_iload_n (pc := 2) 2 dX9_pool_2 rfl ?_
  refine aw_callV (pc := 3) (As := [.int x1, .int x2]) (rest := []) kcX9 nn_0 ki_0 rfl (ev_X9_isPool l x1 x2 h) mfX9_isPool dX9_pool_3 lmX9_270 ⟨Nat.le_refl _, Nat.le_refl _⟩ (by decide) rfl rfl (Nat.le_of_ble_eq_true rfl) (nxI (fun r3_ τ3 h => ?_))
  refine aw_if_eq (pc := 6) 19 dX9_pool_6 (by decide) (fun q => ?_) (fun q => ?_)
  · have h := h.1 q
    refine aw_iconst (pc := 19) (-1) dX9_pool_19 (by decide) ?_
    exact aw_iret (pc := 20) rfl dX9_pool_20 ⟨_, rfl, h⟩
  · have h := h.2 q
    refine aw_iload_n (pc := 9) 3 dX9_pool_9 rfl ?_
    refine aw_if_lt (pc := 10) 19 dX9_pool_10 (by decide) (fun q => ?_) (fun q => ?_)
    · have h := h.1 q
      refine aw_iconst (pc := 19) (-1) dX9_pool_19 (by decide) ?_
      exact aw_iret (pc := 20) rfl dX9_pool_20 ⟨_, rfl, h⟩
    · have h := h.2 q
      refine aw_iload_n (pc := 13) 3 dX9_pool_13 rfl ?_
      refine aw_bipush (pc := 14) 7 dX9_pool_14 (by decide) ?_
      refine aw_icmp_lt (pc := 16) 21 dX9_pool_16 (by decide) (fun q => ?_) (fun q => ?_)
      · have h := h.1 q
        refine aw_aload_n (pc := 21) 0 dX9_pool_21 rfl ?_
        refine aw_callV (pc := 22) (As := []) (rest := []) kcX9 nn_0 ki_0 rfl (ev_X9_reckon l  h) mfX9_reckon dX9_pool_22 lmX9_171 ⟨Nat.le_refl _, Nat.le_refl _⟩ (by decide) rfl rfl (Nat.le_of_ble_eq_true rfl) (nxV (fun τ22 h => ?_))
        refine aw_aload_n (pc := 25) 0 dX9_pool_25 rfl ?_
        refine aw_getR (pc := 26) 9 kcX9 dX9_pool_26 lfX9_73 nn_0 ki_0 (by decide) rfl rf_0_9 ?_
        refine aw_getRN (pc := 29) 2 kcX3 dX9_pool_29 lfnX9_174 nn_180 ki_180 (by decide) rfl rf_180_2 ?_
        refine aw_iload_n (pc := 32) 1 dX9_pool_32 rfl ?_
        refine aw_bipush (pc := 33) 6 dX9_pool_33 (by decide) ?_
        refine aw_imul (pc := 35) dX9_pool_35 ?_
        refine aw_iload_n (pc := 36) 2 dX9_pool_36 rfl ?_
        refine aw_iadd (pc := 37) dX9_pool_37 ?_
        have hin38 := h.1
        have h := h.2
        refine aw_aldI (pc := 38) dX9_pool_38 nn_199 ki_199 ln_199 hin38 (rf15 ki_199) ?_
        refine aw_iload_n (pc := 39) 3 dX9_pool_39 rfl ?_
        refine aw_iald (pc := 40) (j := x3.toNatClampNeg) dX9_pool_40 (row_199 _ (vp_lt hin38)).1 (row_199 _ (vp_lt hin38)).2.1 (row_199 _ (vp_lt hin38)).2.2 h.1 rfl ?_
        have h := h.2
        exact aw_iret (pc := 41) rfl dX9_pool_41 ⟨_, rfl, h⟩
      · have h := h.2 q
        refine aw_iconst (pc := 19) (-1) dX9_pool_19 (by decide) ?_
        exact aw_iret (pc := 20) rfl dX9_pool_20 ⟨_, rfl, h⟩
def wp_X9_all (x1 : Int32) (σ : Sg) (K : Int32 → Sg → Prop) : Prop :=
  wp_X9_hasBook  σ <| fun r1_ τ1 => (br (r1_ = 0) (K (-1) τ1) (br (x1 < 0) (K (-1) τ1) (br (x1 < 6) (wp_X9_reckon  τ1 <| fun τ20 => (vp_in x1 6 ∧ (K (τ20 226 x1.toNatClampNeg) τ20))) (K (-1) τ1))))
set_option maxRecDepth 20000 in
set_option maxHeartbeats 2000000 in
theorem ev_X9_all (l : Launch) (x1 : Int32) {σ : Sg} {K : Int32 → Sg → Prop} (h : wp_X9_all x1 σ K) : Ev l yX9_all cX9_all 2 (some .int) 7 [.ref 0, .int x1] σ (qI K) := by
  refine ev_ov (by decide) (Nat.le_of_ble_eq_true rfl) ?_
  show AV l RX9 cX9_all 2 (some .int) 7 (qI K) 0 [(0, .ref 0), (1, .int x1)] [] σ
  refine aw_aload_n (pc := 0) 0 dX9_all_0 rfl ?_
  refine aw_callV (pc := 1) (As := []) (rest := []) kcX9 nn_0 ki_0 rfl (ev_X9_hasBook l  h) mfX9_hasBook dX9_all_1 lmX9_117 ⟨Nat.le_refl _, Nat.le_refl _⟩ (by decide) rfl rfl (Nat.le_of_ble_eq_true rfl) (nxI (fun r1_ τ1 h => ?_))
  refine aw_if_eq (pc := 4) 17 dX9_all_4 (by decide) (fun q => ?_) (fun q => ?_)
  · have h := h.1 q
    refine aw_iconst (pc := 17) (-1) dX9_all_17 (by decide) ?_
    exact aw_iret (pc := 18) rfl dX9_all_18 ⟨_, rfl, h⟩
  · have h := h.2 q
    refine aw_iload_n (pc := 7) 1 dX9_all_7 rfl ?_
    refine aw_if_lt (pc := 8) 17 dX9_all_8 (by decide) (fun q => ?_) (fun q => ?_)
    · have h := h.1 q
      refine aw_iconst (pc := 17) (-1) dX9_all_17 (by decide) ?_
      exact aw_iret (pc := 18) rfl dX9_all_18 ⟨_, rfl, h⟩
    · have h := h.2 q
      refine aw_iload_n (pc := 11) 1 dX9_all_11 rfl ?_
      refine aw_bipush (pc := 12) 6 dX9_all_12 (by decide) ?_
      refine aw_icmp_lt (pc := 14) 19 dX9_all_14 (by decide) (fun q => ?_) (fun q => ?_)
      · have h := h.1 q
        refine aw_aload_n (pc := 19) 0 dX9_all_19 rfl ?_
        refine aw_callV (pc := 20) (As := []) (rest := []) kcX9 nn_0 ki_0 rfl (ev_X9_reckon l  h) mfX9_reckon dX9_all_20 lmX9_171 ⟨Nat.le_refl _, Nat.le_refl _⟩ (by decide) rfl rfl (Nat.le_of_ble_eq_true rfl) (nxV (fun τ20 h => ?_))
        refine aw_aload_n (pc := 23) 0 dX9_all_23 rfl ?_
        refine aw_getR (pc := 24) 9 kcX9 dX9_all_24 lfX9_73 nn_0 ki_0 (by decide) rfl rf_0_9 ?_
        refine aw_getRN (pc := 27) 5 kcX3 dX9_all_27 lfnX9_273 nn_180 ki_180 (by decide) rfl rf_180_5 ?_
        refine aw_iload_n (pc := 30) 1 dX9_all_30 rfl ?_
        refine aw_iald (pc := 31) (j := x1.toNatClampNeg) dX9_all_31 nn_226 ki_226 ln_226 h.1 rfl ?_
        have h := h.2
        exact aw_iret (pc := 32) rfl dX9_all_32 ⟨_, rfl, h⟩
      · have h := h.2 q
        refine aw_iconst (pc := 17) (-1) dX9_all_17 (by decide) ?_
        exact aw_iret (pc := 18) rfl dX9_all_18 ⟨_, rfl, h⟩
def wp_X9_balance (x1 : Int32) (σ : Sg) (K : Int32 → Sg → Prop) : Prop :=
  wp_X9_hasBook  σ <| fun r1_ τ1 => (br (r1_ = 0) (K (-2147483648) τ1) (br (x1 < 0) (K (-2147483648) τ1) (br (x1 ≤ (τ1 3 0)) (wp_X9_reckon  τ1 <| fun τ27 => (vp_in x1 13 ∧ (K (τ27 225 x1.toNatClampNeg) τ27))) (K (-2147483648) τ1))))
set_option maxRecDepth 20000 in
set_option maxHeartbeats 2000000 in
theorem ev_X9_balance (l : Launch) (x1 : Int32) {σ : Sg} {K : Int32 → Sg → Prop} (h : wp_X9_balance x1 σ K) : Ev l yX9_balance cX9_balance 2 (some .int) 7 [.ref 0, .int x1] σ (qI K) := by
  refine ev_ov (by decide) (Nat.le_of_ble_eq_true rfl) ?_
  show AV l RX9 cX9_balance 2 (some .int) 7 (qI K) 0 [(0, .ref 0), (1, .int x1)] [] σ
  refine aw_aload_n (pc := 0) 0 dX9_balance_0 rfl ?_
  refine aw_callV (pc := 1) (As := []) (rest := []) kcX9 nn_0 ki_0 rfl (ev_X9_hasBook l  h) mfX9_hasBook dX9_balance_1 lmX9_117 ⟨Nat.le_refl _, Nat.le_refl _⟩ (by decide) rfl rfl (Nat.le_of_ble_eq_true rfl) (nxI (fun r1_ τ1 h => ?_))
  refine aw_if_eq (pc := 4) 22 dX9_balance_4 (by decide) (fun q => ?_) (fun q => ?_)
  · have h := h.1 q
    refine aw_ldcw (pc := 22) (-2147483648) dX9_balance_22 lcX9_279 ?_
    exact aw_iret (pc := 25) rfl dX9_balance_25 ⟨_, rfl, h⟩
  · have h := h.2 q
    refine aw_iload_n (pc := 7) 1 dX9_balance_7 rfl ?_
    refine aw_if_lt (pc := 8) 22 dX9_balance_8 (by decide) (fun q => ?_) (fun q => ?_)
    · have h := h.1 q
      refine aw_ldcw (pc := 22) (-2147483648) dX9_balance_22 lcX9_279 ?_
      exact aw_iret (pc := 25) rfl dX9_balance_25 ⟨_, rfl, h⟩
    · have h := h.2 q
      refine aw_iload_n (pc := 11) 1 dX9_balance_11 rfl ?_
      refine aw_aload_n (pc := 12) 0 dX9_balance_12 rfl ?_
      refine aw_getR (pc := 13) 1 kcX9 dX9_balance_13 lfX9_21 nn_0 ki_0 (by decide) rfl rf_0_1 ?_
      refine aw_getIN (pc := 16) 0 kcX5 dX9_balance_16 lfnX9_276 nn_3 ki_3 (by decide) rfl ?_
      refine aw_icmp_le (pc := 19) 26 dX9_balance_19 (by decide) (fun q => ?_) (fun q => ?_)
      · have h := h.1 q
        refine aw_aload_n (pc := 26) 0 dX9_balance_26 rfl ?_
        refine aw_callV (pc := 27) (As := []) (rest := []) kcX9 nn_0 ki_0 rfl (ev_X9_reckon l  h) mfX9_reckon dX9_balance_27 lmX9_171 ⟨Nat.le_refl _, Nat.le_refl _⟩ (by decide) rfl rfl (Nat.le_of_ble_eq_true rfl) (nxV (fun τ27 h => ?_))
        refine aw_aload_n (pc := 30) 0 dX9_balance_30 rfl ?_
        refine aw_getR (pc := 31) 9 kcX9 dX9_balance_31 lfX9_73 nn_0 ki_0 (by decide) rfl rf_0_9 ?_
        refine aw_getRN (pc := 34) 4 kcX3 dX9_balance_34 lfnX9_280 nn_180 ki_180 (by decide) rfl rf_180_4 ?_
        refine aw_iload_n (pc := 37) 1 dX9_balance_37 rfl ?_
        refine aw_iald (pc := 38) (j := x1.toNatClampNeg) dX9_balance_38 nn_225 ki_225 ln_225 h.1 rfl ?_
        have h := h.2
        exact aw_iret (pc := 39) rfl dX9_balance_39 ⟨_, rfl, h⟩
      · have h := h.2 q
        refine aw_ldcw (pc := 22) (-2147483648) dX9_balance_22 lcX9_279 ?_
        exact aw_iret (pc := 25) rfl dX9_balance_25 ⟨_, rfl, h⟩
def wp_X9_fewest (x1 : Int32) (σ : Sg) (K : Int32 → Sg → Prop) : Prop :=
  wp_X9_hasBook  σ <| fun r1_ τ1 => (br (r1_ = 0) (K (-1) τ1) (br (x1 < 0) (K (-1) τ1) (br (x1 ≤ 1) (wp_X9_reckon  τ1 <| fun τ19 => (wp_X7_gather 225 13 ((τ19 3 0) + 1) τ19 <| fun τ42 => (wp_X7_mostGroups  τ42 <| fun r49_ τ49 => (br (x1 = 1) (K r49_ τ49) (K ((τ49 227 0) - r49_) τ49))))) (K (-1) τ1))))
set_option maxRecDepth 20000 in
set_option maxHeartbeats 2000000 in
theorem ev_X9_fewest (l : Launch) (x1 : Int32) {σ : Sg} {K : Int32 → Sg → Prop} (h : wp_X9_fewest x1 σ K) : Ev l yX9_fewest cX9_fewest 3 (some .int) 7 [.ref 0, .int x1] σ (qI K) := by
  refine ev_ov (by decide) (Nat.le_of_ble_eq_true rfl) ?_
  show AV l RX9 cX9_fewest 3 (some .int) 7 (qI K) 0 [(0, .ref 0), (1, .int x1)] [] σ
  refine aw_aload_n (pc := 0) 0 dX9_fewest_0 rfl ?_
  refine aw_callV (pc := 1) (As := []) (rest := []) kcX9 nn_0 ki_0 rfl (ev_X9_hasBook l  h) mfX9_hasBook dX9_fewest_1 lmX9_117 ⟨Nat.le_refl _, Nat.le_refl _⟩ (by decide) rfl rfl (Nat.le_of_ble_eq_true rfl) (nxI (fun r1_ τ1 h => ?_))
  refine aw_if_eq (pc := 4) 16 dX9_fewest_4 (by decide) (fun q => ?_) (fun q => ?_)
  · have h := h.1 q
    refine aw_iconst (pc := 16) (-1) dX9_fewest_16 (by decide) ?_
    exact aw_iret (pc := 17) rfl dX9_fewest_17 ⟨_, rfl, h⟩
  · have h := h.2 q
    refine aw_iload_n (pc := 7) 1 dX9_fewest_7 rfl ?_
    refine aw_if_lt (pc := 8) 16 dX9_fewest_8 (by decide) (fun q => ?_) (fun q => ?_)
    · have h := h.1 q
      refine aw_iconst (pc := 16) (-1) dX9_fewest_16 (by decide) ?_
      exact aw_iret (pc := 17) rfl dX9_fewest_17 ⟨_, rfl, h⟩
    · have h := h.2 q
      refine aw_iload_n (pc := 11) 1 dX9_fewest_11 rfl ?_
      refine aw_iconst (pc := 12) 1 dX9_fewest_12 (by decide) ?_
      refine aw_icmp_le (pc := 13) 18 dX9_fewest_13 (by decide) (fun q => ?_) (fun q => ?_)
      · have h := h.1 q
        refine aw_aload_n (pc := 18) 0 dX9_fewest_18 rfl ?_
        refine aw_callV (pc := 19) (As := []) (rest := []) kcX9 nn_0 ki_0 rfl (ev_X9_reckon l  h) mfX9_reckon dX9_fewest_19 lmX9_171 ⟨Nat.le_refl _, Nat.le_refl _⟩ (by decide) rfl rfl (Nat.le_of_ble_eq_true rfl) (nxV (fun τ19 h => ?_))
        refine aw_aload_n (pc := 22) 0 dX9_fewest_22 rfl ?_
        refine aw_getR (pc := 23) 10 kcX9 dX9_fewest_23 lfX9_80 nn_0 ki_0 (by decide) rfl rf_0_10 ?_
        refine aw_aload_n (pc := 26) 0 dX9_fewest_26 rfl ?_
        refine aw_getR (pc := 27) 9 kcX9 dX9_fewest_27 lfX9_73 nn_0 ki_0 (by decide) rfl rf_0_9 ?_
        refine aw_getRN (pc := 30) 4 kcX3 dX9_fewest_30 lfnX9_280 nn_180 ki_180 (by decide) rfl rf_180_4 ?_
        refine aw_aload_n (pc := 33) 0 dX9_fewest_33 rfl ?_
        refine aw_getR (pc := 34) 1 kcX9 dX9_fewest_34 lfX9_21 nn_0 ki_0 (by decide) rfl rf_0_1 ?_
        refine aw_getIN (pc := 37) 0 kcX5 dX9_fewest_37 lfnX9_276 nn_3 ki_3 (by decide) rfl ?_
        refine aw_iconst (pc := 40) 1 dX9_fewest_40 (by decide) ?_
        refine aw_iadd (pc := 41) dX9_fewest_41 ?_
        refine aw_callVN (pc := 42) (As := [.ref 225, .int ((τ19 3 0) + 1)]) (rest := []) kcX7 nn_227 ki_227 rfl (ev_X7_gather l 225 13 ao_225 ((τ19 3 0) + 1) h) mfX7_gather dX9_fewest_42 lmnX9_283 ⟨Nat.le_refl _, Nat.le_refl _⟩ (by decide) rfl rfl (Nat.le_of_ble_eq_true rfl) (nxV (fun τ42 h => ?_))
        refine aw_aload_n (pc := 45) 0 dX9_fewest_45 rfl ?_
        refine aw_getR (pc := 46) 10 kcX9 dX9_fewest_46 lfX9_80 nn_0 ki_0 (by decide) rfl rf_0_10 ?_
        refine aw_callVN (pc := 49) (As := []) (rest := []) kcX7 nn_227 ki_227 rfl (ev_X7_mostGroups l  h) mfX7_mostGroups dX9_fewest_49 lmnX9_287 ⟨Nat.le_refl _, Nat.le_refl _⟩ (by decide) rfl rfl (Nat.le_of_ble_eq_true rfl) (nxI (fun r49_ τ49 h => ?_))
        refine aw_istore_n (pc := 52) (i := 2) [(2, .int r49_), (0, .ref 0), (1, .int x1)] dX9_fewest_52 rfl (by decide) rfl ?_
        refine aw_iload_n (pc := 53) 2 dX9_fewest_53 rfl ?_
        refine aw_iconst (pc := 54) 1 dX9_fewest_54 (by decide) ?_
        refine aw_icmp_ne (pc := 55) 62 dX9_fewest_55 (by decide) (fun q => ?_) (fun q => ?_)
        · have h := h.2 q
          refine aw_aload_n (pc := 62) 1 dX9_fewest_62 rfl ?_
          refine aw_getR (pc := 63) 10 kcX9 dX9_fewest_63 lfX9_80 nn_0 ki_0 (by decide) rfl rf_0_10 ?_
          refine aw_getIN (pc := 66) 0 kcX7 dX9_fewest_66 lfnX9_291 nn_227 ki_227 (by decide) rfl ?_
          refine aw_iload_n (pc := 69) 0 dX9_fewest_69 rfl ?_
          refine aw_isub (pc := 70) dX9_fewest_70 ?_
          exact aw_iret (pc := 71) rfl dX9_fewest_71 ⟨_, rfl, h⟩
        · have h := h.1 q
          refine aw_iload_n (pc := 58) 0 dX9_fewest_58 rfl ?_
          refine aw_goto (pc := 59) 71 dX9_fewest_59 (by decide) ?_
          exact aw_iret (pc := 71) rfl dX9_fewest_71 ⟨_, rfl, h⟩
      · have h := h.2 q
        refine aw_iconst (pc := 16) (-1) dX9_fewest_16 (by decide) ?_
        exact aw_iret (pc := 17) rfl dX9_fewest_17 ⟨_, rfl, h⟩
def wp_X9_pays (x1 : Int32) (x2 : Int32) (σ : Sg) (K : Int32 → Sg → Prop) : Prop :=
  wp_X9_hasBook  σ <| fun r1_ τ1 => (br (r1_ = 0) (K (-1) τ1) (br (x2 < 0) (K (-1) τ1) (br (2 < x2) (K (-1) τ1) (br ((-1) ≤ x1) (wp_X9_reckon  τ1 <| fun τ24 => (wp_X7_listPayments 225 13 ((τ24 3 0) + 1) τ24 <| fun τ47 => (br (x1 = (-1)) (K (τ47 227 3) τ47) (br (x1 < (τ47 227 3)) (br (x2 = 0) (vp_in x1 13 ∧ (K (τ47 230 x1.toNatClampNeg) τ47)) (br (x2 = 1) (vp_in x1 13 ∧ (K (τ47 231 x1.toNatClampNeg) τ47)) (vp_in x1 13 ∧ (K (τ47 232 x1.toNatClampNeg) τ47)))) (K (-2) τ47))))) (K (-1) τ1)))))
set_option maxRecDepth 20000 in
set_option maxHeartbeats 2000000 in
theorem ev_X9_pays (l : Launch) (x1 : Int32) (x2 : Int32) {σ : Sg} {K : Int32 → Sg → Prop} (h : wp_X9_pays x1 x2 σ K) : Ev l yX9_pays cX9_pays 3 (some .int) 7 [.ref 0, .int x1, .int x2] σ (qI K) := by
  refine ev_ov (by decide) (Nat.le_of_ble_eq_true rfl) ?_
  show AV l RX9 cX9_pays 3 (some .int) 7 (qI K) 0 [(0, .ref 0), (1, .int x1), (2, .int x2)] [] σ
  refine aw_aload_n (pc := 0) 0 dX9_pays_0 rfl ?_
  refine aw_callV (pc := 1) (As := []) (rest := []) kcX9 nn_0 ki_0 rfl (ev_X9_hasBook l  h) mfX9_hasBook dX9_pays_1 lmX9_117 ⟨Nat.le_refl _, Nat.le_refl _⟩ (by decide) rfl rfl (Nat.le_of_ble_eq_true rfl) (nxI (fun r1_ τ1 h => ?_))
  refine aw_if_eq (pc := 4) 21 dX9_pays_4 (by decide) (fun q => ?_) (fun q => ?_)
  · have h := h.1 q
    refine aw_iconst (pc := 21) (-1) dX9_pays_21 (by decide) ?_
    exact aw_iret (pc := 22) rfl dX9_pays_22 ⟨_, rfl, h⟩
  · have h := h.2 q
    refine aw_iload_n (pc := 7) 2 dX9_pays_7 rfl ?_
    refine aw_if_lt (pc := 8) 21 dX9_pays_8 (by decide) (fun q => ?_) (fun q => ?_)
    · have h := h.1 q
      refine aw_iconst (pc := 21) (-1) dX9_pays_21 (by decide) ?_
      exact aw_iret (pc := 22) rfl dX9_pays_22 ⟨_, rfl, h⟩
    · have h := h.2 q
      refine aw_iload_n (pc := 11) 2 dX9_pays_11 rfl ?_
      refine aw_iconst (pc := 12) 2 dX9_pays_12 (by decide) ?_
      refine aw_icmp_gt (pc := 13) 21 dX9_pays_13 (by decide) (fun q => ?_) (fun q => ?_)
      · have h := h.1 q
        refine aw_iconst (pc := 21) (-1) dX9_pays_21 (by decide) ?_
        exact aw_iret (pc := 22) rfl dX9_pays_22 ⟨_, rfl, h⟩
      · have h := h.2 q
        refine aw_iload_n (pc := 16) 1 dX9_pays_16 rfl ?_
        refine aw_iconst (pc := 17) (-1) dX9_pays_17 (by decide) ?_
        refine aw_icmp_ge (pc := 18) 23 dX9_pays_18 (by decide) (fun q => ?_) (fun q => ?_)
        · have h := h.1 q
          refine aw_aload_n (pc := 23) 0 dX9_pays_23 rfl ?_
          refine aw_callV (pc := 24) (As := []) (rest := []) kcX9 nn_0 ki_0 rfl (ev_X9_reckon l  h) mfX9_reckon dX9_pays_24 lmX9_171 ⟨Nat.le_refl _, Nat.le_refl _⟩ (by decide) rfl rfl (Nat.le_of_ble_eq_true rfl) (nxV (fun τ24 h => ?_))
          refine aw_aload_n (pc := 27) 0 dX9_pays_27 rfl ?_
          refine aw_getR (pc := 28) 10 kcX9 dX9_pays_28 lfX9_80 nn_0 ki_0 (by decide) rfl rf_0_10 ?_
          refine aw_aload_n (pc := 31) 0 dX9_pays_31 rfl ?_
          refine aw_getR (pc := 32) 9 kcX9 dX9_pays_32 lfX9_73 nn_0 ki_0 (by decide) rfl rf_0_9 ?_
          refine aw_getRN (pc := 35) 4 kcX3 dX9_pays_35 lfnX9_280 nn_180 ki_180 (by decide) rfl rf_180_4 ?_
          refine aw_aload_n (pc := 38) 0 dX9_pays_38 rfl ?_
          refine aw_getR (pc := 39) 1 kcX9 dX9_pays_39 lfX9_21 nn_0 ki_0 (by decide) rfl rf_0_1 ?_
          refine aw_getIN (pc := 42) 0 kcX5 dX9_pays_42 lfnX9_276 nn_3 ki_3 (by decide) rfl ?_
          refine aw_iconst (pc := 45) 1 dX9_pays_45 (by decide) ?_
          refine aw_iadd (pc := 46) dX9_pays_46 ?_
          refine aw_callVN (pc := 47) (As := [.ref 225, .int ((τ24 3 0) + 1)]) (rest := []) kcX7 nn_227 ki_227 rfl (ev_X7_listPayments l 225 13 ao_225 ((τ24 3 0) + 1) h) mfX7_listPayments dX9_pays_47 lmnX9_294 ⟨Nat.le_refl _, Nat.le_refl _⟩ (by decide) rfl rfl (Nat.le_of_ble_eq_true rfl) (nxV (fun τ47 h => ?_))
          refine aw_iload_n (pc := 50) 1 dX9_pays_50 rfl ?_
          refine aw_iconst (pc := 51) (-1) dX9_pays_51 (by decide) ?_
          refine aw_icmp_ne (pc := 52) 63 dX9_pays_52 (by decide) (fun q => ?_) (fun q => ?_)
          · have h := h.2 q
            refine aw_iload_n (pc := 63) 1 dX9_pays_63 rfl ?_
            refine aw_aload_n (pc := 64) 0 dX9_pays_64 rfl ?_
            refine aw_getR (pc := 65) 10 kcX9 dX9_pays_65 lfX9_80 nn_0 ki_0 (by decide) rfl rf_0_10 ?_
            refine aw_getIN (pc := 68) 3 kcX7 dX9_pays_68 lfnX9_297 nn_227 ki_227 (by decide) rfl ?_
            refine aw_icmp_lt (pc := 71) 77 dX9_pays_71 (by decide) (fun q => ?_) (fun q => ?_)
            · have h := h.1 q
              refine aw_iload_n (pc := 77) 2 dX9_pays_77 rfl ?_
              refine aw_if_ne (pc := 78) 91 dX9_pays_78 (by decide) (fun q => ?_) (fun q => ?_)
              · have h := h.2 q
                refine aw_iload_n (pc := 91) 2 dX9_pays_91 rfl ?_
                refine aw_iconst (pc := 92) 1 dX9_pays_92 (by decide) ?_
                refine aw_icmp_ne (pc := 93) 108 dX9_pays_93 (by decide) (fun q => ?_) (fun q => ?_)
                · have h := h.2 q
                  refine aw_aload_n (pc := 108) 0 dX9_pays_108 rfl ?_
                  refine aw_getR (pc := 109) 10 kcX9 dX9_pays_109 lfX9_80 nn_0 ki_0 (by decide) rfl rf_0_10 ?_
                  refine aw_getRN (pc := 112) 6 kcX7 dX9_pays_112 lfnX9_306 nn_227 ki_227 (by decide) rfl rf_227_6 ?_
                  refine aw_iload_n (pc := 115) 1 dX9_pays_115 rfl ?_
                  refine aw_iald (pc := 116) (j := x1.toNatClampNeg) dX9_pays_116 nn_232 ki_232 ln_232 h.1 rfl ?_
                  have h := h.2
                  exact aw_iret (pc := 117) rfl dX9_pays_117 ⟨_, rfl, h⟩
                · have h := h.1 q
                  refine aw_aload_n (pc := 96) 0 dX9_pays_96 rfl ?_
                  refine aw_getR (pc := 97) 10 kcX9 dX9_pays_97 lfX9_80 nn_0 ki_0 (by decide) rfl rf_0_10 ?_
                  refine aw_getRN (pc := 100) 5 kcX7 dX9_pays_100 lfnX9_303 nn_227 ki_227 (by decide) rfl rf_227_5 ?_
                  refine aw_iload_n (pc := 103) 1 dX9_pays_103 rfl ?_
                  refine aw_iald (pc := 104) (j := x1.toNatClampNeg) dX9_pays_104 nn_231 ki_231 ln_231 h.1 rfl ?_
                  have h := h.2
                  refine aw_goto (pc := 105) 117 dX9_pays_105 (by decide) ?_
                  exact aw_iret (pc := 117) rfl dX9_pays_117 ⟨_, rfl, h⟩
              · have h := h.1 q
                refine aw_aload_n (pc := 81) 0 dX9_pays_81 rfl ?_
                refine aw_getR (pc := 82) 10 kcX9 dX9_pays_82 lfX9_80 nn_0 ki_0 (by decide) rfl rf_0_10 ?_
                refine aw_getRN (pc := 85) 4 kcX7 dX9_pays_85 lfnX9_300 nn_227 ki_227 (by decide) rfl rf_227_4 ?_
                refine aw_iload_n (pc := 88) 1 dX9_pays_88 rfl ?_
                refine aw_iald (pc := 89) (j := x1.toNatClampNeg) dX9_pays_89 nn_230 ki_230 ln_230 h.1 rfl ?_
                have h := h.2
                exact aw_iret (pc := 90) rfl dX9_pays_90 ⟨_, rfl, h⟩
            · have h := h.2 q
              refine aw_bipush (pc := 74) (-2) dX9_pays_74 (by decide) ?_
              exact aw_iret (pc := 76) rfl dX9_pays_76 ⟨_, rfl, h⟩
          · have h := h.1 q
            refine aw_aload_n (pc := 55) 0 dX9_pays_55 rfl ?_
            refine aw_getR (pc := 56) 10 kcX9 dX9_pays_56 lfX9_80 nn_0 ki_0 (by decide) rfl rf_0_10 ?_
            refine aw_getIN (pc := 59) 3 kcX7 dX9_pays_59 lfnX9_297 nn_227 ki_227 (by decide) rfl ?_
            exact aw_iret (pc := 62) rfl dX9_pays_62 ⟨_, rfl, h⟩
        · have h := h.2 q
          refine aw_iconst (pc := 21) (-1) dX9_pays_21 (by decide) ?_
          exact aw_iret (pc := 22) rfl dX9_pays_22 ⟨_, rfl, h⟩
def b_X9_mark_19   (K : Int64 → Sg → Prop) : Nat → Int64 → Int32 → Sg → Prop
  | 0, _, _, _ => False
  | n + 1, y1, y3, σ =>
  br ((σ 3 0) < y3) (K y1 σ) (vp_in y3 13 ∧ (∀ v46 : Int64, v46 = (y1 * 31) + (Int32.toInt64 (σ 225 y3.toNatClampNeg)) → (∀ v53 : Int64, v53 = v46 ^^^ ((v46.toUInt64 >>> ((Int32.toInt64 13).toUInt64 &&& Int64.toUInt64 63)).toInt64) → (∀ v54 : Int32, v54 = y3 + 1 → (b_X9_mark_19   K n v53 v54 σ)))))
set_option maxRecDepth 20000 in
set_option maxHeartbeats 2000000 in
theorem bt_X9_mark_19 (l : Launch)  {K : Int64 → Sg → Prop}   : ∀ (n : Nat) (y1 : Int64) (y3 : Int32)  (σ : Sg), b_X9_mark_19   K n y1 y3 σ → AV l RX9 cX9_mark 4 (some .long) 7 (qL K) 19 [(0, .ref 0), (1, .long y1), (3, .int y3)] [] σ := by
  intro n
  induction n with
  | zero => intro y1 y3 σ h; exact h.elim
  | succ n ih =>
    intro y1 y3 σ h
    refine aw_iload_n (pc := 19) 2 dX9_mark_19 rfl ?_
    refine aw_aload_n (pc := 20) 0 dX9_mark_20 rfl ?_
    refine aw_getR (pc := 21) 1 kcX9 dX9_mark_21 lfX9_21 nn_0 ki_0 (by decide) rfl rf_0_1 ?_
    refine aw_getIN (pc := 24) 0 kcX5 dX9_mark_24 lfnX9_276 nn_3 ki_3 (by decide) rfl ?_
    refine aw_icmp_gt (pc := 27) 60 dX9_mark_27 (by decide) (fun q => ?_) (fun q => ?_)
    · have h := h.1 q
      refine aw_lload_n (pc := 60) 1 dX9_mark_60 rfl ?_
      exact aw_lret (pc := 61) rfl dX9_mark_61 ⟨_, rfl, h⟩
    · have h := h.2 q
      refine aw_lload_n (pc := 30) 1 dX9_mark_30 rfl ?_
      refine aw_ldc2 (pc := 31) 31 dX9_mark_31 lclX9_311 ?_
      refine aw_lmul (pc := 34) dX9_mark_34 ?_
      refine aw_aload_n (pc := 35) 0 dX9_mark_35 rfl ?_
      refine aw_getR (pc := 36) 9 kcX9 dX9_mark_36 lfX9_73 nn_0 ki_0 (by decide) rfl rf_0_9 ?_
      refine aw_getRN (pc := 39) 4 kcX3 dX9_mark_39 lfnX9_280 nn_180 ki_180 (by decide) rfl rf_180_4 ?_
      refine aw_iload_n (pc := 42) 2 dX9_mark_42 rfl ?_
      refine aw_iald (pc := 43) (j := y3.toNatClampNeg) dX9_mark_43 nn_225 ki_225 ln_225 h.1 rfl ?_
      have h := h.2
      refine aw_i2l (pc := 44) dX9_mark_44 ?_
      refine aw_ladd (pc := 45) dX9_mark_45 ?_
      refine aw_topl (fun v46 ev46 => ?_)
      have h := h v46 ev46
      refine aw_lstore_n (pc := 46) (i := 1) [(1, .long v46), (0, .ref 0), (3, .int y3)] dX9_mark_46 rfl (by decide) rfl ?_
      refine aw_lload_n (pc := 47) 0 dX9_mark_47 rfl ?_
      refine aw_lload_n (pc := 48) 0 dX9_mark_48 rfl ?_
      refine aw_bipush (pc := 49) 13 dX9_mark_49 (by decide) ?_
      refine aw_lushr (pc := 51) dX9_mark_51 ?_
      refine aw_lxor (pc := 52) dX9_mark_52 ?_
      refine aw_topl (fun v53 ev53 => ?_)
      have h := h v53 ev53
      refine aw_lstore_n (pc := 53) (i := 1) [(1, .long v53), (0, .ref 0), (3, .int y3)] dX9_mark_53 rfl (by decide) rfl ?_
      obtain ⟨v54, ev54⟩ : ∃ v : Int32, v = y3 + 1 := ⟨_, rfl⟩
      have h := h v54 ev54
      refine aw_iinc (pc := 54) 2 v54 [(3, .int v54), (1, .long v53), (0, .ref 0)] dX9_mark_54 rfl (by rw [ev54]; rfl) (by decide) rfl ?_
      refine aw_goto (pc := 57) 19 dX9_mark_57 (by decide) ?_
      refine aw_sub (L' := [(0, .ref 0), (1, .long v53), (3, .int v54)]) [2, 1, 0] rfl ?_
      exact ih v53 v54  _ h
def wp_X9_mark  (σ : Sg) (K : Int64 → Sg → Prop) : Prop :=
  wp_X9_hasBook  σ <| fun r1_ τ1 => (br (r1_ = 0) (K 0 τ1) (wp_X9_reckon  τ1 <| fun τ10 => (∃ nf, b_X9_mark_19   K nf 17 0 τ10)))
set_option maxRecDepth 20000 in
set_option maxHeartbeats 2000000 in
theorem ev_X9_mark (l : Launch)  {σ : Sg} {K : Int64 → Sg → Prop} (h : wp_X9_mark  σ K) : Ev l yX9_mark cX9_mark 4 (some .long) 7 [.ref 0] σ (qL K) := by
  refine ev_ov (by decide) (Nat.le_of_ble_eq_true rfl) ?_
  show AV l RX9 cX9_mark 4 (some .long) 7 (qL K) 0 [(0, .ref 0)] [] σ
  refine aw_aload_n (pc := 0) 0 dX9_mark_0 rfl ?_
  refine aw_callV (pc := 1) (As := []) (rest := []) kcX9 nn_0 ki_0 rfl (ev_X9_hasBook l  h) mfX9_hasBook dX9_mark_1 lmX9_117 ⟨Nat.le_refl _, Nat.le_refl _⟩ (by decide) rfl rfl (Nat.le_of_ble_eq_true rfl) (nxI (fun r1_ τ1 h => ?_))
  refine aw_if_ne (pc := 4) 9 dX9_mark_4 (by decide) (fun q => ?_) (fun q => ?_)
  · have h := h.2 q
    refine aw_aload_n (pc := 9) 0 dX9_mark_9 rfl ?_
    refine aw_callV (pc := 10) (As := []) (rest := []) kcX9 nn_0 ki_0 rfl (ev_X9_reckon l  h) mfX9_reckon dX9_mark_10 lmX9_171 ⟨Nat.le_refl _, Nat.le_refl _⟩ (by decide) rfl rfl (Nat.le_of_ble_eq_true rfl) (nxV (fun τ10 h => ?_))
    refine aw_ldc2 (pc := 13) 17 dX9_mark_13 lclX9_309 ?_
    refine aw_lstore_n (pc := 16) (i := 1) [(1, .long 17), (0, .ref 0)] dX9_mark_16 rfl (by decide) rfl ?_
    refine aw_iconst (pc := 17) 0 dX9_mark_17 (by decide) ?_
    refine aw_istore_n (pc := 18) (i := 3) [(3, .int 0), (1, .long 17), (0, .ref 0)] dX9_mark_18 rfl (by decide) rfl ?_
    refine aw_sub (L' := [(0, .ref 0), (1, .long 17), (3, .int 0)]) [2, 1, 0] rfl ?_
    obtain ⟨nf, h⟩ := h
    exact bt_X9_mark_19 l    nf 17 0  _ h
  · have h := h.1 q
    refine aw_lconst (pc := 7) 0 dX9_mark_7 (by decide) ?_
    exact aw_lret (pc := 8) rfl dX9_mark_8 ⟨_, rfl, h⟩
def wp_X9_met (x1 : Int32) (σ : Sg) (K : Int32 → Sg → Prop) : Prop :=
  wp_X9_isClub x1 σ <| fun r2_ τ2 => (br (r2_ = 0) (K (-1) τ2) (wp_X6_metBy 55 (1 <<< (x1 &&& 31)) τ2 <| fun r15_ τ15 => (K r15_ τ15)))
set_option maxRecDepth 20000 in
set_option maxHeartbeats 2000000 in
theorem ev_X9_met (l : Launch) (x1 : Int32) {σ : Sg} {K : Int32 → Sg → Prop} (h : wp_X9_met x1 σ K) : Ev l yX9_met cX9_met 2 (some .int) 1 [.ref 0, .int x1] σ (qI K) := by
  refine ev_ov (by decide) (Nat.le_of_ble_eq_true rfl) ?_
  show AV l RX9 cX9_met 2 (some .int) 1 (qI K) 0 [(0, .ref 0), (1, .int x1)] [] σ
  refine aw_aload_n (pc := 0) 0 dX9_met_0 rfl ?_
  refine aw_iload_n (pc := 1) 1 dX9_met_1 rfl ?_
  refine aw_callV (pc := 2) (As := [.int x1]) (rest := []) kcX9 nn_0 ki_0 rfl (ev_X9_isClub l x1 h) mfX9_isClub dX9_met_2 lmX9_185 ⟨Nat.le_refl _, Nat.le_refl _⟩ (by decide) rfl rfl (Nat.le_of_ble_eq_true rfl) (nxI (fun r2_ τ2 h => ?_))
  refine aw_if_eq (pc := 5) 21 dX9_met_5 (by decide) (fun q => ?_) (fun q => ?_)
  · have h := h.1 q
    refine aw_iconst (pc := 21) (-1) dX9_met_21 (by decide) ?_
    exact aw_iret (pc := 22) rfl dX9_met_22 ⟨_, rfl, h⟩
  · have h := h.2 q
    refine aw_aload_n (pc := 8) 0 dX9_met_8 rfl ?_
    refine aw_getR (pc := 9) 4 kcX9 dX9_met_9 lfX9_44 nn_0 ki_0 (by decide) rfl rf_0_4 ?_
    refine aw_iconst (pc := 12) 1 dX9_met_12 (by decide) ?_
    refine aw_iload_n (pc := 13) 1 dX9_met_13 rfl ?_
    refine aw_ishl (pc := 14) dX9_met_14 ?_
    refine aw_callVN (pc := 15) (As := [.int (1 <<< (x1 &&& 31))]) (rest := []) kcX6 nn_55 ki_55 rfl (ev_X6_metBy l 55 sea_55 (1 <<< (x1 &&& 31)) h) mfX6_metBy dX9_met_15 lmnX9_313 ⟨Nat.le_refl _, Nat.le_refl _⟩ (by decide) rfl rfl (Nat.le_of_ble_eq_true rfl) (nxI (fun r15_ τ15 h => ?_))
    refine aw_goto (pc := 18) 22 dX9_met_18 (by decide) ?_
    exact aw_iret (pc := 22) rfl dX9_met_22 ⟨_, rfl, h⟩
def b_X9_chain_25 (x1 : Int32) (x2 : Int32)  (K : Int32 → Sg → Prop) : Nat → Int32 → Int32 → Sg → Prop
  | 0, _, _, _ => False
  | n + 1, y3, y4, σ =>
  br (12 ≤ y4) (K (-2) σ) (br (((y3 >>> (x2 &&& 31)) &&& 1) = 1) (K y4 σ) (wp_X6_metBy 55 y3 σ <| fun r50_ τ50 => (∀ v54 : Int32, v54 = y3 ||| r50_ → (∀ v55 : Int32, v55 = y4 + 1 → (b_X9_chain_25 x1 x2  K n v54 v55 τ50)))))
set_option maxRecDepth 20000 in
set_option maxHeartbeats 2000000 in
theorem bt_X9_chain_25 (l : Launch) (x1 : Int32) (x2 : Int32) {K : Int32 → Sg → Prop}   : ∀ (n : Nat) (y3 : Int32) (y4 : Int32)  (σ : Sg), b_X9_chain_25 x1 x2  K n y3 y4 σ → AV l RX9 cX9_chain 5 (some .int) 1 (qI K) 25 [(0, .ref 0), (2, .int x2), (3, .int y3), (4, .int y4)] [] σ := by
  intro n
  induction n with
  | zero => intro y3 y4 σ h; exact h.elim
  | succ n ih =>
    intro y3 y4 σ h
    refine aw_iload (pc := 25) 3 dX9_chain_25 rfl ?_
    refine aw_bipush (pc := 27) 12 dX9_chain_27 (by decide) ?_
    refine aw_icmp_ge (pc := 29) 61 dX9_chain_29 (by decide) (fun q => ?_) (fun q => ?_)
    · have h := h.1 q
      refine aw_bipush (pc := 61) (-2) dX9_chain_61 (by decide) ?_
      exact aw_iret (pc := 63) rfl dX9_chain_63 ⟨_, rfl, h⟩
    · have h := h.2 q
      refine aw_iload_n (pc := 32) 2 dX9_chain_32 rfl ?_
      refine aw_iload_n (pc := 33) 1 dX9_chain_33 rfl ?_
      refine aw_ishr (pc := 34) dX9_chain_34 ?_
      refine aw_iconst (pc := 35) 1 dX9_chain_35 (by decide) ?_
      refine aw_iand (pc := 36) dX9_chain_36 ?_
      refine aw_iconst (pc := 37) 1 dX9_chain_37 (by decide) ?_
      refine aw_icmp_ne (pc := 38) 44 dX9_chain_38 (by decide) (fun q => ?_) (fun q => ?_)
      · have h := h.2 q
        refine aw_iload_n (pc := 44) 2 dX9_chain_44 rfl ?_
        refine aw_aload_n (pc := 45) 0 dX9_chain_45 rfl ?_
        refine aw_getR (pc := 46) 4 kcX9 dX9_chain_46 lfX9_44 nn_0 ki_0 (by decide) rfl rf_0_4 ?_
        refine aw_iload_n (pc := 49) 2 dX9_chain_49 rfl ?_
        refine aw_callVN (pc := 50) (As := [.int y3]) (rest := [.int y3]) kcX6 nn_55 ki_55 rfl (ev_X6_metBy l 55 sea_55 y3 h) mfX6_metBy dX9_chain_50 lmnX9_313 ⟨Nat.le_refl _, Nat.le_refl _⟩ (by decide) rfl rfl (Nat.le_of_ble_eq_true rfl) (nxI (fun r50_ τ50 h => ?_))
        refine aw_ior (pc := 53) dX9_chain_53 ?_
        refine aw_topi (fun v54 ev54 => ?_)
        have h := h v54 ev54
        refine aw_istore_n (pc := 54) (i := 3) [(3, .int v54), (0, .ref 0), (2, .int x2), (4, .int y4)] dX9_chain_54 rfl (by decide) rfl ?_
        obtain ⟨v55, ev55⟩ : ∃ v : Int32, v = y4 + 1 := ⟨_, rfl⟩
        have h := h v55 ev55
        refine aw_iinc (pc := 55) 3 v55 [(4, .int v55), (3, .int v54), (0, .ref 0), (2, .int x2)] dX9_chain_55 rfl (by rw [ev55]; rfl) (by decide) rfl ?_
        refine aw_goto (pc := 58) 25 dX9_chain_58 (by decide) ?_
        refine aw_sub (L' := [(0, .ref 0), (2, .int x2), (3, .int v54), (4, .int v55)]) [2, 3, 1, 0] rfl ?_
        exact ih v54 v55  _ h
      · have h := h.1 q
        refine aw_iload (pc := 41) 3 dX9_chain_41 rfl ?_
        exact aw_iret (pc := 43) rfl dX9_chain_43 ⟨_, rfl, h⟩
def wp_X9_chain (x1 : Int32) (x2 : Int32) (σ : Sg) (K : Int32 → Sg → Prop) : Prop :=
  wp_X9_isClub x1 σ <| fun r2_ τ2 => (br (r2_ = 0) (K (-1) τ2) (wp_X9_isClub x2 τ2 <| fun r10_ τ10 => (br (r10_ = 0) (K (-1) τ10) (∀ v21 : Int32, v21 = 1 <<< (x1 &&& 31) → (∃ nf, b_X9_chain_25 x1 x2  K nf v21 0 τ10)))))
set_option maxRecDepth 20000 in
set_option maxHeartbeats 2000000 in
theorem ev_X9_chain (l : Launch) (x1 : Int32) (x2 : Int32) {σ : Sg} {K : Int32 → Sg → Prop} (h : wp_X9_chain x1 x2 σ K) : Ev l yX9_chain cX9_chain 5 (some .int) 1 [.ref 0, .int x1, .int x2] σ (qI K) := by
  refine ev_ov (by decide) (Nat.le_of_ble_eq_true rfl) ?_
  show AV l RX9 cX9_chain 5 (some .int) 1 (qI K) 0 [(0, .ref 0), (1, .int x1), (2, .int x2)] [] σ
  refine aw_aload_n (pc := 0) 0 dX9_chain_0 rfl ?_
  refine aw_iload_n (pc := 1) 1 dX9_chain_1 rfl ?_
  refine aw_callV (pc := 2) (As := [.int x1]) (rest := []) kcX9 nn_0 ki_0 rfl (ev_X9_isClub l x1 h) mfX9_isClub dX9_chain_2 lmX9_185 ⟨Nat.le_refl _, Nat.le_refl _⟩ (by decide) rfl rfl (Nat.le_of_ble_eq_true rfl) (nxI (fun r2_ τ2 h => ?_))
  refine aw_if_eq (pc := 5) 16 dX9_chain_5 (by decide) (fun q => ?_) (fun q => ?_)
  · have h := h.1 q
    refine aw_iconst (pc := 16) (-1) dX9_chain_16 (by decide) ?_
    exact aw_iret (pc := 17) rfl dX9_chain_17 ⟨_, rfl, h⟩
  · have h := h.2 q
    refine aw_aload_n (pc := 8) 0 dX9_chain_8 rfl ?_
    refine aw_iload_n (pc := 9) 2 dX9_chain_9 rfl ?_
    refine aw_callV (pc := 10) (As := [.int x2]) (rest := []) kcX9 nn_0 ki_0 rfl (ev_X9_isClub l x2 h) mfX9_isClub dX9_chain_10 lmX9_185 ⟨Nat.le_refl _, Nat.le_refl _⟩ (by decide) rfl rfl (Nat.le_of_ble_eq_true rfl) (nxI (fun r10_ τ10 h => ?_))
    refine aw_if_ne (pc := 13) 18 dX9_chain_13 (by decide) (fun q => ?_) (fun q => ?_)
    · have h := h.2 q
      refine aw_iconst (pc := 18) 1 dX9_chain_18 (by decide) ?_
      refine aw_iload_n (pc := 19) 1 dX9_chain_19 rfl ?_
      refine aw_ishl (pc := 20) dX9_chain_20 ?_
      refine aw_topi (fun v21 ev21 => ?_)
      have h := h v21 ev21
      refine aw_istore_n (pc := 21) (i := 3) [(3, .int v21), (0, .ref 0), (1, .int x1), (2, .int x2)] dX9_chain_21 rfl (by decide) rfl ?_
      refine aw_iconst (pc := 22) 0 dX9_chain_22 (by decide) ?_
      refine aw_istore (pc := 23) [(4, .int 0), (3, .int v21), (0, .ref 0), (1, .int x1), (2, .int x2)] dX9_chain_23 (by decide) rfl ?_
      refine aw_sub (L' := [(0, .ref 0), (2, .int x2), (3, .int v21), (4, .int 0)]) [2, 4, 1, 0] rfl ?_
      obtain ⟨nf, h⟩ := h
      exact bt_X9_chain_25 l x1 x2   nf v21 0  _ h
    · have h := h.1 q
      refine aw_iconst (pc := 16) (-1) dX9_chain_16 (by decide) ?_
      exact aw_iret (pc := 17) rfl dX9_chain_17 ⟨_, rfl, h⟩
def wp_X9_in (x1 : Int32) (σ : Sg) (K : Int32 → Sg → Prop) : Prop :=
  wp_X9_isCup x1 σ <| fun r2_ τ2 => (br (r2_ = 0) (K (-1) τ2) (wp_X6_stillIn 55 x1 τ2 <| fun r13_ τ13 => (K r13_ τ13)))
set_option maxRecDepth 20000 in
set_option maxHeartbeats 2000000 in
theorem ev_X9_in (l : Launch) (x1 : Int32) {σ : Sg} {K : Int32 → Sg → Prop} (h : wp_X9_in x1 σ K) : Ev l yX9_in cX9_in 2 (some .int) 4 [.ref 0, .int x1] σ (qI K) := by
  refine ev_ov (by decide) (Nat.le_of_ble_eq_true rfl) ?_
  show AV l RX9 cX9_in 2 (some .int) 4 (qI K) 0 [(0, .ref 0), (1, .int x1)] [] σ
  refine aw_aload_n (pc := 0) 0 dX9_in_0 rfl ?_
  refine aw_iload_n (pc := 1) 1 dX9_in_1 rfl ?_
  refine aw_callV (pc := 2) (As := [.int x1]) (rest := []) kcX9 nn_0 ki_0 rfl (ev_X9_isCup l x1 h) mfX9_isCup dX9_in_2 lmX9_201 ⟨Nat.le_refl _, Nat.le_refl _⟩ (by decide) rfl rfl (Nat.le_of_ble_eq_true rfl) (nxI (fun r2_ τ2 h => ?_))
  refine aw_if_eq (pc := 5) 19 dX9_in_5 (by decide) (fun q => ?_) (fun q => ?_)
  · have h := h.1 q
    refine aw_iconst (pc := 19) (-1) dX9_in_19 (by decide) ?_
    exact aw_iret (pc := 20) rfl dX9_in_20 ⟨_, rfl, h⟩
  · have h := h.2 q
    refine aw_aload_n (pc := 8) 0 dX9_in_8 rfl ?_
    refine aw_getR (pc := 9) 4 kcX9 dX9_in_9 lfX9_44 nn_0 ki_0 (by decide) rfl rf_0_4 ?_
    refine aw_iload_n (pc := 12) 1 dX9_in_12 rfl ?_
    refine aw_callVN (pc := 13) (As := [.int x1]) (rest := []) kcX6 nn_55 ki_55 rfl (ev_X6_stillIn l 55 sea_55 x1 h) mfX6_stillIn dX9_in_13 lmnX9_316 ⟨Nat.le_refl _, Nat.le_refl _⟩ (by decide) rfl rfl (Nat.le_of_ble_eq_true rfl) (nxI (fun r13_ τ13 h => ?_))
    refine aw_goto (pc := 16) 20 dX9_in_16 (by decide) ?_
    exact aw_iret (pc := 20) rfl dX9_in_20 ⟨_, rfl, h⟩
def b_X9_ranked_25 (x1 : Int32)  (K : Int32 → Sg → Prop) : Nat → Int32 → Int32 → Sg → Prop
  | 0, _, _, _ => False
  | n + 1, y2, y3, σ =>
  br ((σ 3 0) ≤ y3) (K y2 σ) (wp_X3_rankOf y3 (σ 3 0) σ <| fun r48_ τ48 => (br (r48_ = x1) (∀ v57 : Int32, v57 = y3 + 1 → (b_X9_ranked_25 x1  K n y3 v57 τ48)) (∀ v57 : Int32, v57 = y3 + 1 → (b_X9_ranked_25 x1  K n y2 v57 τ48))))
set_option maxRecDepth 20000 in
set_option maxHeartbeats 2000000 in
theorem bt_X9_ranked_25 (l : Launch) (x1 : Int32) {K : Int32 → Sg → Prop}   : ∀ (n : Nat) (y2 : Int32) (y3 : Int32)  (σ : Sg), b_X9_ranked_25 x1  K n y2 y3 σ → AV l RX9 cX9_ranked 4 (some .int) 7 (qI K) 25 [(0, .ref 0), (1, .int x1), (2, .int y2), (3, .int y3)] [] σ := by
  intro n
  induction n with
  | zero => intro y2 y3 σ h; exact h.elim
  | succ n ih =>
    intro y2 y3 σ h
    refine aw_iload_n (pc := 25) 3 dX9_ranked_25 rfl ?_
    refine aw_aload_n (pc := 26) 0 dX9_ranked_26 rfl ?_
    refine aw_getR (pc := 27) 1 kcX9 dX9_ranked_27 lfX9_21 nn_0 ki_0 (by decide) rfl rf_0_1 ?_
    refine aw_getIN (pc := 30) 0 kcX5 dX9_ranked_30 lfnX9_276 nn_3 ki_3 (by decide) rfl ?_
    refine aw_icmp_ge (pc := 33) 63 dX9_ranked_33 (by decide) (fun q => ?_) (fun q => ?_)
    · have h := h.1 q
      refine aw_iload_n (pc := 63) 2 dX9_ranked_63 rfl ?_
      exact aw_iret (pc := 64) rfl dX9_ranked_64 ⟨_, rfl, h⟩
    · have h := h.2 q
      refine aw_aload_n (pc := 36) 0 dX9_ranked_36 rfl ?_
      refine aw_getR (pc := 37) 9 kcX9 dX9_ranked_37 lfX9_73 nn_0 ki_0 (by decide) rfl rf_0_9 ?_
      refine aw_iload_n (pc := 40) 3 dX9_ranked_40 rfl ?_
      refine aw_aload_n (pc := 41) 0 dX9_ranked_41 rfl ?_
      refine aw_getR (pc := 42) 1 kcX9 dX9_ranked_42 lfX9_21 nn_0 ki_0 (by decide) rfl rf_0_1 ?_
      refine aw_getIN (pc := 45) 0 kcX5 dX9_ranked_45 lfnX9_276 nn_3 ki_3 (by decide) rfl ?_
      refine aw_callVN (pc := 48) (As := [.int y3, .int (σ 3 0)]) (rest := []) kcX3 nn_180 ki_180 rfl (ev_X3_rankOf l y3 (σ 3 0) h) mfX3_rankOf dX9_ranked_48 lmnX9_319 ⟨Nat.le_refl _, Nat.le_refl _⟩ (by decide) rfl rfl (Nat.le_of_ble_eq_true rfl) (nxI (fun r48_ τ48 h => ?_))
      refine aw_iload_n (pc := 51) 1 dX9_ranked_51 rfl ?_
      refine aw_icmp_ne (pc := 52) 57 dX9_ranked_52 (by decide) (fun q => ?_) (fun q => ?_)
      · have h := h.2 q
        obtain ⟨v57, ev57⟩ : ∃ v : Int32, v = y3 + 1 := ⟨_, rfl⟩
        have h := h v57 ev57
        refine aw_iinc (pc := 57) 3 v57 [(3, .int v57), (0, .ref 0), (1, .int x1), (2, .int y2)] dX9_ranked_57 rfl (by rw [ev57]; rfl) (by decide) rfl ?_
        refine aw_goto (pc := 60) 25 dX9_ranked_60 (by decide) ?_
        refine aw_sub (L' := [(0, .ref 0), (1, .int x1), (2, .int y2), (3, .int v57)]) [1, 2, 3, 0] rfl ?_
        exact ih y2 v57  _ h
      · have h := h.1 q
        refine aw_iload_n (pc := 55) 3 dX9_ranked_55 rfl ?_
        refine aw_istore_n (pc := 56) (i := 2) [(2, .int y3), (0, .ref 0), (1, .int x1), (3, .int y3)] dX9_ranked_56 rfl (by decide) rfl ?_
        obtain ⟨v57, ev57⟩ : ∃ v : Int32, v = y3 + 1 := ⟨_, rfl⟩
        have h := h v57 ev57
        refine aw_iinc (pc := 57) 3 v57 [(3, .int v57), (2, .int y3), (0, .ref 0), (1, .int x1)] dX9_ranked_57 rfl (by rw [ev57]; rfl) (by decide) rfl ?_
        refine aw_goto (pc := 60) 25 dX9_ranked_60 (by decide) ?_
        refine aw_sub (L' := [(0, .ref 0), (1, .int x1), (2, .int y3), (3, .int v57)]) [2, 3, 1, 0] rfl ?_
        exact ih y3 v57  _ h
def wp_X9_ranked (x1 : Int32) (σ : Sg) (K : Int32 → Sg → Prop) : Prop :=
  br (x1 < 0) (K (-1) σ) (br (x1 < (σ 3 0)) (wp_X9_reckon  σ <| fun τ18 => (∃ nf, b_X9_ranked_25 x1  K nf (-1) 0 τ18)) (K (-1) σ))
set_option maxRecDepth 20000 in
set_option maxHeartbeats 2000000 in
theorem ev_X9_ranked (l : Launch) (x1 : Int32) {σ : Sg} {K : Int32 → Sg → Prop} (h : wp_X9_ranked x1 σ K) : Ev l yX9_ranked cX9_ranked 4 (some .int) 7 [.ref 0, .int x1] σ (qI K) := by
  refine ev_ov (by decide) (Nat.le_of_ble_eq_true rfl) ?_
  show AV l RX9 cX9_ranked 4 (some .int) 7 (qI K) 0 [(0, .ref 0), (1, .int x1)] [] σ
  refine aw_iload_n (pc := 0) 1 dX9_ranked_0 rfl ?_
  refine aw_if_lt (pc := 1) 15 dX9_ranked_1 (by decide) (fun q => ?_) (fun q => ?_)
  · have h := h.1 q
    refine aw_iconst (pc := 15) (-1) dX9_ranked_15 (by decide) ?_
    exact aw_iret (pc := 16) rfl dX9_ranked_16 ⟨_, rfl, h⟩
  · have h := h.2 q
    refine aw_iload_n (pc := 4) 1 dX9_ranked_4 rfl ?_
    refine aw_aload_n (pc := 5) 0 dX9_ranked_5 rfl ?_
    refine aw_getR (pc := 6) 1 kcX9 dX9_ranked_6 lfX9_21 nn_0 ki_0 (by decide) rfl rf_0_1 ?_
    refine aw_getIN (pc := 9) 0 kcX5 dX9_ranked_9 lfnX9_276 nn_3 ki_3 (by decide) rfl ?_
    refine aw_icmp_lt (pc := 12) 17 dX9_ranked_12 (by decide) (fun q => ?_) (fun q => ?_)
    · have h := h.1 q
      refine aw_aload_n (pc := 17) 0 dX9_ranked_17 rfl ?_
      refine aw_callV (pc := 18) (As := []) (rest := []) kcX9 nn_0 ki_0 rfl (ev_X9_reckon l  h) mfX9_reckon dX9_ranked_18 lmX9_171 ⟨Nat.le_refl _, Nat.le_refl _⟩ (by decide) rfl rfl (Nat.le_of_ble_eq_true rfl) (nxV (fun τ18 h => ?_))
      refine aw_iconst (pc := 21) (-1) dX9_ranked_21 (by decide) ?_
      refine aw_istore_n (pc := 22) (i := 2) [(2, .int (-1)), (0, .ref 0), (1, .int x1)] dX9_ranked_22 rfl (by decide) rfl ?_
      refine aw_iconst (pc := 23) 0 dX9_ranked_23 (by decide) ?_
      refine aw_istore_n (pc := 24) (i := 3) [(3, .int 0), (2, .int (-1)), (0, .ref 0), (1, .int x1)] dX9_ranked_24 rfl (by decide) rfl ?_
      refine aw_sub (L' := [(0, .ref 0), (1, .int x1), (2, .int (-1)), (3, .int 0)]) [2, 3, 1, 0] rfl ?_
      obtain ⟨nf, h⟩ := h
      exact bt_X9_ranked_25 l x1   nf (-1) 0  _ h
    · have h := h.2 q
      refine aw_iconst (pc := 15) (-1) dX9_ranked_15 (by decide) ?_
      exact aw_iret (pc := 16) rfl dX9_ranked_16 ⟨_, rfl, h⟩
def b_X9_bands_15   (K : Int32 → Sg → Prop) : Nat → Int32 → Int32 → Int32 → Sg → Prop
  | 0, _, _, _, _ => False
  | n + 1, y1, y2, y3, σ =>
  br ((σ 3 0) ≤ y3) (K y2 σ) (br (((y1 >>> (y3 &&& 31)) &&& 1) = 0) (∀ v34 : Int32, v34 = y2 + 1 → (wp_X6_linkedWith 55 y3 σ <| fun r43_ τ43 => (∀ v47 : Int32, v47 = y1 ||| r43_ → (∀ v48 : Int32, v48 = y3 + 1 → (b_X9_bands_15   K n v47 v34 v48 τ43))))) (∀ v48 : Int32, v48 = y3 + 1 → (b_X9_bands_15   K n y1 y2 v48 σ)))
set_option maxRecDepth 20000 in
set_option maxHeartbeats 2000000 in
theorem bt_X9_bands_15 (l : Launch)  {K : Int32 → Sg → Prop}   : ∀ (n : Nat) (y1 : Int32) (y2 : Int32) (y3 : Int32)  (σ : Sg), b_X9_bands_15   K n y1 y2 y3 σ → AV l RX9 cX9_bands 4 (some .int) 2 (qI K) 15 [(0, .ref 0), (1, .int y1), (2, .int y2), (3, .int y3)] [] σ := by
  intro n
  induction n with
  | zero => intro y1 y2 y3 σ h; exact h.elim
  | succ n ih =>
    intro y1 y2 y3 σ h
    refine aw_iload_n (pc := 15) 3 dX9_bands_15 rfl ?_
    refine aw_aload_n (pc := 16) 0 dX9_bands_16 rfl ?_
    refine aw_getR (pc := 17) 1 kcX9 dX9_bands_17 lfX9_21 nn_0 ki_0 (by decide) rfl rf_0_1 ?_
    refine aw_getIN (pc := 20) 0 kcX5 dX9_bands_20 lfnX9_276 nn_3 ki_3 (by decide) rfl ?_
    refine aw_icmp_ge (pc := 23) 54 dX9_bands_23 (by decide) (fun q => ?_) (fun q => ?_)
    · have h := h.1 q
      refine aw_iload_n (pc := 54) 2 dX9_bands_54 rfl ?_
      exact aw_iret (pc := 55) rfl dX9_bands_55 ⟨_, rfl, h⟩
    · have h := h.2 q
      refine aw_iload_n (pc := 26) 1 dX9_bands_26 rfl ?_
      refine aw_iload_n (pc := 27) 3 dX9_bands_27 rfl ?_
      refine aw_ishr (pc := 28) dX9_bands_28 ?_
      refine aw_iconst (pc := 29) 1 dX9_bands_29 (by decide) ?_
      refine aw_iand (pc := 30) dX9_bands_30 ?_
      refine aw_if_ne (pc := 31) 48 dX9_bands_31 (by decide) (fun q => ?_) (fun q => ?_)
      · have h := h.2 q
        obtain ⟨v48, ev48⟩ : ∃ v : Int32, v = y3 + 1 := ⟨_, rfl⟩
        have h := h v48 ev48
        refine aw_iinc (pc := 48) 3 v48 [(3, .int v48), (0, .ref 0), (1, .int y1), (2, .int y2)] dX9_bands_48 rfl (by rw [ev48]; rfl) (by decide) rfl ?_
        refine aw_goto (pc := 51) 15 dX9_bands_51 (by decide) ?_
        refine aw_sub (L' := [(0, .ref 0), (1, .int y1), (2, .int y2), (3, .int v48)]) [1, 2, 3, 0] rfl ?_
        exact ih y1 y2 v48  _ h
      · have h := h.1 q
        obtain ⟨v34, ev34⟩ : ∃ v : Int32, v = y2 + 1 := ⟨_, rfl⟩
        have h := h v34 ev34
        refine aw_iinc (pc := 34) 2 v34 [(2, .int v34), (0, .ref 0), (1, .int y1), (3, .int y3)] dX9_bands_34 rfl (by rw [ev34]; rfl) (by decide) rfl ?_
        refine aw_iload_n (pc := 37) 2 dX9_bands_37 rfl ?_
        refine aw_aload_n (pc := 38) 1 dX9_bands_38 rfl ?_
        refine aw_getR (pc := 39) 4 kcX9 dX9_bands_39 lfX9_44 nn_0 ki_0 (by decide) rfl rf_0_4 ?_
        refine aw_iload_n (pc := 42) 3 dX9_bands_42 rfl ?_
        refine aw_callVN (pc := 43) (As := [.int y3]) (rest := [.int y1]) kcX6 nn_55 ki_55 rfl (ev_X6_linkedWith l 55 sea_55 y3 h) mfX6_linkedWith dX9_bands_43 lmnX9_322 ⟨Nat.le_refl _, Nat.le_refl _⟩ (by decide) rfl rfl (Nat.le_of_ble_eq_true rfl) (nxI (fun r43_ τ43 h => ?_))
        refine aw_ior (pc := 46) dX9_bands_46 ?_
        refine aw_topi (fun v47 ev47 => ?_)
        have h := h v47 ev47
        refine aw_istore_n (pc := 47) (i := 1) [(1, .int v47), (2, .int v34), (0, .ref 0), (3, .int y3)] dX9_bands_47 rfl (by decide) rfl ?_
        obtain ⟨v48, ev48⟩ : ∃ v : Int32, v = y3 + 1 := ⟨_, rfl⟩
        have h := h v48 ev48
        refine aw_iinc (pc := 48) 3 v48 [(3, .int v48), (1, .int v47), (2, .int v34), (0, .ref 0)] dX9_bands_48 rfl (by rw [ev48]; rfl) (by decide) rfl ?_
        refine aw_goto (pc := 51) 15 dX9_bands_51 (by decide) ?_
        refine aw_sub (L' := [(0, .ref 0), (1, .int v47), (2, .int v34), (3, .int v48)]) [3, 1, 2, 0] rfl ?_
        exact ih v47 v34 v48  _ h
def wp_X9_bands  (σ : Sg) (K : Int32 → Sg → Prop) : Prop :=
  wp_X9_hasBook  σ <| fun r1_ τ1 => (br (r1_ = 0) (K (-1) τ1) (∃ nf, b_X9_bands_15   K nf 0 0 0 τ1))
set_option maxRecDepth 20000 in
set_option maxHeartbeats 2000000 in
theorem ev_X9_bands (l : Launch)  {σ : Sg} {K : Int32 → Sg → Prop} (h : wp_X9_bands  σ K) : Ev l yX9_bands cX9_bands 4 (some .int) 2 [.ref 0] σ (qI K) := by
  refine ev_ov (by decide) (Nat.le_of_ble_eq_true rfl) ?_
  show AV l RX9 cX9_bands 4 (some .int) 2 (qI K) 0 [(0, .ref 0)] [] σ
  refine aw_aload_n (pc := 0) 0 dX9_bands_0 rfl ?_
  refine aw_callV (pc := 1) (As := []) (rest := []) kcX9 nn_0 ki_0 rfl (ev_X9_hasBook l  h) mfX9_hasBook dX9_bands_1 lmX9_117 ⟨Nat.le_refl _, Nat.le_refl _⟩ (by decide) rfl rfl (Nat.le_of_ble_eq_true rfl) (nxI (fun r1_ τ1 h => ?_))
  refine aw_if_ne (pc := 4) 9 dX9_bands_4 (by decide) (fun q => ?_) (fun q => ?_)
  · have h := h.2 q
    refine aw_iconst (pc := 9) 0 dX9_bands_9 (by decide) ?_
    refine aw_istore_n (pc := 10) (i := 1) [(1, .int 0), (0, .ref 0)] dX9_bands_10 rfl (by decide) rfl ?_
    refine aw_iconst (pc := 11) 0 dX9_bands_11 (by decide) ?_
    refine aw_istore_n (pc := 12) (i := 2) [(2, .int 0), (1, .int 0), (0, .ref 0)] dX9_bands_12 rfl (by decide) rfl ?_
    refine aw_iconst (pc := 13) 0 dX9_bands_13 (by decide) ?_
    refine aw_istore_n (pc := 14) (i := 3) [(3, .int 0), (2, .int 0), (1, .int 0), (0, .ref 0)] dX9_bands_14 rfl (by decide) rfl ?_
    refine aw_sub (L' := [(0, .ref 0), (1, .int 0), (2, .int 0), (3, .int 0)]) [3, 2, 1, 0] rfl ?_
    obtain ⟨nf, h⟩ := h
    exact bt_X9_bands_15 l    nf 0 0 0  _ h
  · have h := h.1 q
    refine aw_iconst (pc := 7) (-1) dX9_bands_7 (by decide) ?_
    exact aw_iret (pc := 8) rfl dX9_bands_8 ⟨_, rfl, h⟩
def wp_X9_hadOfGame (x1 : Int32) (x2 : Int32) (x3 : Int32) (x4 : Int32) (σ : Sg) (K : Int32 → Sg → Prop) : Prop :=
  vp_in x1 30 ∧ (wp_X9_splitGame x1 (σ 56 x1.toNatClampNeg) x2 x3 σ <| fun τ13 => (wp_X8_partOf x4 x2 τ13 <| fun r23_ τ23 => (K r23_ τ23)))
set_option maxRecDepth 20000 in
set_option maxHeartbeats 2000000 in
theorem ev_X9_hadOfGame (l : Launch) (x1 : Int32) (x2 : Int32) (x3 : Int32) (x4 : Int32) {σ : Sg} {K : Int32 → Sg → Prop} (h : wp_X9_hadOfGame x1 x2 x3 x4 σ K) : Ev l yX9_hadOfGame cX9_hadOfGame 5 (some .int) 4 [.ref 0, .int x1, .int x2, .int x3, .int x4] σ (qI K) := by
  refine ev_ov (by decide) (Nat.le_of_ble_eq_true rfl) ?_
  show AV l RX9 cX9_hadOfGame 5 (some .int) 4 (qI K) 0 [(0, .ref 0), (1, .int x1), (2, .int x2), (3, .int x3), (4, .int x4)] [] σ
  refine aw_aload_n (pc := 0) 0 dX9_hadOfGame_0 rfl ?_
  refine aw_iload_n (pc := 1) 1 dX9_hadOfGame_1 rfl ?_
  refine aw_aload_n (pc := 2) 0 dX9_hadOfGame_2 rfl ?_
  refine aw_getR (pc := 3) 4 kcX9 dX9_hadOfGame_3 lfX9_44 nn_0 ki_0 (by decide) rfl rf_0_4 ?_
  refine aw_getRN (pc := 6) 2 kcX6 dX9_hadOfGame_6 lfnX9_213 nn_55 ki_55 (by decide) rfl rf_55_2 ?_
  refine aw_iload_n (pc := 9) 1 dX9_hadOfGame_9 rfl ?_
  refine aw_iald (pc := 10) (j := x1.toNatClampNeg) dX9_hadOfGame_10 nn_56 ki_56 ln_56 h.1 rfl ?_
  have h := h.2
  refine aw_iload_n (pc := 11) 2 dX9_hadOfGame_11 rfl ?_
  refine aw_iload_n (pc := 12) 3 dX9_hadOfGame_12 rfl ?_
  refine aw_callV (pc := 13) (As := [.int x1, .int (σ 56 x1.toNatClampNeg), .int x2, .int x3]) (rest := []) kcX9 nn_0 ki_0 rfl (ev_X9_splitGame l x1 (σ 56 x1.toNatClampNeg) x2 x3 h) mfX9_splitGame dX9_hadOfGame_13 lmX9_240 ⟨Nat.le_refl _, Nat.le_refl _⟩ (by decide) rfl rfl (Nat.le_of_ble_eq_true rfl) (nxV (fun τ13 h => ?_))
  refine aw_aload_n (pc := 16) 0 dX9_hadOfGame_16 rfl ?_
  refine aw_getR (pc := 17) 8 kcX9 dX9_hadOfGame_17 lfX9_66 nn_0 ki_0 (by decide) rfl rf_0_8 ?_
  refine aw_iload (pc := 20) 4 dX9_hadOfGame_20 rfl ?_
  refine aw_iload_n (pc := 22) 2 dX9_hadOfGame_22 rfl ?_
  refine aw_callVN (pc := 23) (As := [.int x4, .int x2]) (rest := []) kcX8 nn_179 ki_179 rfl (ev_X8_partOf l x4 x2 h) mfX8_partOf dX9_hadOfGame_23 lmnX9_401 ⟨Nat.le_refl _, Nat.le_refl _⟩ (by decide) rfl rfl (Nat.le_of_ble_eq_true rfl) (nxI (fun r23_ τ23 h => ?_))
  exact aw_iret (pc := 26) rfl dX9_hadOfGame_26 ⟨_, rfl, h⟩
def wp_X9_brings (x1 : Int32) (x2 : Int32) (x3 : Int32) (σ : Sg) (K : Int32 → Sg → Prop) : Prop :=
  wp_X9_isTie x1 σ <| fun r2_ τ2 => (br (r2_ = 0) (K (-1) τ2) (wp_X9_isGate x2 τ2 <| fun r9_ τ9 => (br (r9_ = 0) (K (-1) τ9) (br (x3 < 0) (K (-1) τ9) (br (x3 ≤ 2) (vp_in x1 30 ∧ (wp_X9_hadOfGame x1 (τ9 60 x1.toNatClampNeg) x2 x3 τ9 <| fun r39_ τ39 => (K r39_ τ39))) (K (-1) τ9))))))
set_option maxRecDepth 20000 in
set_option maxHeartbeats 2000000 in
theorem ev_X9_brings (l : Launch) (x1 : Int32) (x2 : Int32) (x3 : Int32) {σ : Sg} {K : Int32 → Sg → Prop} (h : wp_X9_brings x1 x2 x3 σ K) : Ev l yX9_brings cX9_brings 4 (some .int) 5 [.ref 0, .int x1, .int x2, .int x3] σ (qI K) := by
  refine ev_ov (by decide) (Nat.le_of_ble_eq_true rfl) ?_
  show AV l RX9 cX9_brings 4 (some .int) 5 (qI K) 0 [(0, .ref 0), (1, .int x1), (2, .int x2), (3, .int x3)] [] σ
  refine aw_aload_n (pc := 0) 0 dX9_brings_0 rfl ?_
  refine aw_iload_n (pc := 1) 1 dX9_brings_1 rfl ?_
  refine aw_callV (pc := 2) (As := [.int x1]) (rest := []) kcX9 nn_0 ki_0 rfl (ev_X9_isTie l x1 h) mfX9_isTie dX9_brings_2 lmX9_210 ⟨Nat.le_refl _, Nat.le_refl _⟩ (by decide) rfl rfl (Nat.le_of_ble_eq_true rfl) (nxI (fun r2_ τ2 h => ?_))
  refine aw_if_eq (pc := 5) 24 dX9_brings_5 (by decide) (fun q => ?_) (fun q => ?_)
  · have h := h.1 q
    refine aw_iconst (pc := 24) (-1) dX9_brings_24 (by decide) ?_
    exact aw_iret (pc := 25) rfl dX9_brings_25 ⟨_, rfl, h⟩
  · have h := h.2 q
    refine aw_iload_n (pc := 8) 2 dX9_brings_8 rfl ?_
    refine aw_callS (pc := 9) (As := [.int x2]) (rest := []) (ev_X9_isGate l x2 h) mfX9_isGate dX9_brings_9 lmX9_325 ⟨Nat.le_refl _, Nat.le_refl _⟩ (by decide) rfl rfl (Nat.le_of_ble_eq_true rfl) (nxI (fun r9_ τ9 h => ?_))
    refine aw_if_eq (pc := 12) 24 dX9_brings_12 (by decide) (fun q => ?_) (fun q => ?_)
    · have h := h.1 q
      refine aw_iconst (pc := 24) (-1) dX9_brings_24 (by decide) ?_
      exact aw_iret (pc := 25) rfl dX9_brings_25 ⟨_, rfl, h⟩
    · have h := h.2 q
      refine aw_iload_n (pc := 15) 3 dX9_brings_15 rfl ?_
      refine aw_if_lt (pc := 16) 24 dX9_brings_16 (by decide) (fun q => ?_) (fun q => ?_)
      · have h := h.1 q
        refine aw_iconst (pc := 24) (-1) dX9_brings_24 (by decide) ?_
        exact aw_iret (pc := 25) rfl dX9_brings_25 ⟨_, rfl, h⟩
      · have h := h.2 q
        refine aw_iload_n (pc := 19) 3 dX9_brings_19 rfl ?_
        refine aw_iconst (pc := 20) 2 dX9_brings_20 (by decide) ?_
        refine aw_icmp_le (pc := 21) 26 dX9_brings_21 (by decide) (fun q => ?_) (fun q => ?_)
        · have h := h.1 q
          refine aw_aload_n (pc := 26) 0 dX9_brings_26 rfl ?_
          refine aw_iload_n (pc := 27) 1 dX9_brings_27 rfl ?_
          refine aw_aload_n (pc := 28) 0 dX9_brings_28 rfl ?_
          refine aw_getR (pc := 29) 4 kcX9 dX9_brings_29 lfX9_44 nn_0 ki_0 (by decide) rfl rf_0_4 ?_
          refine aw_getRN (pc := 32) 6 kcX6 dX9_brings_32 lfnX9_159 nn_55 ki_55 (by decide) rfl rf_55_6 ?_
          refine aw_iload_n (pc := 35) 1 dX9_brings_35 rfl ?_
          refine aw_iald (pc := 36) (j := x1.toNatClampNeg) dX9_brings_36 nn_60 ki_60 ln_60 h.1 rfl ?_
          have h := h.2
          refine aw_iload_n (pc := 37) 2 dX9_brings_37 rfl ?_
          refine aw_iload_n (pc := 38) 3 dX9_brings_38 rfl ?_
          refine aw_callV (pc := 39) (As := [.int x1, .int (τ9 60 x1.toNatClampNeg), .int x2, .int x3]) (rest := []) kcX9 nn_0 ki_0 rfl (ev_X9_hadOfGame l x1 (τ9 60 x1.toNatClampNeg) x2 x3 h) mfX9_hadOfGame dX9_brings_39 lmX9_328 ⟨Nat.le_refl _, Nat.le_refl _⟩ (by decide) rfl rfl (Nat.le_of_ble_eq_true rfl) (nxI (fun r39_ τ39 h => ?_))
          exact aw_iret (pc := 42) rfl dX9_brings_42 ⟨_, rfl, h⟩
        · have h := h.2 q
          refine aw_iconst (pc := 24) (-1) dX9_brings_24 (by decide) ?_
          exact aw_iret (pc := 25) rfl dX9_brings_25 ⟨_, rfl, h⟩
def b_X9_leastWithoutRest_10 (x1 : Int32) (x2 : Int32) (x3 : Int32) (x4 : Int32)  (K : Int32 → Sg → Prop) : Nat → Int32 → Int32 → Int32 → Sg → Prop
  | 0, _, _, _, _ => False
  | n + 1, y5, y6, y7, σ =>
  br (32 ≤ y7) (K y5 σ) (br (y6 ≤ y5) (K y5 σ) (∀ v31 : Int32, v31 = (y5 + y6) / 2 → (vp_in x1 30 ∧ (wp_X9_hadOfGame x1 (σ 60 x1.toNatClampNeg) v31 x3 σ <| fun r47_ τ47 => (br (r47_ < x2) (∀ v65 : Int32, v65 = v31 + 1 → (∀ v67 : Int32, v67 = y7 + 1 → (b_X9_leastWithoutRest_10 x1 x2 x3 x4  K n v65 y6 v67 τ47))) (∀ v67 : Int32, v67 = y7 + 1 → (b_X9_leastWithoutRest_10 x1 x2 x3 x4  K n y5 v31 v67 τ47)))))))
set_option maxRecDepth 20000 in
set_option maxHeartbeats 2000000 in
theorem bt_X9_leastWithoutRest_10 (l : Launch) (x1 : Int32) (x2 : Int32) (x3 : Int32) (x4 : Int32) {K : Int32 → Sg → Prop}   : ∀ (n : Nat) (y5 : Int32) (y6 : Int32) (y7 : Int32)  (σ : Sg), b_X9_leastWithoutRest_10 x1 x2 x3 x4  K n y5 y6 y7 σ → AV l RX9 cX9_leastWithoutRest 9 (some .int) 5 (qI K) 10 [(0, .ref 0), (1, .int x1), (2, .int x2), (3, .int x3), (5, .int y5), (6, .int y6), (7, .int y7)] [] σ := by
  intro n
  induction n with
  | zero => intro y5 y6 y7 σ h; exact h.elim
  | succ n ih =>
    intro y5 y6 y7 σ h
    refine aw_iload (pc := 10) 6 dX9_leastWithoutRest_10 rfl ?_
    refine aw_bipush (pc := 12) 32 dX9_leastWithoutRest_12 (by decide) ?_
    refine aw_icmp_ge (pc := 14) 73 dX9_leastWithoutRest_14 (by decide) (fun q => ?_) (fun q => ?_)
    · have h := h.1 q
      refine aw_iload (pc := 73) 4 dX9_leastWithoutRest_73 rfl ?_
      exact aw_iret (pc := 75) rfl dX9_leastWithoutRest_75 ⟨_, rfl, h⟩
    · have h := h.2 q
      refine aw_iload (pc := 17) 4 dX9_leastWithoutRest_17 rfl ?_
      refine aw_iload (pc := 19) 5 dX9_leastWithoutRest_19 rfl ?_
      refine aw_icmp_ge (pc := 21) 73 dX9_leastWithoutRest_21 (by decide) (fun q => ?_) (fun q => ?_)
      · have h := h.1 q
        refine aw_iload (pc := 73) 4 dX9_leastWithoutRest_73 rfl ?_
        exact aw_iret (pc := 75) rfl dX9_leastWithoutRest_75 ⟨_, rfl, h⟩
      · have h := h.2 q
        refine aw_iload (pc := 24) 4 dX9_leastWithoutRest_24 rfl ?_
        refine aw_iload (pc := 26) 5 dX9_leastWithoutRest_26 rfl ?_
        refine aw_iadd (pc := 28) dX9_leastWithoutRest_28 ?_
        refine aw_iconst (pc := 29) 2 dX9_leastWithoutRest_29 (by decide) ?_
        refine aw_idiv (pc := 30) dX9_leastWithoutRest_30 (by decide) ?_
        refine aw_topi (fun v31 ev31 => ?_)
        have h := h v31 ev31
        refine aw_istore (pc := 31) [(8, .int v31), (0, .ref 0), (1, .int x1), (2, .int x2), (3, .int x3), (5, .int y5), (6, .int y6), (7, .int y7)] dX9_leastWithoutRest_31 (by decide) rfl ?_
        refine aw_aload_n (pc := 33) 1 dX9_leastWithoutRest_33 rfl ?_
        refine aw_iload_n (pc := 34) 2 dX9_leastWithoutRest_34 rfl ?_
        refine aw_aload_n (pc := 35) 1 dX9_leastWithoutRest_35 rfl ?_
        refine aw_getR (pc := 36) 4 kcX9 dX9_leastWithoutRest_36 lfX9_44 nn_0 ki_0 (by decide) rfl rf_0_4 ?_
        refine aw_getRN (pc := 39) 6 kcX6 dX9_leastWithoutRest_39 lfnX9_159 nn_55 ki_55 (by decide) rfl rf_55_6 ?_
        refine aw_iload_n (pc := 42) 2 dX9_leastWithoutRest_42 rfl ?_
        refine aw_iald (pc := 43) (j := x1.toNatClampNeg) dX9_leastWithoutRest_43 nn_60 ki_60 ln_60 h.1 rfl ?_
        have h := h.2
        refine aw_iload (pc := 44) 0 dX9_leastWithoutRest_44 rfl ?_
        refine aw_iload_n (pc := 46) 4 dX9_leastWithoutRest_46 rfl ?_
        refine aw_callV (pc := 47) (As := [.int x1, .int (σ 60 x1.toNatClampNeg), .int v31, .int x3]) (rest := []) kcX9 nn_0 ki_0 rfl (ev_X9_hadOfGame l x1 (σ 60 x1.toNatClampNeg) v31 x3 h) mfX9_hadOfGame dX9_leastWithoutRest_47 lmX9_328 ⟨Nat.le_refl _, Nat.le_refl _⟩ (by decide) rfl rfl (Nat.le_of_ble_eq_true rfl) (nxI (fun r47_ τ47 h => ?_))
        refine aw_iload_n (pc := 50) 3 dX9_leastWithoutRest_50 rfl ?_
        refine aw_icmp_lt (pc := 51) 61 dX9_leastWithoutRest_51 (by decide) (fun q => ?_) (fun q => ?_)
        · have h := h.1 q
          refine aw_iload (pc := 61) 0 dX9_leastWithoutRest_61 rfl ?_
          refine aw_iconst (pc := 63) 1 dX9_leastWithoutRest_63 (by decide) ?_
          refine aw_iadd (pc := 64) dX9_leastWithoutRest_64 ?_
          refine aw_topi (fun v65 ev65 => ?_)
          have h := h v65 ev65
          refine aw_istore (pc := 65) [(5, .int v65), (8, .int v31), (0, .ref 0), (1, .int x1), (2, .int x2), (3, .int x3), (6, .int y6), (7, .int y7)] dX9_leastWithoutRest_65 (by decide) rfl ?_
          obtain ⟨v67, ev67⟩ : ∃ v : Int32, v = y7 + 1 := ⟨_, rfl⟩
          have h := h v67 ev67
          refine aw_iinc (pc := 67) 7 v67 [(7, .int v67), (5, .int v65), (8, .int v31), (0, .ref 0), (1, .int x1), (2, .int x2), (3, .int x3), (6, .int y6)] dX9_leastWithoutRest_67 rfl (by rw [ev67]; rfl) (by decide) rfl ?_
          refine aw_goto (pc := 70) 10 dX9_leastWithoutRest_70 (by decide) ?_
          refine aw_sub (L' := [(0, .ref 0), (1, .int x1), (2, .int x2), (3, .int x3), (5, .int v65), (6, .int y6), (7, .int v67)]) [3, 4, 5, 6, 1, 7, 0] rfl ?_
          exact ih v65 y6 v67  _ h
        · have h := h.2 q
          refine aw_iload (pc := 54) 0 dX9_leastWithoutRest_54 rfl ?_
          refine aw_istore (pc := 56) [(6, .int v31), (8, .int v31), (0, .ref 0), (1, .int x1), (2, .int x2), (3, .int x3), (5, .int y5), (7, .int y7)] dX9_leastWithoutRest_56 (by decide) rfl ?_
          refine aw_goto (pc := 58) 67 dX9_leastWithoutRest_58 (by decide) ?_
          obtain ⟨v67, ev67⟩ : ∃ v : Int32, v = y7 + 1 := ⟨_, rfl⟩
          have h := h v67 ev67
          refine aw_iinc (pc := 67) 7 v67 [(7, .int v67), (6, .int v31), (8, .int v31), (0, .ref 0), (1, .int x1), (2, .int x2), (3, .int x3), (5, .int y5)] dX9_leastWithoutRest_67 rfl (by rw [ev67]; rfl) (by decide) rfl ?_
          refine aw_goto (pc := 70) 10 dX9_leastWithoutRest_70 (by decide) ?_
          refine aw_sub (L' := [(0, .ref 0), (1, .int x1), (2, .int x2), (3, .int x3), (5, .int y5), (6, .int v31), (7, .int v67)]) [3, 4, 5, 6, 7, 1, 0] rfl ?_
          exact ih y5 v31 v67  _ h
def wp_X9_leastWithoutRest (x1 : Int32) (x2 : Int32) (x3 : Int32) (x4 : Int32) (σ : Sg) (K : Int32 → Sg → Prop) : Prop :=
  ∃ nf, b_X9_leastWithoutRest_10 x1 x2 x3 x4  K nf 0 x4 0 σ
set_option maxRecDepth 20000 in
set_option maxHeartbeats 2000000 in
theorem ev_X9_leastWithoutRest (l : Launch) (x1 : Int32) (x2 : Int32) (x3 : Int32) (x4 : Int32) {σ : Sg} {K : Int32 → Sg → Prop} (h : wp_X9_leastWithoutRest x1 x2 x3 x4 σ K) : Ev l yX9_leastWithoutRest cX9_leastWithoutRest 9 (some .int) 5 [.ref 0, .int x1, .int x2, .int x3, .int x4] σ (qI K) := by
  refine ev_ov (by decide) (Nat.le_of_ble_eq_true rfl) ?_
  show AV l RX9 cX9_leastWithoutRest 9 (some .int) 5 (qI K) 0 [(0, .ref 0), (1, .int x1), (2, .int x2), (3, .int x3), (4, .int x4)] [] σ
  refine aw_iconst (pc := 0) 0 dX9_leastWithoutRest_0 (by decide) ?_
  refine aw_istore (pc := 1) [(5, .int 0), (0, .ref 0), (1, .int x1), (2, .int x2), (3, .int x3), (4, .int x4)] dX9_leastWithoutRest_1 (by decide) rfl ?_
  refine aw_iload (pc := 3) 5 dX9_leastWithoutRest_3 rfl ?_
  refine aw_istore (pc := 5) [(6, .int x4), (5, .int 0), (0, .ref 0), (1, .int x1), (2, .int x2), (3, .int x3), (4, .int x4)] dX9_leastWithoutRest_5 (by decide) rfl ?_
  refine aw_iconst (pc := 7) 0 dX9_leastWithoutRest_7 (by decide) ?_
  refine aw_istore (pc := 8) [(7, .int 0), (6, .int x4), (5, .int 0), (0, .ref 0), (1, .int x1), (2, .int x2), (3, .int x3), (4, .int x4)] dX9_leastWithoutRest_8 (by decide) rfl ?_
  refine aw_sub (L' := [(0, .ref 0), (1, .int x1), (2, .int x2), (3, .int x3), (5, .int 0), (6, .int x4), (7, .int 0)]) [3, 4, 5, 6, 2, 1, 0] rfl ?_
  obtain ⟨nf, h⟩ := h
  exact bt_X9_leastWithoutRest_10 l x1 x2 x3 x4   nf 0 x4 0  _ h
def b_X9_firstInHundred_17 (x1 : Int32) (x2 : Int32) (x3 : Int32) (x4 : Int32)  (K : Int32 → Sg → Prop) : Nat → Int32 → Int32 → Sg → Prop
  | 0, _, _, _ => False
  | n + 1, y5, y6, σ =>
  br (y5 ≤ y6) (K (-2) σ) (vp_in x1 30 ∧ (wp_X9_hadOfGame x1 (σ 60 x1.toNatClampNeg) y6 x3 σ <| fun r38_ τ38 => (br (r38_ < x2) (∀ v48 : Int32, v48 = y6 + 1 → (b_X9_firstInHundred_17 x1 x2 x3 x4  K n y5 v48 τ38)) (K y6 τ38))))
set_option maxRecDepth 20000 in
set_option maxHeartbeats 2000000 in
theorem bt_X9_firstInHundred_17 (l : Launch) (x1 : Int32) (x2 : Int32) (x3 : Int32) (x4 : Int32) {K : Int32 → Sg → Prop}   : ∀ (n : Nat) (y5 : Int32) (y6 : Int32)  (σ : Sg), b_X9_firstInHundred_17 x1 x2 x3 x4  K n y5 y6 σ → AV l RX9 cX9_firstInHundred 7 (some .int) 5 (qI K) 17 [(0, .ref 0), (1, .int x1), (2, .int x2), (3, .int x3), (5, .int y5), (6, .int y6)] [] σ := by
  intro n
  induction n with
  | zero => intro y5 y6 σ h; exact h.elim
  | succ n ih =>
    intro y5 y6 σ h
    refine aw_iload (pc := 17) 5 dX9_firstInHundred_17 rfl ?_
    refine aw_iload (pc := 19) 4 dX9_firstInHundred_19 rfl ?_
    refine aw_icmp_ge (pc := 21) 54 dX9_firstInHundred_21 (by decide) (fun q => ?_) (fun q => ?_)
    · have h := h.1 q
      refine aw_bipush (pc := 54) (-2) dX9_firstInHundred_54 (by decide) ?_
      exact aw_iret (pc := 56) rfl dX9_firstInHundred_56 ⟨_, rfl, h⟩
    · have h := h.2 q
      refine aw_aload_n (pc := 24) 0 dX9_firstInHundred_24 rfl ?_
      refine aw_iload_n (pc := 25) 1 dX9_firstInHundred_25 rfl ?_
      refine aw_aload_n (pc := 26) 0 dX9_firstInHundred_26 rfl ?_
      refine aw_getR (pc := 27) 4 kcX9 dX9_firstInHundred_27 lfX9_44 nn_0 ki_0 (by decide) rfl rf_0_4 ?_
      refine aw_getRN (pc := 30) 6 kcX6 dX9_firstInHundred_30 lfnX9_159 nn_55 ki_55 (by decide) rfl rf_55_6 ?_
      refine aw_iload_n (pc := 33) 1 dX9_firstInHundred_33 rfl ?_
      refine aw_iald (pc := 34) (j := x1.toNatClampNeg) dX9_firstInHundred_34 nn_60 ki_60 ln_60 h.1 rfl ?_
      have h := h.2
      refine aw_iload (pc := 35) 5 dX9_firstInHundred_35 rfl ?_
      refine aw_iload_n (pc := 37) 3 dX9_firstInHundred_37 rfl ?_
      refine aw_callV (pc := 38) (As := [.int x1, .int (σ 60 x1.toNatClampNeg), .int y6, .int x3]) (rest := []) kcX9 nn_0 ki_0 rfl (ev_X9_hadOfGame l x1 (σ 60 x1.toNatClampNeg) y6 x3 h) mfX9_hadOfGame dX9_firstInHundred_38 lmX9_328 ⟨Nat.le_refl _, Nat.le_refl _⟩ (by decide) rfl rfl (Nat.le_of_ble_eq_true rfl) (nxI (fun r38_ τ38 h => ?_))
      refine aw_iload_n (pc := 41) 2 dX9_firstInHundred_41 rfl ?_
      refine aw_icmp_lt (pc := 42) 48 dX9_firstInHundred_42 (by decide) (fun q => ?_) (fun q => ?_)
      · have h := h.1 q
        obtain ⟨v48, ev48⟩ : ∃ v : Int32, v = y6 + 1 := ⟨_, rfl⟩
        have h := h v48 ev48
        refine aw_iinc (pc := 48) 5 v48 [(6, .int v48), (0, .ref 0), (1, .int x1), (2, .int x2), (3, .int x3), (5, .int y5)] dX9_firstInHundred_48 rfl (by rw [ev48]; rfl) (by decide) rfl ?_
        refine aw_goto (pc := 51) 17 dX9_firstInHundred_51 (by decide) ?_
        refine aw_sub (L' := [(0, .ref 0), (1, .int x1), (2, .int x2), (3, .int x3), (5, .int y5), (6, .int v48)]) [1, 2, 3, 4, 5, 0] rfl ?_
        exact ih y5 v48  _ h
      · have h := h.2 q
        refine aw_iload (pc := 45) 5 dX9_firstInHundred_45 rfl ?_
        exact aw_iret (pc := 47) rfl dX9_firstInHundred_47 ⟨_, rfl, h⟩
def wp_X9_firstInHundred (x1 : Int32) (x2 : Int32) (x3 : Int32) (x4 : Int32) (σ : Sg) (K : Int32 → Sg → Prop) : Prop :=
  ∀ v11 : Int32, v11 = (if 100000 < (x4 + 100) then 100000 else (x4 + 100)) → (∃ nf, b_X9_firstInHundred_17 x1 x2 x3 x4  K nf v11 x4 σ)
set_option maxRecDepth 20000 in
set_option maxHeartbeats 2000000 in
theorem ev_X9_firstInHundred (l : Launch) (x1 : Int32) (x2 : Int32) (x3 : Int32) (x4 : Int32) {σ : Sg} {K : Int32 → Sg → Prop} (h : wp_X9_firstInHundred x1 x2 x3 x4 σ K) : Ev l yX9_firstInHundred cX9_firstInHundred 7 (some .int) 5 [.ref 0, .int x1, .int x2, .int x3, .int x4] σ (qI K) := by
  refine ev_ov (by decide) (Nat.le_of_ble_eq_true rfl) ?_
  show AV l RX9 cX9_firstInHundred 7 (some .int) 5 (qI K) 0 [(0, .ref 0), (1, .int x1), (2, .int x2), (3, .int x3), (4, .int x4)] [] σ
  refine aw_iload (pc := 0) 4 dX9_firstInHundred_0 rfl ?_
  refine aw_bipush (pc := 2) 100 dX9_firstInHundred_2 (by decide) ?_
  refine aw_iadd (pc := 4) dX9_firstInHundred_4 ?_
  refine aw_ldcw (pc := 5) 100000 dX9_firstInHundred_5 lcX9_404 ?_
  refine aw_mmin (pc := 8) dX9_firstInHundred_8 lmX9_408 lib_min.1 lib_min.2.1 lib_min.2.2 ⟨Nat.le_refl _, Nat.le_refl _⟩ (by decide) (Nat.le_of_ble_eq_true rfl) ?_
  refine aw_topi (fun v11 ev11 => ?_)
  have h := h v11 ev11
  refine aw_istore (pc := 11) [(5, .int v11), (0, .ref 0), (1, .int x1), (2, .int x2), (3, .int x3), (4, .int x4)] dX9_firstInHundred_11 (by decide) rfl ?_
  refine aw_iload (pc := 13) 5 dX9_firstInHundred_13 rfl ?_
  refine aw_istore (pc := 15) [(6, .int x4), (5, .int v11), (0, .ref 0), (1, .int x1), (2, .int x2), (3, .int x3), (4, .int x4)] dX9_firstInHundred_15 (by decide) rfl ?_
  refine aw_sub (L' := [(0, .ref 0), (1, .int x1), (2, .int x2), (3, .int x3), (5, .int v11), (6, .int x4)]) [2, 3, 4, 5, 1, 0] rfl ?_
  obtain ⟨nf, h⟩ := h
  exact bt_X9_firstInHundred_17 l x1 x2 x3 x4   nf v11 x4  _ h
def b_X9_leastWithRest_79 (x1 : Int32) (x2 : Int32) (x3 : Int32) (x4 : Int32)  (K : Int32 → Sg → Prop) (y5 : Int32) (σ : Sg) : Prop :=
  wp_X9_firstInHundred x1 x2 x3 (x4 + (y5 * 100)) σ <| fun r91_ τ91 => (K r91_ τ91)
set_option maxRecDepth 20000 in
set_option maxHeartbeats 2000000 in
theorem bt_X9_leastWithRest_79 (l : Launch) (x1 : Int32) (x2 : Int32) (x3 : Int32) (x4 : Int32) {K : Int32 → Sg → Prop}   (y5 : Int32)  (σ : Sg) (h : b_X9_leastWithRest_79 x1 x2 x3 x4  K y5 σ) : AV l RX9 cX9_leastWithRest 9 (some .int) 6 (qI K) 79 [(0, .ref 0), (1, .int x1), (2, .int x2), (3, .int x3), (4, .int x4), (5, .int y5)] [] σ := by
  refine aw_aload_n (pc := 79) 0 dX9_leastWithRest_79 rfl ?_
  refine aw_iload_n (pc := 80) 1 dX9_leastWithRest_80 rfl ?_
  refine aw_iload_n (pc := 81) 2 dX9_leastWithRest_81 rfl ?_
  refine aw_iload_n (pc := 82) 3 dX9_leastWithRest_82 rfl ?_
  refine aw_iload (pc := 83) 4 dX9_leastWithRest_83 rfl ?_
  refine aw_iload (pc := 85) 5 dX9_leastWithRest_85 rfl ?_
  refine aw_bipush (pc := 87) 100 dX9_leastWithRest_87 (by decide) ?_
  refine aw_imul (pc := 89) dX9_leastWithRest_89 ?_
  refine aw_iadd (pc := 90) dX9_leastWithRest_90 ?_
  refine aw_callV (pc := 91) (As := [.int x1, .int x2, .int x3, .int (x4 + (y5 * 100))]) (rest := []) kcX9 nn_0 ki_0 rfl (ev_X9_firstInHundred l x1 x2 x3 (x4 + (y5 * 100)) h) mfX9_firstInHundred dX9_leastWithRest_91 lmX9_405 ⟨Nat.le_refl _, Nat.le_refl _⟩ (by decide) rfl rfl (Nat.le_of_ble_eq_true rfl) (nxI (fun r91_ τ91 h => ?_))
  exact aw_iret (pc := 94) rfl dX9_leastWithRest_94 ⟨_, rfl, h⟩
def b_X9_leastWithRest_17 (x1 : Int32) (x2 : Int32) (x3 : Int32) (x4 : Int32)  (K : Int32 → Sg → Prop) : Nat → Int32 → Int32 → Int32 → Sg → Prop
  | 0, _, _, _, _ => False
  | n + 1, y5, y6, y7, σ =>
  br (32 ≤ y7) (b_X9_leastWithRest_79 x1 x2 x3 x4  K y5 σ) (br (y6 ≤ y5) (b_X9_leastWithRest_79 x1 x2 x3 x4  K y5 σ) (∀ v38 : Int32, v38 = (y5 + y6) / 2 → (wp_X9_firstInHundred x1 x2 x3 (x4 + (v38 * 100)) σ <| fun r52_ τ52 => (br (r52_ = (-2)) (∀ v71 : Int32, v71 = v38 + 1 → (∀ v73 : Int32, v73 = y7 + 1 → (b_X9_leastWithRest_17 x1 x2 x3 x4  K n v71 y6 v73 τ52))) (∀ v73 : Int32, v73 = y7 + 1 → (b_X9_leastWithRest_17 x1 x2 x3 x4  K n y5 v38 v73 τ52))))))
set_option maxRecDepth 20000 in
set_option maxHeartbeats 2000000 in
theorem bt_X9_leastWithRest_17 (l : Launch) (x1 : Int32) (x2 : Int32) (x3 : Int32) (x4 : Int32) {K : Int32 → Sg → Prop}   : ∀ (n : Nat) (y5 : Int32) (y6 : Int32) (y7 : Int32)  (σ : Sg), b_X9_leastWithRest_17 x1 x2 x3 x4  K n y5 y6 y7 σ → AV l RX9 cX9_leastWithRest 9 (some .int) 6 (qI K) 17 [(0, .ref 0), (1, .int x1), (2, .int x2), (3, .int x3), (4, .int x4), (5, .int y5), (6, .int y6), (7, .int y7)] [] σ := by
  intro n
  induction n with
  | zero => intro y5 y6 y7 σ h; exact h.elim
  | succ n ih =>
    intro y5 y6 y7 σ h
    refine aw_iload (pc := 17) 7 dX9_leastWithRest_17 rfl ?_
    refine aw_bipush (pc := 19) 32 dX9_leastWithRest_19 (by decide) ?_
    refine aw_icmp_ge (pc := 21) 79 dX9_leastWithRest_21 (by decide) (fun q => ?_) (fun q => ?_)
    · have h := h.1 q
      refine aw_sub (L' := [(0, .ref 0), (1, .int x1), (2, .int x2), (3, .int x3), (4, .int x4), (5, .int y5)]) [0, 1, 2, 3, 4, 5] rfl ?_
      exact bt_X9_leastWithRest_79 l x1 x2 x3 x4   y5  _ h
    · have h := h.2 q
      refine aw_iload (pc := 24) 5 dX9_leastWithRest_24 rfl ?_
      refine aw_iload (pc := 26) 6 dX9_leastWithRest_26 rfl ?_
      refine aw_icmp_ge (pc := 28) 79 dX9_leastWithRest_28 (by decide) (fun q => ?_) (fun q => ?_)
      · have h := h.1 q
        refine aw_sub (L' := [(0, .ref 0), (1, .int x1), (2, .int x2), (3, .int x3), (4, .int x4), (5, .int y5)]) [0, 1, 2, 3, 4, 5] rfl ?_
        exact bt_X9_leastWithRest_79 l x1 x2 x3 x4   y5  _ h
      · have h := h.2 q
        refine aw_iload (pc := 31) 5 dX9_leastWithRest_31 rfl ?_
        refine aw_iload (pc := 33) 6 dX9_leastWithRest_33 rfl ?_
        refine aw_iadd (pc := 35) dX9_leastWithRest_35 ?_
        refine aw_iconst (pc := 36) 2 dX9_leastWithRest_36 (by decide) ?_
        refine aw_idiv (pc := 37) dX9_leastWithRest_37 (by decide) ?_
        refine aw_topi (fun v38 ev38 => ?_)
        have h := h v38 ev38
        refine aw_istore (pc := 38) [(8, .int v38), (0, .ref 0), (1, .int x1), (2, .int x2), (3, .int x3), (4, .int x4), (5, .int y5), (6, .int y6), (7, .int y7)] dX9_leastWithRest_38 (by decide) rfl ?_
        refine aw_aload_n (pc := 40) 1 dX9_leastWithRest_40 rfl ?_
        refine aw_iload_n (pc := 41) 2 dX9_leastWithRest_41 rfl ?_
        refine aw_iload_n (pc := 42) 3 dX9_leastWithRest_42 rfl ?_
        refine aw_iload_n (pc := 43) 4 dX9_leastWithRest_43 rfl ?_
        refine aw_iload (pc := 44) 5 dX9_leastWithRest_44 rfl ?_
        refine aw_iload (pc := 46) 0 dX9_leastWithRest_46 rfl ?_
        refine aw_bipush (pc := 48) 100 dX9_leastWithRest_48 (by decide) ?_
        refine aw_imul (pc := 50) dX9_leastWithRest_50 ?_
        refine aw_iadd (pc := 51) dX9_leastWithRest_51 ?_
        refine aw_callV (pc := 52) (As := [.int x1, .int x2, .int x3, .int (x4 + (v38 * 100))]) (rest := []) kcX9 nn_0 ki_0 rfl (ev_X9_firstInHundred l x1 x2 x3 (x4 + (v38 * 100)) h) mfX9_firstInHundred dX9_leastWithRest_52 lmX9_405 ⟨Nat.le_refl _, Nat.le_refl _⟩ (by decide) rfl rfl (Nat.le_of_ble_eq_true rfl) (nxI (fun r52_ τ52 h => ?_))
        refine aw_bipush (pc := 55) (-2) dX9_leastWithRest_55 (by decide) ?_
        refine aw_icmp_eq (pc := 57) 67 dX9_leastWithRest_57 (by decide) (fun q => ?_) (fun q => ?_)
        · have h := h.1 q
          refine aw_iload (pc := 67) 0 dX9_leastWithRest_67 rfl ?_
          refine aw_iconst (pc := 69) 1 dX9_leastWithRest_69 (by decide) ?_
          refine aw_iadd (pc := 70) dX9_leastWithRest_70 ?_
          refine aw_topi (fun v71 ev71 => ?_)
          have h := h v71 ev71
          refine aw_istore (pc := 71) [(5, .int v71), (8, .int v38), (0, .ref 0), (1, .int x1), (2, .int x2), (3, .int x3), (4, .int x4), (6, .int y6), (7, .int y7)] dX9_leastWithRest_71 (by decide) rfl ?_
          obtain ⟨v73, ev73⟩ : ∃ v : Int32, v = y7 + 1 := ⟨_, rfl⟩
          have h := h v73 ev73
          refine aw_iinc (pc := 73) 8 v73 [(7, .int v73), (5, .int v71), (8, .int v38), (0, .ref 0), (1, .int x1), (2, .int x2), (3, .int x3), (4, .int x4), (6, .int y6)] dX9_leastWithRest_73 rfl (by rw [ev73]; rfl) (by decide) rfl ?_
          refine aw_goto (pc := 76) 17 dX9_leastWithRest_76 (by decide) ?_
          refine aw_sub (L' := [(0, .ref 0), (1, .int x1), (2, .int x2), (3, .int x3), (4, .int x4), (5, .int v71), (6, .int y6), (7, .int v73)]) [3, 4, 5, 6, 7, 1, 8, 0] rfl ?_
          exact ih v71 y6 v73  _ h
        · have h := h.2 q
          refine aw_iload (pc := 60) 0 dX9_leastWithRest_60 rfl ?_
          refine aw_istore (pc := 62) [(6, .int v38), (8, .int v38), (0, .ref 0), (1, .int x1), (2, .int x2), (3, .int x3), (4, .int x4), (5, .int y5), (7, .int y7)] dX9_leastWithRest_62 (by decide) rfl ?_
          refine aw_goto (pc := 64) 73 dX9_leastWithRest_64 (by decide) ?_
          obtain ⟨v73, ev73⟩ : ∃ v : Int32, v = y7 + 1 := ⟨_, rfl⟩
          have h := h v73 ev73
          refine aw_iinc (pc := 73) 8 v73 [(7, .int v73), (6, .int v38), (8, .int v38), (0, .ref 0), (1, .int x1), (2, .int x2), (3, .int x3), (4, .int x4), (5, .int y5)] dX9_leastWithRest_73 rfl (by rw [ev73]; rfl) (by decide) rfl ?_
          refine aw_goto (pc := 76) 17 dX9_leastWithRest_76 (by decide) ?_
          refine aw_sub (L' := [(0, .ref 0), (1, .int x1), (2, .int x2), (3, .int x3), (4, .int x4), (5, .int y5), (6, .int v38), (7, .int v73)]) [3, 4, 5, 6, 7, 8, 1, 0] rfl ?_
          exact ih y5 v38 v73  _ h
def wp_X9_leastWithRest (x1 : Int32) (x2 : Int32) (x3 : Int32) (x4 : Int32) (σ : Sg) (K : Int32 → Sg → Prop) : Prop :=
  ∀ v12 : Int32, v12 = (100000 - x4) / 100 → (∃ nf, b_X9_leastWithRest_17 x1 x2 x3 x4  K nf 0 v12 0 σ)
set_option maxRecDepth 20000 in
set_option maxHeartbeats 2000000 in
theorem ev_X9_leastWithRest (l : Launch) (x1 : Int32) (x2 : Int32) (x3 : Int32) (x4 : Int32) {σ : Sg} {K : Int32 → Sg → Prop} (h : wp_X9_leastWithRest x1 x2 x3 x4 σ K) : Ev l yX9_leastWithRest cX9_leastWithRest 9 (some .int) 6 [.ref 0, .int x1, .int x2, .int x3, .int x4] σ (qI K) := by
  refine ev_ov (by decide) (Nat.le_of_ble_eq_true rfl) ?_
  show AV l RX9 cX9_leastWithRest 9 (some .int) 6 (qI K) 0 [(0, .ref 0), (1, .int x1), (2, .int x2), (3, .int x3), (4, .int x4)] [] σ
  refine aw_iconst (pc := 0) 0 dX9_leastWithRest_0 (by decide) ?_
  refine aw_istore (pc := 1) [(5, .int 0), (0, .ref 0), (1, .int x1), (2, .int x2), (3, .int x3), (4, .int x4)] dX9_leastWithRest_1 (by decide) rfl ?_
  refine aw_ldcw (pc := 3) 100000 dX9_leastWithRest_3 lcX9_404 ?_
  refine aw_iload (pc := 6) 5 dX9_leastWithRest_6 rfl ?_
  refine aw_isub (pc := 8) dX9_leastWithRest_8 ?_
  refine aw_bipush (pc := 9) 100 dX9_leastWithRest_9 (by decide) ?_
  refine aw_idiv (pc := 11) dX9_leastWithRest_11 (by decide) ?_
  refine aw_topi (fun v12 ev12 => ?_)
  have h := h v12 ev12
  refine aw_istore (pc := 12) [(6, .int v12), (5, .int 0), (0, .ref 0), (1, .int x1), (2, .int x2), (3, .int x3), (4, .int x4)] dX9_leastWithRest_12 (by decide) rfl ?_
  refine aw_iconst (pc := 14) 0 dX9_leastWithRest_14 (by decide) ?_
  refine aw_istore (pc := 15) [(7, .int 0), (6, .int v12), (5, .int 0), (0, .ref 0), (1, .int x1), (2, .int x2), (3, .int x3), (4, .int x4)] dX9_leastWithRest_15 (by decide) rfl ?_
  refine aw_sub (L' := [(0, .ref 0), (1, .int x1), (2, .int x2), (3, .int x3), (4, .int x4), (5, .int 0), (6, .int v12), (7, .int 0)]) [3, 4, 5, 6, 7, 2, 1, 0] rfl ?_
  obtain ⟨nf, h⟩ := h
  exact bt_X9_leastWithRest_17 l x1 x2 x3 x4   nf 0 v12 0  _ h
def wp_X9_least (x1 : Int32) (x2 : Int32) (x3 : Int32) (σ : Sg) (K : Int32 → Sg → Prop) : Prop :=
  wp_X9_isTie x1 σ <| fun r2_ τ2 => (br (r2_ = 0) (K (-1) τ2) (br (x2 < 0) (K (-1) τ2) (br (x3 < 0) (K (-1) τ2) (br (x3 ≤ 2) (vp_in x1 30 ∧ (vp_in x1 30 ∧ (wp_X9_splitGame x1 (τ2 56 x1.toNatClampNeg) (τ2 60 x1.toNatClampNeg) 0 τ2 <| fun τ44 => (∀ v62 : Int32, v62 = (τ44 179 0) + (τ44 179 1) → (vp_in x1 30 ∧ (wp_X9_hadOfGame x1 (τ44 60 x1.toNatClampNeg) v62 x3 τ44 <| fun r78_ τ78 => (br (r78_ < x2) (wp_X9_leastWithRest x1 x2 x3 v62 τ78 <| fun r101_ τ101 => (K r101_ τ101)) (wp_X9_leastWithoutRest x1 x2 x3 v62 τ78 <| fun r91_ τ91 => (K r91_ τ91))))))))) (K (-1) τ2)))))
set_option maxRecDepth 20000 in
set_option maxHeartbeats 2000000 in
theorem ev_X9_least (l : Launch) (x1 : Int32) (x2 : Int32) (x3 : Int32) {σ : Sg} {K : Int32 → Sg → Prop} (h : wp_X9_least x1 x2 x3 σ K) : Ev l yX9_least cX9_least 5 (some .int) 7 [.ref 0, .int x1, .int x2, .int x3] σ (qI K) := by
  refine ev_ov (by decide) (Nat.le_of_ble_eq_true rfl) ?_
  show AV l RX9 cX9_least 5 (some .int) 7 (qI K) 0 [(0, .ref 0), (1, .int x1), (2, .int x2), (3, .int x3)] [] σ
  refine aw_aload_n (pc := 0) 0 dX9_least_0 rfl ?_
  refine aw_iload_n (pc := 1) 1 dX9_least_1 rfl ?_
  refine aw_callV (pc := 2) (As := [.int x1]) (rest := []) kcX9 nn_0 ki_0 rfl (ev_X9_isTie l x1 h) mfX9_isTie dX9_least_2 lmX9_210 ⟨Nat.le_refl _, Nat.le_refl _⟩ (by decide) rfl rfl (Nat.le_of_ble_eq_true rfl) (nxI (fun r2_ τ2 h => ?_))
  refine aw_if_eq (pc := 5) 21 dX9_least_5 (by decide) (fun q => ?_) (fun q => ?_)
  · have h := h.1 q
    refine aw_iconst (pc := 21) (-1) dX9_least_21 (by decide) ?_
    exact aw_iret (pc := 22) rfl dX9_least_22 ⟨_, rfl, h⟩
  · have h := h.2 q
    refine aw_iload_n (pc := 8) 2 dX9_least_8 rfl ?_
    refine aw_if_lt (pc := 9) 21 dX9_least_9 (by decide) (fun q => ?_) (fun q => ?_)
    · have h := h.1 q
      refine aw_iconst (pc := 21) (-1) dX9_least_21 (by decide) ?_
      exact aw_iret (pc := 22) rfl dX9_least_22 ⟨_, rfl, h⟩
    · have h := h.2 q
      refine aw_iload_n (pc := 12) 3 dX9_least_12 rfl ?_
      refine aw_if_lt (pc := 13) 21 dX9_least_13 (by decide) (fun q => ?_) (fun q => ?_)
      · have h := h.1 q
        refine aw_iconst (pc := 21) (-1) dX9_least_21 (by decide) ?_
        exact aw_iret (pc := 22) rfl dX9_least_22 ⟨_, rfl, h⟩
      · have h := h.2 q
        refine aw_iload_n (pc := 16) 3 dX9_least_16 rfl ?_
        refine aw_iconst (pc := 17) 2 dX9_least_17 (by decide) ?_
        refine aw_icmp_le (pc := 18) 23 dX9_least_18 (by decide) (fun q => ?_) (fun q => ?_)
        · have h := h.1 q
          refine aw_aload_n (pc := 23) 0 dX9_least_23 rfl ?_
          refine aw_iload_n (pc := 24) 1 dX9_least_24 rfl ?_
          refine aw_aload_n (pc := 25) 0 dX9_least_25 rfl ?_
          refine aw_getR (pc := 26) 4 kcX9 dX9_least_26 lfX9_44 nn_0 ki_0 (by decide) rfl rf_0_4 ?_
          refine aw_getRN (pc := 29) 2 kcX6 dX9_least_29 lfnX9_213 nn_55 ki_55 (by decide) rfl rf_55_2 ?_
          refine aw_iload_n (pc := 32) 1 dX9_least_32 rfl ?_
          refine aw_iald (pc := 33) (j := x1.toNatClampNeg) dX9_least_33 nn_56 ki_56 ln_56 h.1 rfl ?_
          have h := h.2
          refine aw_aload_n (pc := 34) 0 dX9_least_34 rfl ?_
          refine aw_getR (pc := 35) 4 kcX9 dX9_least_35 lfX9_44 nn_0 ki_0 (by decide) rfl rf_0_4 ?_
          refine aw_getRN (pc := 38) 6 kcX6 dX9_least_38 lfnX9_159 nn_55 ki_55 (by decide) rfl rf_55_6 ?_
          refine aw_iload_n (pc := 41) 1 dX9_least_41 rfl ?_
          refine aw_iald (pc := 42) (j := x1.toNatClampNeg) dX9_least_42 nn_60 ki_60 ln_60 h.1 rfl ?_
          have h := h.2
          refine aw_iconst (pc := 43) 0 dX9_least_43 (by decide) ?_
          refine aw_callV (pc := 44) (As := [.int x1, .int (τ2 56 x1.toNatClampNeg), .int (τ2 60 x1.toNatClampNeg), .int 0]) (rest := []) kcX9 nn_0 ki_0 rfl (ev_X9_splitGame l x1 (τ2 56 x1.toNatClampNeg) (τ2 60 x1.toNatClampNeg) 0 h) mfX9_splitGame dX9_least_44 lmX9_240 ⟨Nat.le_refl _, Nat.le_refl _⟩ (by decide) rfl rfl (Nat.le_of_ble_eq_true rfl) (nxV (fun τ44 h => ?_))
          refine aw_aload_n (pc := 47) 0 dX9_least_47 rfl ?_
          refine aw_getR (pc := 48) 8 kcX9 dX9_least_48 lfX9_66 nn_0 ki_0 (by decide) rfl rf_0_8 ?_
          refine aw_getIN (pc := 51) 0 kcX8 dX9_least_51 lfnX9_331 nn_179 ki_179 (by decide) rfl ?_
          refine aw_aload_n (pc := 54) 0 dX9_least_54 rfl ?_
          refine aw_getR (pc := 55) 8 kcX9 dX9_least_55 lfX9_66 nn_0 ki_0 (by decide) rfl rf_0_8 ?_
          refine aw_getIN (pc := 58) 1 kcX8 dX9_least_58 lfnX9_334 nn_179 ki_179 (by decide) rfl ?_
          refine aw_iadd (pc := 61) dX9_least_61 ?_
          refine aw_topi (fun v62 ev62 => ?_)
          have h := h v62 ev62
          refine aw_istore (pc := 62) [(4, .int v62), (0, .ref 0), (1, .int x1), (2, .int x2), (3, .int x3)] dX9_least_62 (by decide) rfl ?_
          refine aw_aload_n (pc := 64) 1 dX9_least_64 rfl ?_
          refine aw_iload_n (pc := 65) 2 dX9_least_65 rfl ?_
          refine aw_aload_n (pc := 66) 1 dX9_least_66 rfl ?_
          refine aw_getR (pc := 67) 4 kcX9 dX9_least_67 lfX9_44 nn_0 ki_0 (by decide) rfl rf_0_4 ?_
          refine aw_getRN (pc := 70) 6 kcX6 dX9_least_70 lfnX9_159 nn_55 ki_55 (by decide) rfl rf_55_6 ?_
          refine aw_iload_n (pc := 73) 2 dX9_least_73 rfl ?_
          refine aw_iald (pc := 74) (j := x1.toNatClampNeg) dX9_least_74 nn_60 ki_60 ln_60 h.1 rfl ?_
          have h := h.2
          refine aw_iload (pc := 75) 0 dX9_least_75 rfl ?_
          refine aw_iload_n (pc := 77) 4 dX9_least_77 rfl ?_
          refine aw_callV (pc := 78) (As := [.int x1, .int (τ44 60 x1.toNatClampNeg), .int v62, .int x3]) (rest := []) kcX9 nn_0 ki_0 rfl (ev_X9_hadOfGame l x1 (τ44 60 x1.toNatClampNeg) v62 x3 h) mfX9_hadOfGame dX9_least_78 lmX9_328 ⟨Nat.le_refl _, Nat.le_refl _⟩ (by decide) rfl rfl (Nat.le_of_ble_eq_true rfl) (nxI (fun r78_ τ78 h => ?_))
          refine aw_iload_n (pc := 81) 3 dX9_least_81 rfl ?_
          refine aw_icmp_lt (pc := 82) 95 dX9_least_82 (by decide) (fun q => ?_) (fun q => ?_)
          · have h := h.1 q
            refine aw_aload_n (pc := 95) 1 dX9_least_95 rfl ?_
            refine aw_iload_n (pc := 96) 2 dX9_least_96 rfl ?_
            refine aw_iload_n (pc := 97) 3 dX9_least_97 rfl ?_
            refine aw_iload_n (pc := 98) 4 dX9_least_98 rfl ?_
            refine aw_iload (pc := 99) 0 dX9_least_99 rfl ?_
            refine aw_callV (pc := 101) (As := [.int x1, .int x2, .int x3, .int v62]) (rest := []) kcX9 nn_0 ki_0 rfl (ev_X9_leastWithRest l x1 x2 x3 v62 h) mfX9_leastWithRest dX9_least_101 lmX9_340 ⟨Nat.le_refl _, Nat.le_refl _⟩ (by decide) rfl rfl (Nat.le_of_ble_eq_true rfl) (nxI (fun r101_ τ101 h => ?_))
            exact aw_iret (pc := 104) rfl dX9_least_104 ⟨_, rfl, h⟩
          · have h := h.2 q
            refine aw_aload_n (pc := 85) 1 dX9_least_85 rfl ?_
            refine aw_iload_n (pc := 86) 2 dX9_least_86 rfl ?_
            refine aw_iload_n (pc := 87) 3 dX9_least_87 rfl ?_
            refine aw_iload_n (pc := 88) 4 dX9_least_88 rfl ?_
            refine aw_iload (pc := 89) 0 dX9_least_89 rfl ?_
            refine aw_callV (pc := 91) (As := [.int x1, .int x2, .int x3, .int v62]) (rest := []) kcX9 nn_0 ki_0 rfl (ev_X9_leastWithoutRest l x1 x2 x3 v62 h) mfX9_leastWithoutRest dX9_least_91 lmX9_337 ⟨Nat.le_refl _, Nat.le_refl _⟩ (by decide) rfl rfl (Nat.le_of_ble_eq_true rfl) (nxI (fun r91_ τ91 h => ?_))
            exact aw_iret (pc := 94) rfl dX9_least_94 ⟨_, rfl, h⟩
        · have h := h.2 q
          refine aw_iconst (pc := 21) (-1) dX9_least_21 (by decide) ?_
          exact aw_iret (pc := 22) rfl dX9_least_22 ⟨_, rfl, h⟩
def wp_X9_byCup (x1 : Int32) (x2 : Int32) (x3 : Int32) (σ : Sg) (K : Int32 → Sg → Prop) : Prop :=
  wp_X9_isTie x1 σ <| fun r2_ τ2 => (br (r2_ = 0) (K (-1) τ2) (wp_X9_isCup x2 τ2 <| fun r10_ τ10 => (br (r10_ = 0) (K (-1) τ10) (br (x3 < 0) (K (-1) τ10) (br (x3 ≤ 2) (wp_X9_hadOfTie x1 x2 x3 τ10 <| fun r31_ τ31 => (K r31_ τ31)) (K (-1) τ10))))))
set_option maxRecDepth 20000 in
set_option maxHeartbeats 2000000 in
theorem ev_X9_byCup (l : Launch) (x1 : Int32) (x2 : Int32) (x3 : Int32) {σ : Sg} {K : Int32 → Sg → Prop} (h : wp_X9_byCup x1 x2 x3 σ K) : Ev l yX9_byCup cX9_byCup 4 (some .int) 5 [.ref 0, .int x1, .int x2, .int x3] σ (qI K) := by
  refine ev_ov (by decide) (Nat.le_of_ble_eq_true rfl) ?_
  show AV l RX9 cX9_byCup 4 (some .int) 5 (qI K) 0 [(0, .ref 0), (1, .int x1), (2, .int x2), (3, .int x3)] [] σ
  refine aw_aload_n (pc := 0) 0 dX9_byCup_0 rfl ?_
  refine aw_iload_n (pc := 1) 1 dX9_byCup_1 rfl ?_
  refine aw_callV (pc := 2) (As := [.int x1]) (rest := []) kcX9 nn_0 ki_0 rfl (ev_X9_isTie l x1 h) mfX9_isTie dX9_byCup_2 lmX9_210 ⟨Nat.le_refl _, Nat.le_refl _⟩ (by decide) rfl rfl (Nat.le_of_ble_eq_true rfl) (nxI (fun r2_ τ2 h => ?_))
  refine aw_if_eq (pc := 5) 25 dX9_byCup_5 (by decide) (fun q => ?_) (fun q => ?_)
  · have h := h.1 q
    refine aw_iconst (pc := 25) (-1) dX9_byCup_25 (by decide) ?_
    exact aw_iret (pc := 26) rfl dX9_byCup_26 ⟨_, rfl, h⟩
  · have h := h.2 q
    refine aw_aload_n (pc := 8) 0 dX9_byCup_8 rfl ?_
    refine aw_iload_n (pc := 9) 2 dX9_byCup_9 rfl ?_
    refine aw_callV (pc := 10) (As := [.int x2]) (rest := []) kcX9 nn_0 ki_0 rfl (ev_X9_isCup l x2 h) mfX9_isCup dX9_byCup_10 lmX9_201 ⟨Nat.le_refl _, Nat.le_refl _⟩ (by decide) rfl rfl (Nat.le_of_ble_eq_true rfl) (nxI (fun r10_ τ10 h => ?_))
    refine aw_if_eq (pc := 13) 25 dX9_byCup_13 (by decide) (fun q => ?_) (fun q => ?_)
    · have h := h.1 q
      refine aw_iconst (pc := 25) (-1) dX9_byCup_25 (by decide) ?_
      exact aw_iret (pc := 26) rfl dX9_byCup_26 ⟨_, rfl, h⟩
    · have h := h.2 q
      refine aw_iload_n (pc := 16) 3 dX9_byCup_16 rfl ?_
      refine aw_if_lt (pc := 17) 25 dX9_byCup_17 (by decide) (fun q => ?_) (fun q => ?_)
      · have h := h.1 q
        refine aw_iconst (pc := 25) (-1) dX9_byCup_25 (by decide) ?_
        exact aw_iret (pc := 26) rfl dX9_byCup_26 ⟨_, rfl, h⟩
      · have h := h.2 q
        refine aw_iload_n (pc := 20) 3 dX9_byCup_20 rfl ?_
        refine aw_iconst (pc := 21) 2 dX9_byCup_21 (by decide) ?_
        refine aw_icmp_le (pc := 22) 27 dX9_byCup_22 (by decide) (fun q => ?_) (fun q => ?_)
        · have h := h.1 q
          refine aw_aload_n (pc := 27) 0 dX9_byCup_27 rfl ?_
          refine aw_iload_n (pc := 28) 1 dX9_byCup_28 rfl ?_
          refine aw_iload_n (pc := 29) 2 dX9_byCup_29 rfl ?_
          refine aw_iload_n (pc := 30) 3 dX9_byCup_30 rfl ?_
          refine aw_callV (pc := 31) (As := [.int x1, .int x2, .int x3]) (rest := []) kcX9 nn_0 ki_0 rfl (ev_X9_hadOfTie l x1 x2 x3 h) mfX9_hadOfTie dX9_byCup_31 lmX9_230 ⟨Nat.le_refl _, Nat.le_refl _⟩ (by decide) rfl rfl (Nat.le_of_ble_eq_true rfl) (nxI (fun r31_ τ31 h => ?_))
          exact aw_iret (pc := 34) rfl dX9_byCup_34 ⟨_, rfl, h⟩
        · have h := h.2 q
          refine aw_iconst (pc := 25) (-1) dX9_byCup_25 (by decide) ?_
          exact aw_iret (pc := 26) rfl dX9_byCup_26 ⟨_, rfl, h⟩
def b_X9_fairest_19 (x1 : Int32)  (K : Int32 → Sg → Prop) : Nat → Int32 → Int32 → Int32 → Sg → Prop
  | 0, _, _, _, _ => False
  | n + 1, y2, y3, y4, σ =>
  br ((σ 3 1) ≤ y4) (K y2 σ) (wp_X9_hadOfTie x1 y4 0 σ <| fun r36_ τ36 => (wp_X9_hadOfTie x1 y4 1 τ36 <| fun r44_ τ44 => (∀ v51 : Int32, v51 = (if 0 ≤ (r36_ - r44_) then (r36_ - r44_) else 0 - (r36_ - r44_)) → (br (y3 ≤ v51) (∀ v65 : Int32, v65 = y4 + 1 → (b_X9_fairest_19 x1  K n y2 y3 v65 τ44)) (∀ v65 : Int32, v65 = y4 + 1 → (b_X9_fairest_19 x1  K n y4 v51 v65 τ44))))))
set_option maxRecDepth 20000 in
set_option maxHeartbeats 2000000 in
theorem bt_X9_fairest_19 (l : Launch) (x1 : Int32) {K : Int32 → Sg → Prop}   : ∀ (n : Nat) (y2 : Int32) (y3 : Int32) (y4 : Int32)  (σ : Sg), b_X9_fairest_19 x1  K n y2 y3 y4 σ → AV l RX9 cX9_fairest 6 (some .int) 5 (qI K) 19 [(0, .ref 0), (1, .int x1), (2, .int y2), (3, .int y3), (4, .int y4)] [] σ := by
  intro n
  induction n with
  | zero => intro y2 y3 y4 σ h; exact h.elim
  | succ n ih =>
    intro y2 y3 y4 σ h
    refine aw_iload (pc := 19) 4 dX9_fairest_19 rfl ?_
    refine aw_aload_n (pc := 21) 0 dX9_fairest_21 rfl ?_
    refine aw_getR (pc := 22) 1 kcX9 dX9_fairest_22 lfX9_21 nn_0 ki_0 (by decide) rfl rf_0_1 ?_
    refine aw_getIN (pc := 25) 1 kcX5 dX9_fairest_25 lfnX9_344 nn_3 ki_3 (by decide) rfl ?_
    refine aw_icmp_ge (pc := 28) 71 dX9_fairest_28 (by decide) (fun q => ?_) (fun q => ?_)
    · have h := h.1 q
      refine aw_iload_n (pc := 71) 2 dX9_fairest_71 rfl ?_
      exact aw_iret (pc := 72) rfl dX9_fairest_72 ⟨_, rfl, h⟩
    · have h := h.2 q
      refine aw_aload_n (pc := 31) 0 dX9_fairest_31 rfl ?_
      refine aw_iload_n (pc := 32) 1 dX9_fairest_32 rfl ?_
      refine aw_iload (pc := 33) 4 dX9_fairest_33 rfl ?_
      refine aw_iconst (pc := 35) 0 dX9_fairest_35 (by decide) ?_
      refine aw_callV (pc := 36) (As := [.int x1, .int y4, .int 0]) (rest := []) kcX9 nn_0 ki_0 rfl (ev_X9_hadOfTie l x1 y4 0 h) mfX9_hadOfTie dX9_fairest_36 lmX9_230 ⟨Nat.le_refl _, Nat.le_refl _⟩ (by decide) rfl rfl (Nat.le_of_ble_eq_true rfl) (nxI (fun r36_ τ36 h => ?_))
      refine aw_aload_n (pc := 39) 0 dX9_fairest_39 rfl ?_
      refine aw_iload_n (pc := 40) 1 dX9_fairest_40 rfl ?_
      refine aw_iload (pc := 41) 4 dX9_fairest_41 rfl ?_
      refine aw_iconst (pc := 43) 1 dX9_fairest_43 (by decide) ?_
      refine aw_callV (pc := 44) (As := [.int x1, .int y4, .int 1]) (rest := [.int r36_]) kcX9 nn_0 ki_0 rfl (ev_X9_hadOfTie l x1 y4 1 h) mfX9_hadOfTie dX9_fairest_44 lmX9_230 ⟨Nat.le_refl _, Nat.le_refl _⟩ (by decide) rfl rfl (Nat.le_of_ble_eq_true rfl) (nxI (fun r44_ τ44 h => ?_))
      refine aw_isub (pc := 47) dX9_fairest_47 ?_
      refine aw_mabs (pc := 48) dX9_fairest_48 lmX9_347 lib_abs.1 lib_abs.2.1 lib_abs.2.2 ⟨Nat.le_refl _, Nat.le_refl _⟩ (by decide) (Nat.le_of_ble_eq_true rfl) ?_
      refine aw_topi (fun v51 ev51 => ?_)
      have h := h v51 ev51
      refine aw_istore (pc := 51) [(5, .int v51), (0, .ref 0), (1, .int x1), (2, .int y2), (3, .int y3), (4, .int y4)] dX9_fairest_51 (by decide) rfl ?_
      refine aw_iload (pc := 53) 0 dX9_fairest_53 rfl ?_
      refine aw_iload_n (pc := 55) 4 dX9_fairest_55 rfl ?_
      refine aw_icmp_ge (pc := 56) 65 dX9_fairest_56 (by decide) (fun q => ?_) (fun q => ?_)
      · have h := h.1 q
        obtain ⟨v65, ev65⟩ : ∃ v : Int32, v = y4 + 1 := ⟨_, rfl⟩
        have h := h v65 ev65
        refine aw_iinc (pc := 65) 5 v65 [(4, .int v65), (5, .int v51), (0, .ref 0), (1, .int x1), (2, .int y2), (3, .int y3)] dX9_fairest_65 rfl (by rw [ev65]; rfl) (by decide) rfl ?_
        refine aw_goto (pc := 68) 19 dX9_fairest_68 (by decide) ?_
        refine aw_sub (L' := [(0, .ref 0), (1, .int x1), (2, .int y2), (3, .int y3), (4, .int v65)]) [2, 3, 4, 5, 0] rfl ?_
        exact ih y2 y3 v65  _ h
      · have h := h.2 q
        refine aw_iload (pc := 59) 0 dX9_fairest_59 rfl ?_
        refine aw_istore_n (pc := 61) (i := 3) [(3, .int v51), (5, .int v51), (0, .ref 0), (1, .int x1), (2, .int y2), (4, .int y4)] dX9_fairest_61 rfl (by decide) rfl ?_
        refine aw_iload (pc := 62) 5 dX9_fairest_62 rfl ?_
        refine aw_istore_n (pc := 64) (i := 2) [(2, .int y4), (3, .int v51), (5, .int v51), (0, .ref 0), (1, .int x1), (4, .int y4)] dX9_fairest_64 rfl (by decide) rfl ?_
        obtain ⟨v65, ev65⟩ : ∃ v : Int32, v = y4 + 1 := ⟨_, rfl⟩
        have h := h v65 ev65
        refine aw_iinc (pc := 65) 5 v65 [(4, .int v65), (2, .int y4), (3, .int v51), (5, .int v51), (0, .ref 0), (1, .int x1)] dX9_fairest_65 rfl (by rw [ev65]; rfl) (by decide) rfl ?_
        refine aw_goto (pc := 68) 19 dX9_fairest_68 (by decide) ?_
        refine aw_sub (L' := [(0, .ref 0), (1, .int x1), (2, .int y4), (3, .int v51), (4, .int v65)]) [4, 5, 1, 2, 0] rfl ?_
        exact ih y4 v51 v65  _ h
def wp_X9_fairest (x1 : Int32) (σ : Sg) (K : Int32 → Sg → Prop) : Prop :=
  wp_X9_isTie x1 σ <| fun r2_ τ2 => (br (r2_ = 0) (K (-1) τ2) (∃ nf, b_X9_fairest_19 x1  K nf 0 2147483647 0 τ2))
set_option maxRecDepth 20000 in
set_option maxHeartbeats 2000000 in
theorem ev_X9_fairest (l : Launch) (x1 : Int32) {σ : Sg} {K : Int32 → Sg → Prop} (h : wp_X9_fairest x1 σ K) : Ev l yX9_fairest cX9_fairest 6 (some .int) 5 [.ref 0, .int x1] σ (qI K) := by
  refine ev_ov (by decide) (Nat.le_of_ble_eq_true rfl) ?_
  show AV l RX9 cX9_fairest 6 (some .int) 5 (qI K) 0 [(0, .ref 0), (1, .int x1)] [] σ
  refine aw_aload_n (pc := 0) 0 dX9_fairest_0 rfl ?_
  refine aw_iload_n (pc := 1) 1 dX9_fairest_1 rfl ?_
  refine aw_callV (pc := 2) (As := [.int x1]) (rest := []) kcX9 nn_0 ki_0 rfl (ev_X9_isTie l x1 h) mfX9_isTie dX9_fairest_2 lmX9_210 ⟨Nat.le_refl _, Nat.le_refl _⟩ (by decide) rfl rfl (Nat.le_of_ble_eq_true rfl) (nxI (fun r2_ τ2 h => ?_))
  refine aw_if_ne (pc := 5) 10 dX9_fairest_5 (by decide) (fun q => ?_) (fun q => ?_)
  · have h := h.2 q
    refine aw_iconst (pc := 10) 0 dX9_fairest_10 (by decide) ?_
    refine aw_istore_n (pc := 11) (i := 2) [(2, .int 0), (0, .ref 0), (1, .int x1)] dX9_fairest_11 rfl (by decide) rfl ?_
    refine aw_ldcw (pc := 12) 2147483647 dX9_fairest_12 lcX9_343 ?_
    refine aw_istore_n (pc := 15) (i := 3) [(3, .int 2147483647), (2, .int 0), (0, .ref 0), (1, .int x1)] dX9_fairest_15 rfl (by decide) rfl ?_
    refine aw_iconst (pc := 16) 0 dX9_fairest_16 (by decide) ?_
    refine aw_istore (pc := 17) [(4, .int 0), (3, .int 2147483647), (2, .int 0), (0, .ref 0), (1, .int x1)] dX9_fairest_17 (by decide) rfl ?_
    refine aw_sub (L' := [(0, .ref 0), (1, .int x1), (2, .int 0), (3, .int 2147483647), (4, .int 0)]) [3, 4, 2, 1, 0] rfl ?_
    obtain ⟨nf, h⟩ := h
    exact bt_X9_fairest_19 l x1   nf 0 2147483647 0  _ h
  · have h := h.1 q
    refine aw_iconst (pc := 8) (-1) dX9_fairest_8 (by decide) ?_
    exact aw_iret (pc := 9) rfl dX9_fairest_9 ⟨_, rfl, h⟩
def wp_X9_tempt (x1 : Int32) (x2 : Int32) (x3 : Int32) (σ : Sg) (K : Int32 → Sg → Prop) : Prop :=
  wp_X9_isTie x1 σ <| fun r2_ τ2 => (br (r2_ = 0) (K (-2147483648) τ2) (wp_X9_isGate x2 τ2 <| fun r9_ τ9 => (br (r9_ = 0) (K (-2147483648) τ9) (br (x3 < 0) (K (-2147483648) τ9) (br (x3 ≤ 1) (vp_in x1 30 ∧ (∀ v37 : Int32, v37 = τ9 60 x1.toNatClampNeg → (∀ v42 : Int32, v42 = x2 / 2 → (wp_X9_hadOfGame x1 v37 v42 x3 τ9 <| fun r51_ τ51 => (wp_X9_hadOfGame x1 (v37 + 1) (x2 - v42) x3 τ51 <| fun r65_ τ65 => (∀ v69 : Int32, v69 = r51_ + r65_ → (wp_X9_hadOfGame x1 v37 x2 x3 τ65 <| fun r79_ τ79 => (K (v69 - r79_) τ79)))))))) (K (-2147483648) τ9))))))
set_option maxRecDepth 20000 in
set_option maxHeartbeats 2000000 in
theorem ev_X9_tempt (l : Launch) (x1 : Int32) (x2 : Int32) (x3 : Int32) {σ : Sg} {K : Int32 → Sg → Prop} (h : wp_X9_tempt x1 x2 x3 σ K) : Ev l yX9_tempt cX9_tempt 7 (some .int) 5 [.ref 0, .int x1, .int x2, .int x3] σ (qI K) := by
  refine ev_ov (by decide) (Nat.le_of_ble_eq_true rfl) ?_
  show AV l RX9 cX9_tempt 7 (some .int) 5 (qI K) 0 [(0, .ref 0), (1, .int x1), (2, .int x2), (3, .int x3)] [] σ
  refine aw_aload_n (pc := 0) 0 dX9_tempt_0 rfl ?_
  refine aw_iload_n (pc := 1) 1 dX9_tempt_1 rfl ?_
  refine aw_callV (pc := 2) (As := [.int x1]) (rest := []) kcX9 nn_0 ki_0 rfl (ev_X9_isTie l x1 h) mfX9_isTie dX9_tempt_2 lmX9_210 ⟨Nat.le_refl _, Nat.le_refl _⟩ (by decide) rfl rfl (Nat.le_of_ble_eq_true rfl) (nxI (fun r2_ τ2 h => ?_))
  refine aw_if_eq (pc := 5) 24 dX9_tempt_5 (by decide) (fun q => ?_) (fun q => ?_)
  · have h := h.1 q
    refine aw_ldcw (pc := 24) (-2147483648) dX9_tempt_24 lcX9_279 ?_
    exact aw_iret (pc := 27) rfl dX9_tempt_27 ⟨_, rfl, h⟩
  · have h := h.2 q
    refine aw_iload_n (pc := 8) 2 dX9_tempt_8 rfl ?_
    refine aw_callS (pc := 9) (As := [.int x2]) (rest := []) (ev_X9_isGate l x2 h) mfX9_isGate dX9_tempt_9 lmX9_325 ⟨Nat.le_refl _, Nat.le_refl _⟩ (by decide) rfl rfl (Nat.le_of_ble_eq_true rfl) (nxI (fun r9_ τ9 h => ?_))
    refine aw_if_eq (pc := 12) 24 dX9_tempt_12 (by decide) (fun q => ?_) (fun q => ?_)
    · have h := h.1 q
      refine aw_ldcw (pc := 24) (-2147483648) dX9_tempt_24 lcX9_279 ?_
      exact aw_iret (pc := 27) rfl dX9_tempt_27 ⟨_, rfl, h⟩
    · have h := h.2 q
      refine aw_iload_n (pc := 15) 3 dX9_tempt_15 rfl ?_
      refine aw_if_lt (pc := 16) 24 dX9_tempt_16 (by decide) (fun q => ?_) (fun q => ?_)
      · have h := h.1 q
        refine aw_ldcw (pc := 24) (-2147483648) dX9_tempt_24 lcX9_279 ?_
        exact aw_iret (pc := 27) rfl dX9_tempt_27 ⟨_, rfl, h⟩
      · have h := h.2 q
        refine aw_iload_n (pc := 19) 3 dX9_tempt_19 rfl ?_
        refine aw_iconst (pc := 20) 1 dX9_tempt_20 (by decide) ?_
        refine aw_icmp_le (pc := 21) 28 dX9_tempt_21 (by decide) (fun q => ?_) (fun q => ?_)
        · have h := h.1 q
          refine aw_aload_n (pc := 28) 0 dX9_tempt_28 rfl ?_
          refine aw_getR (pc := 29) 4 kcX9 dX9_tempt_29 lfX9_44 nn_0 ki_0 (by decide) rfl rf_0_4 ?_
          refine aw_getRN (pc := 32) 6 kcX6 dX9_tempt_32 lfnX9_159 nn_55 ki_55 (by decide) rfl rf_55_6 ?_
          refine aw_iload_n (pc := 35) 1 dX9_tempt_35 rfl ?_
          refine aw_iald (pc := 36) (j := x1.toNatClampNeg) dX9_tempt_36 nn_60 ki_60 ln_60 h.1 rfl ?_
          have h := h.2
          refine aw_topi (fun v37 ev37 => ?_)
          have h := h v37 ev37
          refine aw_istore (pc := 37) [(4, .int v37), (0, .ref 0), (1, .int x1), (2, .int x2), (3, .int x3)] dX9_tempt_37 (by decide) rfl ?_
          refine aw_iload_n (pc := 39) 3 dX9_tempt_39 rfl ?_
          refine aw_iconst (pc := 40) 2 dX9_tempt_40 (by decide) ?_
          refine aw_idiv (pc := 41) dX9_tempt_41 (by decide) ?_
          refine aw_topi (fun v42 ev42 => ?_)
          have h := h v42 ev42
          refine aw_istore (pc := 42) [(5, .int v42), (4, .int v37), (0, .ref 0), (1, .int x1), (2, .int x2), (3, .int x3)] dX9_tempt_42 (by decide) rfl ?_
          refine aw_aload_n (pc := 44) 2 dX9_tempt_44 rfl ?_
          refine aw_iload_n (pc := 45) 3 dX9_tempt_45 rfl ?_
          refine aw_iload (pc := 46) 1 dX9_tempt_46 rfl ?_
          refine aw_iload (pc := 48) 0 dX9_tempt_48 rfl ?_
          refine aw_iload_n (pc := 50) 5 dX9_tempt_50 rfl ?_
          refine aw_callV (pc := 51) (As := [.int x1, .int v37, .int v42, .int x3]) (rest := []) kcX9 nn_0 ki_0 rfl (ev_X9_hadOfGame l x1 v37 v42 x3 h) mfX9_hadOfGame dX9_tempt_51 lmX9_328 ⟨Nat.le_refl _, Nat.le_refl _⟩ (by decide) rfl rfl (Nat.le_of_ble_eq_true rfl) (nxI (fun r51_ τ51 h => ?_))
          refine aw_aload_n (pc := 54) 2 dX9_tempt_54 rfl ?_
          refine aw_iload_n (pc := 55) 3 dX9_tempt_55 rfl ?_
          refine aw_iload (pc := 56) 1 dX9_tempt_56 rfl ?_
          refine aw_iconst (pc := 58) 1 dX9_tempt_58 (by decide) ?_
          refine aw_iadd (pc := 59) dX9_tempt_59 ?_
          refine aw_iload_n (pc := 60) 4 dX9_tempt_60 rfl ?_
          refine aw_iload (pc := 61) 0 dX9_tempt_61 rfl ?_
          refine aw_isub (pc := 63) dX9_tempt_63 ?_
          refine aw_iload_n (pc := 64) 5 dX9_tempt_64 rfl ?_
          refine aw_callV (pc := 65) (As := [.int x1, .int (v37 + 1), .int (x2 - v42), .int x3]) (rest := [.int r51_]) kcX9 nn_0 ki_0 rfl (ev_X9_hadOfGame l x1 (v37 + 1) (x2 - v42) x3 h) mfX9_hadOfGame dX9_tempt_65 lmX9_328 ⟨Nat.le_refl _, Nat.le_refl _⟩ (by decide) rfl rfl (Nat.le_of_ble_eq_true rfl) (nxI (fun r65_ τ65 h => ?_))
          refine aw_iadd (pc := 68) dX9_tempt_68 ?_
          refine aw_topi (fun v69 ev69 => ?_)
          have h := h v69 ev69
          refine aw_istore (pc := 69) [(6, .int v69), (5, .int v42), (4, .int v37), (0, .ref 0), (1, .int x1), (2, .int x2), (3, .int x3)] dX9_tempt_69 (by decide) rfl ?_
          refine aw_iload (pc := 71) 0 dX9_tempt_71 rfl ?_
          refine aw_aload_n (pc := 73) 3 dX9_tempt_73 rfl ?_
          refine aw_iload_n (pc := 74) 4 dX9_tempt_74 rfl ?_
          refine aw_iload (pc := 75) 2 dX9_tempt_75 rfl ?_
          refine aw_iload_n (pc := 77) 5 dX9_tempt_77 rfl ?_
          refine aw_iload_n (pc := 78) 6 dX9_tempt_78 rfl ?_
          refine aw_callV (pc := 79) (As := [.int x1, .int v37, .int x2, .int x3]) (rest := [.int v69]) kcX9 nn_0 ki_0 rfl (ev_X9_hadOfGame l x1 v37 x2 x3 h) mfX9_hadOfGame dX9_tempt_79 lmX9_328 ⟨Nat.le_refl _, Nat.le_refl _⟩ (by decide) rfl rfl (Nat.le_of_ble_eq_true rfl) (nxI (fun r79_ τ79 h => ?_))
          refine aw_isub (pc := 82) dX9_tempt_82 ?_
          exact aw_iret (pc := 83) rfl dX9_tempt_83 ⟨_, rfl, h⟩
        · have h := h.2 q
          refine aw_ldcw (pc := 24) (-2147483648) dX9_tempt_24 lcX9_279 ?_
          exact aw_iret (pc := 27) rfl dX9_tempt_27 ⟨_, rfl, h⟩
def wp_X9_ifGate (x1 : Int32) (x2 : Int32) (x3 : Int32) (σ : Sg) (K : Int32 → Sg → Prop) : Prop :=
  wp_X9_isGame x1 x2 σ <| fun r3_ τ3 => (br (r3_ = 0) (K (-1) τ3) (wp_X9_isGate x3 τ3 <| fun r10_ τ10 => (br (r10_ = 0) (K (-1) τ10) (∀ v23 : Int32, v23 = (x1 * 4) + x2 → (vp_in v23 120 ∧ (∀ v35 : Int32, v35 = τ10 61 v23.toNatClampNeg → (vp_in v23 120 ∧ (∀ τ47 : Sg, τ47 = up τ10 61 v23.toNatClampNeg x3 → (wp_X3_reckonAll  τ47 <| fun τ64 => (wp_X3_allLacks (τ64 3 0) τ64 <| fun r78_ τ78 => (vp_in v23 120 ∧ (∀ τ94 : Sg, τ94 = up τ78 61 v23.toNatClampNeg v35 → (∀ τ100 : Sg, τ100 = up τ94 180 6 0 → (K r78_ τ100))))))))))))))
set_option maxRecDepth 20000 in
set_option maxHeartbeats 2000000 in
theorem ev_X9_ifGate (l : Launch) (x1 : Int32) (x2 : Int32) (x3 : Int32) {σ : Sg} {K : Int32 → Sg → Prop} (h : wp_X9_ifGate x1 x2 x3 σ K) : Ev l yX9_ifGate cX9_ifGate 7 (some .int) 6 [.ref 0, .int x1, .int x2, .int x3] σ (qI K) := by
  refine ev_ov (by decide) (Nat.le_of_ble_eq_true rfl) ?_
  show AV l RX9 cX9_ifGate 7 (some .int) 6 (qI K) 0 [(0, .ref 0), (1, .int x1), (2, .int x2), (3, .int x3)] [] σ
  refine aw_aload_n (pc := 0) 0 dX9_ifGate_0 rfl ?_
  refine aw_iload_n (pc := 1) 1 dX9_ifGate_1 rfl ?_
  refine aw_iload_n (pc := 2) 2 dX9_ifGate_2 rfl ?_
  refine aw_callV (pc := 3) (As := [.int x1, .int x2]) (rest := []) kcX9 nn_0 ki_0 rfl (ev_X9_isGame l x1 x2 h) mfX9_isGame dX9_ifGate_3 lmX9_233 ⟨Nat.le_refl _, Nat.le_refl _⟩ (by decide) rfl rfl (Nat.le_of_ble_eq_true rfl) (nxI (fun r3_ τ3 h => ?_))
  refine aw_if_eq (pc := 6) 16 dX9_ifGate_6 (by decide) (fun q => ?_) (fun q => ?_)
  · have h := h.1 q
    refine aw_iconst (pc := 16) (-1) dX9_ifGate_16 (by decide) ?_
    exact aw_iret (pc := 17) rfl dX9_ifGate_17 ⟨_, rfl, h⟩
  · have h := h.2 q
    refine aw_iload_n (pc := 9) 3 dX9_ifGate_9 rfl ?_
    refine aw_callS (pc := 10) (As := [.int x3]) (rest := []) (ev_X9_isGate l x3 h) mfX9_isGate dX9_ifGate_10 lmX9_325 ⟨Nat.le_refl _, Nat.le_refl _⟩ (by decide) rfl rfl (Nat.le_of_ble_eq_true rfl) (nxI (fun r10_ τ10 h => ?_))
    refine aw_if_ne (pc := 13) 18 dX9_ifGate_13 (by decide) (fun q => ?_) (fun q => ?_)
    · have h := h.2 q
      refine aw_iload_n (pc := 18) 1 dX9_ifGate_18 rfl ?_
      refine aw_iconst (pc := 19) 4 dX9_ifGate_19 (by decide) ?_
      refine aw_imul (pc := 20) dX9_ifGate_20 ?_
      refine aw_iload_n (pc := 21) 2 dX9_ifGate_21 rfl ?_
      refine aw_iadd (pc := 22) dX9_ifGate_22 ?_
      refine aw_topi (fun v23 ev23 => ?_)
      have h := h v23 ev23
      refine aw_istore (pc := 23) [(4, .int v23), (0, .ref 0), (1, .int x1), (2, .int x2), (3, .int x3)] dX9_ifGate_23 (by decide) rfl ?_
      refine aw_aload_n (pc := 25) 1 dX9_ifGate_25 rfl ?_
      refine aw_getR (pc := 26) 4 kcX9 dX9_ifGate_26 lfX9_44 nn_0 ki_0 (by decide) rfl rf_0_4 ?_
      refine aw_getRN (pc := 29) 7 kcX6 dX9_ifGate_29 lfnX9_237 nn_55 ki_55 (by decide) rfl rf_55_7 ?_
      refine aw_iload (pc := 32) 0 dX9_ifGate_32 rfl ?_
      refine aw_iald (pc := 34) (j := v23.toNatClampNeg) dX9_ifGate_34 nn_61 ki_61 ln_61 h.1 rfl ?_
      have h := h.2
      refine aw_topi (fun v35 ev35 => ?_)
      have h := h v35 ev35
      refine aw_istore (pc := 35) [(5, .int v35), (4, .int v23), (0, .ref 0), (1, .int x1), (2, .int x2), (3, .int x3)] dX9_ifGate_35 (by decide) rfl ?_
      refine aw_aload_n (pc := 37) 2 dX9_ifGate_37 rfl ?_
      refine aw_getR (pc := 38) 4 kcX9 dX9_ifGate_38 lfX9_44 nn_0 ki_0 (by decide) rfl rf_0_4 ?_
      refine aw_getRN (pc := 41) 7 kcX6 dX9_ifGate_41 lfnX9_237 nn_55 ki_55 (by decide) rfl rf_55_7 ?_
      refine aw_iload (pc := 44) 1 dX9_ifGate_44 rfl ?_
      refine aw_iload_n (pc := 46) 5 dX9_ifGate_46 rfl ?_
      refine aw_iast (pc := 47) (j := v23.toNatClampNeg) (v := x3) dX9_ifGate_47 nn_61 ki_61 ln_61 h.1 rfl rfl ?_
      have h := h.2
      refine aw_tops (fun τ47 eτ47 => ?_)
      have h := h τ47 eτ47
      refine aw_aload_n (pc := 48) 2 dX9_ifGate_48 rfl ?_
      refine aw_getR (pc := 49) 9 kcX9 dX9_ifGate_49 lfX9_73 nn_0 ki_0 (by decide) rfl rf_0_9 ?_
      refine aw_aload_n (pc := 52) 2 dX9_ifGate_52 rfl ?_
      refine aw_getR (pc := 53) 1 kcX9 dX9_ifGate_53 lfX9_21 nn_0 ki_0 (by decide) rfl rf_0_1 ?_
      refine aw_aload_n (pc := 56) 2 dX9_ifGate_56 rfl ?_
      refine aw_getR (pc := 57) 4 kcX9 dX9_ifGate_57 lfX9_44 nn_0 ki_0 (by decide) rfl rf_0_4 ?_
      refine aw_aload_n (pc := 60) 2 dX9_ifGate_60 rfl ?_
      refine aw_getR (pc := 61) 8 kcX9 dX9_ifGate_61 lfX9_66 nn_0 ki_0 (by decide) rfl rf_0_8 ?_
      refine aw_callVN (pc := 64) (As := [.ref 3, .ref 55, .ref 179]) (rest := []) kcX3 nn_180 ki_180 rfl (ev_X3_reckonAll l  h) mfX3_reckonAll dX9_ifGate_64 lmnX9_352 ⟨Nat.le_refl _, Nat.le_refl _⟩ (by decide) rfl rfl (Nat.le_of_ble_eq_true rfl) (nxV (fun τ64 h => ?_))
      refine aw_aload_n (pc := 67) 2 dX9_ifGate_67 rfl ?_
      refine aw_getR (pc := 68) 9 kcX9 dX9_ifGate_68 lfX9_73 nn_0 ki_0 (by decide) rfl rf_0_9 ?_
      refine aw_aload_n (pc := 71) 2 dX9_ifGate_71 rfl ?_
      refine aw_getR (pc := 72) 1 kcX9 dX9_ifGate_72 lfX9_21 nn_0 ki_0 (by decide) rfl rf_0_1 ?_
      refine aw_getIN (pc := 75) 0 kcX5 dX9_ifGate_75 lfnX9_276 nn_3 ki_3 (by decide) rfl ?_
      refine aw_callVN (pc := 78) (As := [.int (τ64 3 0)]) (rest := []) kcX3 nn_180 ki_180 rfl (ev_X3_allLacks l (τ64 3 0) h) mfX3_allLacks dX9_ifGate_78 lmnX9_356 ⟨Nat.le_refl _, Nat.le_refl _⟩ (by decide) rfl rfl (Nat.le_of_ble_eq_true rfl) (nxI (fun r78_ τ78 h => ?_))
      refine aw_istore (pc := 81) [(6, .int r78_), (5, .int v35), (4, .int v23), (0, .ref 0), (1, .int x1), (2, .int x2), (3, .int x3)] dX9_ifGate_81 (by decide) rfl ?_
      refine aw_aload_n (pc := 83) 3 dX9_ifGate_83 rfl ?_
      refine aw_getR (pc := 84) 4 kcX9 dX9_ifGate_84 lfX9_44 nn_0 ki_0 (by decide) rfl rf_0_4 ?_
      refine aw_getRN (pc := 87) 7 kcX6 dX9_ifGate_87 lfnX9_237 nn_55 ki_55 (by decide) rfl rf_55_7 ?_
      refine aw_iload (pc := 90) 2 dX9_ifGate_90 rfl ?_
      refine aw_iload (pc := 92) 1 dX9_ifGate_92 rfl ?_
      refine aw_iast (pc := 94) (j := v23.toNatClampNeg) (v := v35) dX9_ifGate_94 nn_61 ki_61 ln_61 h.1 rfl rfl ?_
      have h := h.2
      refine aw_tops (fun τ94 eτ94 => ?_)
      have h := h τ94 eτ94
      refine aw_aload_n (pc := 95) 3 dX9_ifGate_95 rfl ?_
      refine aw_getR (pc := 96) 9 kcX9 dX9_ifGate_96 lfX9_73 nn_0 ki_0 (by decide) rfl rf_0_9 ?_
      refine aw_iconst (pc := 99) 0 dX9_ifGate_99 (by decide) ?_
      refine aw_putN (pc := 100) 6 kcX3 dX9_ifGate_100 lfnX9_107 nn_180 ki_180 (by decide) rfl rfl rfl rfl ?_
      refine aw_tops (fun τ100 eτ100 => ?_)
      have h := h τ100 eτ100
      refine aw_iload (pc := 103) 0 dX9_ifGate_103 rfl ?_
      exact aw_iret (pc := 105) rfl dX9_ifGate_105 ⟨_, rfl, h⟩
    · have h := h.1 q
      refine aw_iconst (pc := 16) (-1) dX9_ifGate_16 (by decide) ?_
      exact aw_iret (pc := 17) rfl dX9_ifGate_17 ⟨_, rfl, h⟩
def wp_X9_count (x1 : Int32) (σ : Sg) (K : Int32 → Sg → Prop) : Prop :=
  br (x1 = 0) (K (σ 3 0) σ) (br (x1 = 1) (K (σ 3 1) σ) (br (x1 = 2) (K (σ 55 0) σ) (br (x1 = 3) (wp_X6_allGames 55 σ <| fun r76_ τ76 => (K r76_ τ76)) (br (x1 = 4) (wp_X6_decidedTies 55 σ <| fun r84_ τ84 => (K r84_ τ84)) (br (x1 = 5) (wp_J6_bitCount_0f7a4 (σ 55 1) σ <| fun r95_ τ95 => (K r95_ τ95)) (br (x1 = 6) (K (σ 63 2) σ) (br (x1 = 7) (K (σ 1 1) σ) (K (-1) σ))))))))
set_option maxRecDepth 20000 in
set_option maxHeartbeats 2000000 in
theorem ev_X9_count (l : Launch) (x1 : Int32) {σ : Sg} {K : Int32 → Sg → Prop} (h : wp_X9_count x1 σ K) : Ev l yX9_count cX9_count 2 (some .int) 3 [.ref 0, .int x1] σ (qI K) := by
  refine ev_ov (by decide) (Nat.le_of_ble_eq_true rfl) ?_
  show AV l RX9 cX9_count 2 (some .int) 3 (qI K) 0 [(0, .ref 0), (1, .int x1)] [] σ
  refine aw_iload_n (pc := 0) 1 dX9_count_0 rfl ?_
  by_cases q0 : x1 = 0
  · have h := h.1 q0
    refine aw_tableIn (pc := 1) 48 dX9_count_1 (by rw [q0]; decide) (by rw [q0]; decide) (by rw [q0]; rfl) (by decide) ?_
    refine aw_aload_n (pc := 48) 0 dX9_count_48 rfl ?_
    refine aw_getR (pc := 49) 1 kcX9 dX9_count_49 lfX9_21 nn_0 ki_0 (by decide) rfl rf_0_1 ?_
    refine aw_getIN (pc := 52) 0 kcX5 dX9_count_52 lfnX9_276 nn_3 ki_3 (by decide) rfl ?_
    exact aw_iret (pc := 55) rfl dX9_count_55 ⟨_, rfl, h⟩
  · have h := h.2 q0
    by_cases q1 : x1 = 1
    · have h := h.1 q1
      refine aw_tableIn (pc := 1) 56 dX9_count_1 (by rw [q1]; decide) (by rw [q1]; decide) (by rw [q1]; rfl) (by decide) ?_
      refine aw_aload_n (pc := 56) 0 dX9_count_56 rfl ?_
      refine aw_getR (pc := 57) 1 kcX9 dX9_count_57 lfX9_21 nn_0 ki_0 (by decide) rfl rf_0_1 ?_
      refine aw_getIN (pc := 60) 1 kcX5 dX9_count_60 lfnX9_344 nn_3 ki_3 (by decide) rfl ?_
      exact aw_iret (pc := 63) rfl dX9_count_63 ⟨_, rfl, h⟩
    · have h := h.2 q1
      by_cases q2 : x1 = 2
      · have h := h.1 q2
        refine aw_tableIn (pc := 1) 64 dX9_count_1 (by rw [q2]; decide) (by rw [q2]; decide) (by rw [q2]; rfl) (by decide) ?_
        refine aw_aload_n (pc := 64) 0 dX9_count_64 rfl ?_
        refine aw_getR (pc := 65) 4 kcX9 dX9_count_65 lfX9_44 nn_0 ki_0 (by decide) rfl rf_0_4 ?_
        refine aw_getIN (pc := 68) 0 kcX6 dX9_count_68 lfnX9_148 nn_55 ki_55 (by decide) rfl ?_
        exact aw_iret (pc := 71) rfl dX9_count_71 ⟨_, rfl, h⟩
      · have h := h.2 q2
        by_cases q3 : x1 = 3
        · have h := h.1 q3
          refine aw_tableIn (pc := 1) 72 dX9_count_1 (by rw [q3]; decide) (by rw [q3]; decide) (by rw [q3]; rfl) (by decide) ?_
          refine aw_aload_n (pc := 72) 0 dX9_count_72 rfl ?_
          refine aw_getR (pc := 73) 4 kcX9 dX9_count_73 lfX9_44 nn_0 ki_0 (by decide) rfl rf_0_4 ?_
          refine aw_callVN (pc := 76) (As := []) (rest := []) kcX6 nn_55 ki_55 rfl (ev_X6_allGames l 55 sea_55 h) mfX6_allGames dX9_count_76 lmnX9_359 ⟨Nat.le_refl _, Nat.le_refl _⟩ (by decide) rfl rfl (Nat.le_of_ble_eq_true rfl) (nxI (fun r76_ τ76 h => ?_))
          exact aw_iret (pc := 79) rfl dX9_count_79 ⟨_, rfl, h⟩
        · have h := h.2 q3
          by_cases q4 : x1 = 4
          · have h := h.1 q4
            refine aw_tableIn (pc := 1) 80 dX9_count_1 (by rw [q4]; decide) (by rw [q4]; decide) (by rw [q4]; rfl) (by decide) ?_
            refine aw_aload_n (pc := 80) 0 dX9_count_80 rfl ?_
            refine aw_getR (pc := 81) 4 kcX9 dX9_count_81 lfX9_44 nn_0 ki_0 (by decide) rfl rf_0_4 ?_
            refine aw_callVN (pc := 84) (As := []) (rest := []) kcX6 nn_55 ki_55 rfl (ev_X6_decidedTies l 55 sea_55 h) mfX6_decidedTies dX9_count_84 lmnX9_362 ⟨Nat.le_refl _, Nat.le_refl _⟩ (by decide) rfl rfl (Nat.le_of_ble_eq_true rfl) (nxI (fun r84_ τ84 h => ?_))
            exact aw_iret (pc := 87) rfl dX9_count_87 ⟨_, rfl, h⟩
          · have h := h.2 q4
            by_cases q5 : x1 = 5
            · have h := h.1 q5
              refine aw_tableIn (pc := 1) 88 dX9_count_1 (by rw [q5]; decide) (by rw [q5]; decide) (by rw [q5]; rfl) (by decide) ?_
              refine aw_aload_n (pc := 88) 0 dX9_count_88 rfl ?_
              refine aw_getR (pc := 89) 4 kcX9 dX9_count_89 lfX9_44 nn_0 ki_0 (by decide) rfl rf_0_4 ?_
              refine aw_getIN (pc := 92) 1 kcX6 dX9_count_92 lfnX9_365 nn_55 ki_55 (by decide) rfl ?_
              refine aw_callS (pc := 95) (As := [.int (σ 55 1)]) (rest := []) (ev_J6_bitCount_0f7a4 l (σ 55 1) h) mfJ6_bitCount_0f7a4 dX9_count_95 lmX9_368 ⟨Nat.le_refl _, Nat.le_refl _⟩ (by decide) rfl rfl (Nat.le_of_ble_eq_true rfl) (nxI (fun r95_ τ95 h => ?_))
              exact aw_iret (pc := 98) rfl dX9_count_98 ⟨_, rfl, h⟩
            · have h := h.2 q5
              by_cases q6 : x1 = 6
              · have h := h.1 q6
                refine aw_tableIn (pc := 1) 99 dX9_count_1 (by rw [q6]; decide) (by rw [q6]; decide) (by rw [q6]; rfl) (by decide) ?_
                refine aw_aload_n (pc := 99) 0 dX9_count_99 rfl ?_
                refine aw_getR (pc := 100) 5 kcX9 dX9_count_100 lfX9_51 nn_0 ki_0 (by decide) rfl rf_0_5 ?_
                refine aw_getIN (pc := 103) 2 kcX2 dX9_count_103 lfnX9_178 nn_63 ki_63 (by decide) rfl ?_
                exact aw_iret (pc := 106) rfl dX9_count_106 ⟨_, rfl, h⟩
              · have h := h.2 q6
                by_cases q7 : x1 = 7
                · have h := h.1 q7
                  refine aw_tableIn (pc := 1) 107 dX9_count_1 (by rw [q7]; decide) (by rw [q7]; decide) (by rw [q7]; rfl) (by decide) ?_
                  refine aw_aload_n (pc := 107) 0 dX9_count_107 rfl ?_
                  refine aw_getR (pc := 108) 0 kcX9 dX9_count_108 lfX9_12 nn_0 ki_0 (by decide) rfl rf_0_0 ?_
                  refine aw_getIN (pc := 111) 1 kcX4 dX9_count_111 lfnX9_88 nn_1 ki_1 (by decide) rfl ?_
                  exact aw_iret (pc := 114) rfl dX9_count_114 ⟨_, rfl, h⟩
                · have h := h.2 q7
                  have t0 := lv_neT (a := 0) q0 rfl
                  have t1 := lv_neT (a := 1) q1 rfl
                  have t2 := lv_neT (a := 2) q2 rfl
                  have t3 := lv_neT (a := 3) q3 rfl
                  have t4 := lv_neT (a := 4) q4 rfl
                  have t5 := lv_neT (a := 5) q5 rfl
                  have t6 := lv_neT (a := 6) q6 rfl
                  have t7 := lv_neT (a := 7) q7 rfl
                  refine aw_tableOut (pc := 1) 115 dX9_count_1 (by omega) (by decide) ?_
                  refine aw_iconst (pc := 115) (-1) dX9_count_115 (by decide) ?_
                  exact aw_iret (pc := 116) rfl dX9_count_116 ⟨_, rfl, h⟩
