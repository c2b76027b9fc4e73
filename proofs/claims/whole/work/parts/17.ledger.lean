def b_X3_clearRow_2 (k0 n0 : Nat)  (K : Sg → Prop) : Nat → Int32 → Sg → Prop
  | 0, _, _ => False
  | n + 1, y1, σ =>
  br ((Int32.ofNat n0) ≤ y1) (K σ) (vp_in y1 n0 ∧ (∀ τ11 : Sg, τ11 = up σ k0 y1.toNatClampNeg 0 → (∀ v12 : Int32, v12 = y1 + 1 → (b_X3_clearRow_2 k0 n0  K n v12 τ11))))
set_option maxRecDepth 20000 in
set_option maxHeartbeats 2000000 in
theorem bt_X3_clearRow_2 (l : Launch) (k0 n0 : Nat) (hk0 : aOk k0 n0) {K : Sg → Prop}   : ∀ (n : Nat) (y1 : Int32)  (σ : Sg), b_X3_clearRow_2 k0 n0  K n y1 σ → AV l RX3 cX3_clearRow 2 none 0 (qV K) 2 [(0, .ref k0), (1, .int y1)] [] σ := by
  intro n
  induction n with
  | zero => intro y1 σ h; exact h.elim
  | succ n ih =>
    intro y1 σ h
    refine aw_iload_n (pc := 2) 1 dX3_clearRow_2 rfl ?_
    refine aw_aload_n (pc := 3) 0 dX3_clearRow_3 rfl ?_
    refine aw_alen (pc := 4) dX3_clearRow_4 hk0.1 hk0.2.1 hk0.2.2 rfl ?_
    refine aw_icmp_ge (pc := 5) 18 dX3_clearRow_5 (by decide) (fun q => ?_) (fun q => ?_)
    · have h := h.1 q
      exact aw_vret (pc := 18) rfl dX3_clearRow_18 ⟨rfl, h⟩
    · have h := h.2 q
      refine aw_aload_n (pc := 8) 0 dX3_clearRow_8 rfl ?_
      refine aw_iload_n (pc := 9) 1 dX3_clearRow_9 rfl ?_
      refine aw_iconst (pc := 10) 0 dX3_clearRow_10 (by decide) ?_
      refine aw_iast (pc := 11) (j := y1.toNatClampNeg) (v := 0) dX3_clearRow_11 hk0.1 hk0.2.1 hk0.2.2 h.1 rfl rfl ?_
      have h := h.2
      refine aw_tops (fun τ11 eτ11 => ?_)
      have h := h τ11 eτ11
      obtain ⟨v12, ev12⟩ : ∃ v : Int32, v = y1 + 1 := ⟨_, rfl⟩
      have h := h v12 ev12
      refine aw_iinc (pc := 12) 1 v12 [(1, .int v12), (0, .ref k0)] dX3_clearRow_12 rfl (by rw [ev12]; rfl) (by decide) rfl ?_
      refine aw_goto (pc := 15) 2 dX3_clearRow_15 (by decide) ?_
      refine aw_sub (L' := [(0, .ref k0), (1, .int v12)]) [1, 0] rfl ?_
      exact ih v12  _ h
def wp_X3_clearRow (k0 n0 : Nat) (σ : Sg) (K : Sg → Prop) : Prop :=
  ∃ nf, b_X3_clearRow_2 k0 n0  K nf 0 σ
set_option maxRecDepth 20000 in
set_option maxHeartbeats 2000000 in
theorem ev_X3_clearRow (l : Launch) (k0 n0 : Nat) (hk0 : aOk k0 n0) {σ : Sg} {K : Sg → Prop} (h : wp_X3_clearRow k0 n0 σ K) : Ev l yX3_clearRow cX3_clearRow 2 none 0 [.ref k0] σ (qV K) := by
  refine ev_ov (by decide) (Nat.le_of_ble_eq_true rfl) ?_
  show AV l RX3 cX3_clearRow 2 none 0 (qV K) 0 [(0, .ref k0)] [] σ
  refine aw_iconst (pc := 0) 0 dX3_clearRow_0 (by decide) ?_
  refine aw_istore_n (pc := 1) (i := 1) [(1, .int 0), (0, .ref k0)] dX3_clearRow_1 rfl (by decide) rfl ?_
  refine aw_sub (L' := [(0, .ref k0), (1, .int 0)]) [1, 0] rfl ?_
  obtain ⟨nf, h⟩ := h
  exact bt_X3_clearRow_2 l k0 n0 hk0   nf 0  _ h
def b_X3_clear_47   (K : Sg → Prop) : Nat → Int32 → Sg → Prop
  | 0, _, _ => False
  | n + 1, y1, σ =>
  br (24 ≤ y1) (wp_X3_clearRow 224 12 σ <| fun τ72 => (wp_X3_clearRow 226 6 τ72 <| fun τ79 => (K τ79))) (vp_in y1 24 ∧ (wp_X3_clearRow (199 + 1 + y1.toNatClampNeg) 7 σ <| fun τ59 => (∀ v62 : Int32, v62 = y1 + 1 → (b_X3_clear_47   K n v62 τ59))))
set_option maxRecDepth 20000 in
set_option maxHeartbeats 2000000 in
theorem bt_X3_clear_47 (l : Launch)  {K : Sg → Prop}   : ∀ (n : Nat) (y1 : Int32)  (σ : Sg), b_X3_clear_47   K n y1 σ → AV l RX3 cX3_clear 2 none 1 (qV K) 47 [(0, .ref 180), (1, .int y1)] [] σ := by
  intro n
  induction n with
  | zero => intro y1 σ h; exact h.elim
  | succ n ih =>
    intro y1 σ h
    refine aw_iload_n (pc := 47) 1 dX3_clear_47 rfl ?_
    refine aw_bipush (pc := 48) 24 dX3_clear_48 (by decide) ?_
    refine aw_icmp_ge (pc := 50) 68 dX3_clear_50 (by decide) (fun q => ?_) (fun q => ?_)
    · have h := h.1 q
      refine aw_aload_n (pc := 68) 0 dX3_clear_68 rfl ?_
      refine aw_getR (pc := 69) 3 kcX3 dX3_clear_69 lfX3_22 nn_180 ki_180 (by decide) rfl rf_180_3 ?_
      refine aw_callS (pc := 72) (As := [.ref 224]) (rest := []) (ev_X3_clearRow l 224 12 ao_224 h) mfX3_clearRow dX3_clear_72 lmX3_76 ⟨Nat.le_refl _, Nat.le_refl _⟩ (by decide) rfl rfl (Nat.le_of_ble_eq_true rfl) (nxV (fun τ72 h => ?_))
      refine aw_aload_n (pc := 75) 0 dX3_clear_75 rfl ?_
      refine aw_getR (pc := 76) 5 kcX3 dX3_clear_76 lfX3_29 nn_180 ki_180 (by decide) rfl rf_180_5 ?_
      refine aw_callS (pc := 79) (As := [.ref 226]) (rest := []) (ev_X3_clearRow l 226 6 ao_226 h) mfX3_clearRow dX3_clear_79 lmX3_76 ⟨Nat.le_refl _, Nat.le_refl _⟩ (by decide) rfl rfl (Nat.le_of_ble_eq_true rfl) (nxV (fun τ79 h => ?_))
      exact aw_vret (pc := 82) rfl dX3_clear_82 ⟨rfl, h⟩
    · have h := h.2 q
      refine aw_aload_n (pc := 53) 0 dX3_clear_53 rfl ?_
      refine aw_getR (pc := 54) 2 kcX3 dX3_clear_54 lfX3_19 nn_180 ki_180 (by decide) rfl rf_180_2 ?_
      refine aw_iload_n (pc := 57) 1 dX3_clear_57 rfl ?_
      have hin58 := h.1
      have h := h.2
      refine aw_aldI (pc := 58) dX3_clear_58 nn_199 ki_199 ln_199 hin58 (rf15 ki_199) ?_
      refine aw_callS (pc := 59) (As := [.ref (199 + 1 + y1.toNatClampNeg)]) (rest := []) (ev_X3_clearRow l (199 + 1 + y1.toNatClampNeg) 7 (row_199 _ (vp_lt hin58)) h) mfX3_clearRow dX3_clear_59 lmX3_76 ⟨Nat.le_refl _, Nat.le_refl _⟩ (by decide) rfl rfl (Nat.le_of_ble_eq_true rfl) (nxV (fun τ59 h => ?_))
      obtain ⟨v62, ev62⟩ : ∃ v : Int32, v = y1 + 1 := ⟨_, rfl⟩
      have h := h v62 ev62
      refine aw_iinc (pc := 62) 1 v62 [(1, .int v62), (0, .ref 180)] dX3_clear_62 rfl (by rw [ev62]; rfl) (by decide) rfl ?_
      refine aw_goto (pc := 65) 47 dX3_clear_65 (by decide) ?_
      refine aw_sub (L' := [(0, .ref 180), (1, .int v62)]) [1, 0] rfl ?_
      exact ih v62  _ h
def b_X3_clear_25   (K : Sg → Prop) : Nat → Int32 → Sg → Prop
  | 0, _, _ => False
  | n + 1, y1, σ =>
  br (4 ≤ y1) (∃ nf, b_X3_clear_47   K nf 0 σ) (vp_in y1 4 ∧ (wp_X3_clearRow (194 + 1 + y1.toNatClampNeg) 3 σ <| fun τ36 => (∀ v39 : Int32, v39 = y1 + 1 → (b_X3_clear_25   K n v39 τ36))))
set_option maxRecDepth 20000 in
set_option maxHeartbeats 2000000 in
theorem bt_X3_clear_25 (l : Launch)  {K : Sg → Prop}   : ∀ (n : Nat) (y1 : Int32)  (σ : Sg), b_X3_clear_25   K n y1 σ → AV l RX3 cX3_clear 2 none 1 (qV K) 25 [(0, .ref 180), (1, .int y1)] [] σ := by
  intro n
  induction n with
  | zero => intro y1 σ h; exact h.elim
  | succ n ih =>
    intro y1 σ h
    refine aw_iload_n (pc := 25) 1 dX3_clear_25 rfl ?_
    refine aw_iconst (pc := 26) 4 dX3_clear_26 (by decide) ?_
    refine aw_icmp_ge (pc := 27) 45 dX3_clear_27 (by decide) (fun q => ?_) (fun q => ?_)
    · have h := h.1 q
      refine aw_iconst (pc := 45) 0 dX3_clear_45 (by decide) ?_
      refine aw_istore_n (pc := 46) (i := 1) [(1, .int 0), (0, .ref 180)] dX3_clear_46 rfl (by decide) rfl ?_
      refine aw_sub (L' := [(0, .ref 180), (1, .int 0)]) [1, 0] rfl ?_
      obtain ⟨nf, h⟩ := h
      exact bt_X3_clear_47 l    nf 0  _ h
    · have h := h.2 q
      refine aw_aload_n (pc := 30) 0 dX3_clear_30 rfl ?_
      refine aw_getR (pc := 31) 1 kcX3 dX3_clear_31 lfX3_16 nn_180 ki_180 (by decide) rfl rf_180_1 ?_
      refine aw_iload_n (pc := 34) 1 dX3_clear_34 rfl ?_
      have hin35 := h.1
      have h := h.2
      refine aw_aldI (pc := 35) dX3_clear_35 nn_194 ki_194 ln_194 hin35 (rf15 ki_194) ?_
      refine aw_callS (pc := 36) (As := [.ref (194 + 1 + y1.toNatClampNeg)]) (rest := []) (ev_X3_clearRow l (194 + 1 + y1.toNatClampNeg) 3 (row_194 _ (vp_lt hin35)) h) mfX3_clearRow dX3_clear_36 lmX3_76 ⟨Nat.le_refl _, Nat.le_refl _⟩ (by decide) rfl rfl (Nat.le_of_ble_eq_true rfl) (nxV (fun τ36 h => ?_))
      obtain ⟨v39, ev39⟩ : ∃ v : Int32, v = y1 + 1 := ⟨_, rfl⟩
      have h := h v39 ev39
      refine aw_iinc (pc := 39) 1 v39 [(1, .int v39), (0, .ref 180)] dX3_clear_39 rfl (by rw [ev39]; rfl) (by decide) rfl ?_
      refine aw_goto (pc := 42) 25 dX3_clear_42 (by decide) ?_
      refine aw_sub (L' := [(0, .ref 180), (1, .int v39)]) [1, 0] rfl ?_
      exact ih v39  _ h
def b_X3_clear_2   (K : Sg → Prop) : Nat → Int32 → Sg → Prop
  | 0, _, _ => False
  | n + 1, y1, σ =>
  br (12 ≤ y1) (∃ nf, b_X3_clear_25   K nf 0 σ) (vp_in y1 12 ∧ (wp_X3_clearRow (181 + 1 + y1.toNatClampNeg) 12 σ <| fun τ14 => (∀ v17 : Int32, v17 = y1 + 1 → (b_X3_clear_2   K n v17 τ14))))
set_option maxRecDepth 20000 in
set_option maxHeartbeats 2000000 in
theorem bt_X3_clear_2 (l : Launch)  {K : Sg → Prop}   : ∀ (n : Nat) (y1 : Int32)  (σ : Sg), b_X3_clear_2   K n y1 σ → AV l RX3 cX3_clear 2 none 1 (qV K) 2 [(0, .ref 180), (1, .int y1)] [] σ := by
  intro n
  induction n with
  | zero => intro y1 σ h; exact h.elim
  | succ n ih =>
    intro y1 σ h
    refine aw_iload_n (pc := 2) 1 dX3_clear_2 rfl ?_
    refine aw_bipush (pc := 3) 12 dX3_clear_3 (by decide) ?_
    refine aw_icmp_ge (pc := 5) 23 dX3_clear_5 (by decide) (fun q => ?_) (fun q => ?_)
    · have h := h.1 q
      refine aw_iconst (pc := 23) 0 dX3_clear_23 (by decide) ?_
      refine aw_istore_n (pc := 24) (i := 1) [(1, .int 0), (0, .ref 180)] dX3_clear_24 rfl (by decide) rfl ?_
      refine aw_sub (L' := [(0, .ref 180), (1, .int 0)]) [1, 0] rfl ?_
      obtain ⟨nf, h⟩ := h
      exact bt_X3_clear_25 l    nf 0  _ h
    · have h := h.2 q
      refine aw_aload_n (pc := 8) 0 dX3_clear_8 rfl ?_
      refine aw_getR (pc := 9) 0 kcX3 dX3_clear_9 lfX3_11 nn_180 ki_180 (by decide) rfl rf_180_0 ?_
      refine aw_iload_n (pc := 12) 1 dX3_clear_12 rfl ?_
      have hin13 := h.1
      have h := h.2
      refine aw_aldI (pc := 13) dX3_clear_13 nn_181 ki_181 ln_181 hin13 (rf15 ki_181) ?_
      refine aw_callS (pc := 14) (As := [.ref (181 + 1 + y1.toNatClampNeg)]) (rest := []) (ev_X3_clearRow l (181 + 1 + y1.toNatClampNeg) 12 (row_181 _ (vp_lt hin13)) h) mfX3_clearRow dX3_clear_14 lmX3_76 ⟨Nat.le_refl _, Nat.le_refl _⟩ (by decide) rfl rfl (Nat.le_of_ble_eq_true rfl) (nxV (fun τ14 h => ?_))
      obtain ⟨v17, ev17⟩ : ∃ v : Int32, v = y1 + 1 := ⟨_, rfl⟩
      have h := h v17 ev17
      refine aw_iinc (pc := 17) 1 v17 [(1, .int v17), (0, .ref 180)] dX3_clear_17 rfl (by rw [ev17]; rfl) (by decide) rfl ?_
      refine aw_goto (pc := 20) 2 dX3_clear_20 (by decide) ?_
      refine aw_sub (L' := [(0, .ref 180), (1, .int v17)]) [1, 0] rfl ?_
      exact ih v17  _ h
def wp_X3_clear  (σ : Sg) (K : Sg → Prop) : Prop :=
  ∃ nf, b_X3_clear_2   K nf 0 σ
set_option maxRecDepth 20000 in
set_option maxHeartbeats 2000000 in
theorem ev_X3_clear (l : Launch)  {σ : Sg} {K : Sg → Prop} (h : wp_X3_clear  σ K) : Ev l yX3_clear cX3_clear 2 none 1 [.ref 180] σ (qV K) := by
  refine ev_ov (by decide) (Nat.le_of_ble_eq_true rfl) ?_
  show AV l RX3 cX3_clear 2 none 1 (qV K) 0 [(0, .ref 180)] [] σ
  refine aw_iconst (pc := 0) 0 dX3_clear_0 (by decide) ?_
  refine aw_istore_n (pc := 1) (i := 1) [(1, .int 0), (0, .ref 180)] dX3_clear_1 rfl (by decide) rfl ?_
  refine aw_sub (L' := [(0, .ref 180), (1, .int 0)]) [1, 0] rfl ?_
  obtain ⟨nf, h⟩ := h
  exact bt_X3_clear_2 l    nf 0  _ h
def wp_X3_enterTie (x2 : Int32) (σ : Sg) (K : Sg → Prop) : Prop :=
  vp_in x2 30 ∧ (vp_in (σ 56 x2.toNatClampNeg) 4 ∧ (∀ τ16 : Sg, τ16 = up σ (194 + 1 + (σ 56 x2.toNatClampNeg).toNatClampNeg) 2 ((σ (194 + 1 + (σ 56 x2.toNatClampNeg).toNatClampNeg) 2) + 1) → (vp_in x2 30 ∧ (vp_in x2 30 ∧ (vp_in (((τ16 56 x2.toNatClampNeg) * 6) + (τ16 57 x2.toNatClampNeg)) 24 ∧ (∀ τ44 : Sg, τ44 = up τ16 (199 + 1 + (((τ16 56 x2.toNatClampNeg) * 6) + (τ16 57 x2.toNatClampNeg)).toNatClampNeg) 6 ((τ16 (199 + 1 + (((τ16 56 x2.toNatClampNeg) * 6) + (τ16 57 x2.toNatClampNeg)).toNatClampNeg) 6) + 1) → (wp_X6_isDecided 55 x2 τ44 <| fun r47_ τ47 => (br (r47_ = 0) (K τ47) (wp_X6_winnerOf 55 x2 τ47 <| fun r59_ τ59 => (vp_in r59_ 12 ∧ (∀ τ69 : Sg, τ69 = up τ59 (181 + 1 + r59_.toNatClampNeg) 11 ((τ59 (181 + 1 + r59_.toNatClampNeg) 11) + 1) → (K τ69))))))))))))
set_option maxRecDepth 20000 in
set_option maxHeartbeats 2000000 in
theorem ev_X3_enterTie (l : Launch) (x2 : Int32) {σ : Sg} {K : Sg → Prop} (h : wp_X3_enterTie x2 σ K) : Ev l yX3_enterTie cX3_enterTie 3 none 3 [.ref 180, .ref 55, .int x2] σ (qV K) := by
  refine ev_ov (by decide) (Nat.le_of_ble_eq_true rfl) ?_
  show AV l RX3 cX3_enterTie 3 none 3 (qV K) 0 [(0, .ref 180), (1, .ref 55), (2, .int x2)] [] σ
  refine aw_aload_n (pc := 0) 0 dX3_enterTie_0 rfl ?_
  refine aw_getR (pc := 1) 1 kcX3 dX3_enterTie_1 lfX3_16 nn_180 ki_180 (by decide) rfl rf_180_1 ?_
  refine aw_aload_n (pc := 4) 1 dX3_enterTie_4 rfl ?_
  refine aw_getRN (pc := 5) 2 kcX6 dX3_enterTie_5 lfnX3_80 nn_55 ki_55 (by decide) rfl rf_55_2 ?_
  refine aw_iload_n (pc := 8) 2 dX3_enterTie_8 rfl ?_
  refine aw_iald (pc := 9) (j := x2.toNatClampNeg) dX3_enterTie_9 nn_56 ki_56 ln_56 h.1 rfl ?_
  have h := h.2
  have hin10 := h.1
  have h := h.2
  refine aw_aldI (pc := 10) dX3_enterTie_10 nn_194 ki_194 ln_194 hin10 (rf15 ki_194) ?_
  refine aw_iconst (pc := 11) 2 dX3_enterTie_11 (by decide) ?_
  refine aw_dup2 (pc := 12) dX3_enterTie_12 rfl rfl ?_
  refine aw_iald (pc := 13) (j := 2) dX3_enterTie_13 (row_194 _ (vp_lt hin10)).1 (row_194 _ (vp_lt hin10)).2.1 (row_194 _ (vp_lt hin10)).2.2 (show vp_in _ _ by unfold vp_in; decide) (by decide) ?_
  refine aw_iconst (pc := 14) 1 dX3_enterTie_14 (by decide) ?_
  refine aw_iadd (pc := 15) dX3_enterTie_15 ?_
  refine aw_iast (pc := 16) (j := 2) (v := ((σ (194 + 1 + (σ 56 x2.toNatClampNeg).toNatClampNeg) 2) + 1)) dX3_enterTie_16 (row_194 _ (vp_lt hin10)).1 (row_194 _ (vp_lt hin10)).2.1 (row_194 _ (vp_lt hin10)).2.2 (show vp_in _ _ by unfold vp_in; decide) (by decide) rfl ?_
  refine aw_tops (fun τ16 eτ16 => ?_)
  have h := h τ16 eτ16
  refine aw_aload_n (pc := 17) 0 dX3_enterTie_17 rfl ?_
  refine aw_getR (pc := 18) 2 kcX3 dX3_enterTie_18 lfX3_19 nn_180 ki_180 (by decide) rfl rf_180_2 ?_
  refine aw_aload_n (pc := 21) 1 dX3_enterTie_21 rfl ?_
  refine aw_getRN (pc := 22) 2 kcX6 dX3_enterTie_22 lfnX3_80 nn_55 ki_55 (by decide) rfl rf_55_2 ?_
  refine aw_iload_n (pc := 25) 2 dX3_enterTie_25 rfl ?_
  refine aw_iald (pc := 26) (j := x2.toNatClampNeg) dX3_enterTie_26 nn_56 ki_56 ln_56 h.1 rfl ?_
  have h := h.2
  refine aw_bipush (pc := 27) 6 dX3_enterTie_27 (by decide) ?_
  refine aw_imul (pc := 29) dX3_enterTie_29 ?_
  refine aw_aload_n (pc := 30) 1 dX3_enterTie_30 rfl ?_
  refine aw_getRN (pc := 31) 3 kcX6 dX3_enterTie_31 lfnX3_83 nn_55 ki_55 (by decide) rfl rf_55_3 ?_
  refine aw_iload_n (pc := 34) 2 dX3_enterTie_34 rfl ?_
  refine aw_iald (pc := 35) (j := x2.toNatClampNeg) dX3_enterTie_35 nn_57 ki_57 ln_57 h.1 rfl ?_
  have h := h.2
  refine aw_iadd (pc := 36) dX3_enterTie_36 ?_
  have hin37 := h.1
  have h := h.2
  refine aw_aldI (pc := 37) dX3_enterTie_37 nn_199 ki_199 ln_199 hin37 (rf15 ki_199) ?_
  refine aw_bipush (pc := 38) 6 dX3_enterTie_38 (by decide) ?_
  refine aw_dup2 (pc := 40) dX3_enterTie_40 rfl rfl ?_
  refine aw_iald (pc := 41) (j := 6) dX3_enterTie_41 (row_199 _ (vp_lt hin37)).1 (row_199 _ (vp_lt hin37)).2.1 (row_199 _ (vp_lt hin37)).2.2 (show vp_in _ _ by unfold vp_in; decide) (by decide) ?_
  refine aw_iconst (pc := 42) 1 dX3_enterTie_42 (by decide) ?_
  refine aw_iadd (pc := 43) dX3_enterTie_43 ?_
  refine aw_iast (pc := 44) (j := 6) (v := ((τ16 (199 + 1 + (((τ16 56 x2.toNatClampNeg) * 6) + (τ16 57 x2.toNatClampNeg)).toNatClampNeg) 6) + 1)) dX3_enterTie_44 (row_199 _ (vp_lt hin37)).1 (row_199 _ (vp_lt hin37)).2.1 (row_199 _ (vp_lt hin37)).2.2 (show vp_in _ _ by unfold vp_in; decide) (by decide) rfl ?_
  refine aw_tops (fun τ44 eτ44 => ?_)
  have h := h τ44 eτ44
  refine aw_aload_n (pc := 45) 1 dX3_enterTie_45 rfl ?_
  refine aw_iload_n (pc := 46) 2 dX3_enterTie_46 rfl ?_
  refine aw_callVN (pc := 47) (As := [.int x2]) (rest := []) kcX6 nn_55 ki_55 rfl (ev_X6_isDecided l 55 sea_55 x2 h) mfX6_isDecided dX3_enterTie_47 lmnX3_86 ⟨Nat.le_refl _, Nat.le_refl _⟩ (by decide) rfl rfl (Nat.le_of_ble_eq_true rfl) (nxI (fun r47_ τ47 h => ?_))
  refine aw_if_eq (pc := 50) 70 dX3_enterTie_50 (by decide) (fun q => ?_) (fun q => ?_)
  · have h := h.1 q
    exact aw_vret (pc := 70) rfl dX3_enterTie_70 ⟨rfl, h⟩
  · have h := h.2 q
    refine aw_aload_n (pc := 53) 0 dX3_enterTie_53 rfl ?_
    refine aw_getR (pc := 54) 0 kcX3 dX3_enterTie_54 lfX3_11 nn_180 ki_180 (by decide) rfl rf_180_0 ?_
    refine aw_aload_n (pc := 57) 1 dX3_enterTie_57 rfl ?_
    refine aw_iload_n (pc := 58) 2 dX3_enterTie_58 rfl ?_
    refine aw_callVN (pc := 59) (As := [.int x2]) (rest := [.ref 181]) kcX6 nn_55 ki_55 rfl (ev_X6_winnerOf l 55 sea_55 x2 h) mfX6_winnerOf dX3_enterTie_59 lmnX3_90 ⟨Nat.le_refl _, Nat.le_refl _⟩ (by decide) rfl rfl (Nat.le_of_ble_eq_true rfl) (nxI (fun r59_ τ59 h => ?_))
    have hin62 := h.1
    have h := h.2
    refine aw_aldI (pc := 62) dX3_enterTie_62 nn_181 ki_181 ln_181 hin62 (rf15 ki_181) ?_
    refine aw_bipush (pc := 63) 11 dX3_enterTie_63 (by decide) ?_
    refine aw_dup2 (pc := 65) dX3_enterTie_65 rfl rfl ?_
    refine aw_iald (pc := 66) (j := 11) dX3_enterTie_66 (row_181 _ (vp_lt hin62)).1 (row_181 _ (vp_lt hin62)).2.1 (row_181 _ (vp_lt hin62)).2.2 (show vp_in _ _ by unfold vp_in; decide) (by decide) ?_
    refine aw_iconst (pc := 67) 1 dX3_enterTie_67 (by decide) ?_
    refine aw_iadd (pc := 68) dX3_enterTie_68 ?_
    refine aw_iast (pc := 69) (j := 11) (v := ((τ59 (181 + 1 + r59_.toNatClampNeg) 11) + 1)) dX3_enterTie_69 (row_181 _ (vp_lt hin62)).1 (row_181 _ (vp_lt hin62)).2.1 (row_181 _ (vp_lt hin62)).2.2 (show vp_in _ _ by unfold vp_in; decide) (by decide) rfl ?_
    refine aw_tops (fun τ69 eτ69 => ?_)
    have h := h τ69 eτ69
    exact aw_vret (pc := 70) rfl dX3_enterTie_70 ⟨rfl, h⟩
def wp_X3_enterGame (x4 : Int32) (x5 : Int32) (σ : Sg) (K : Sg → Prop) : Prop :=
  vp_in x4 30 ∧ (∀ v7 : Int32, v7 = σ 56 x4.toNatClampNeg → (vp_in x4 30 ∧ (∀ v16 : Int32, v16 = σ 57 x4.toNatClampNeg → (wp_X6_hostOf 55 x4 x5 σ <| fun r23_ τ23 => (wp_X6_guestOf 55 x4 x5 τ23 <| fun r33_ τ33 => (vp_in ((x4 * 4) + x5) 120 ∧ (∀ v50 : Int32, v50 = τ33 61 ((x4 * 4) + x5).toNatClampNeg → (wp_X8_reckonGame v7 v16 x5 r23_ r33_ v50 τ33 <| fun τ66 => (vp_in r23_ 12 ∧ (∀ τ82 : Sg, τ82 = up τ66 (181 + 1 + r23_.toNatClampNeg) 10 ((τ66 (181 + 1 + r23_.toNatClampNeg) 10) + 1) → (vp_in r33_ 12 ∧ (∀ τ96 : Sg, τ96 = up τ82 (181 + 1 + r33_.toNatClampNeg) 10 ((τ82 (181 + 1 + r33_.toNatClampNeg) 10) + 1) → (vp_in r23_ 12 ∧ (∀ τ112 : Sg, τ112 = up τ96 (181 + 1 + r23_.toNatClampNeg) 4 ((τ96 (181 + 1 + r23_.toNatClampNeg) 4) + (τ96 179 2)) → (vp_in r33_ 12 ∧ (∀ τ128 : Sg, τ128 = up τ112 (181 + 1 + r33_.toNatClampNeg) 4 ((τ112 (181 + 1 + r33_.toNatClampNeg) 4) + (τ112 179 3)) → (vp_in r23_ 12 ∧ (∀ τ144 : Sg, τ144 = up τ128 (181 + 1 + r23_.toNatClampNeg) 5 ((τ128 (181 + 1 + r23_.toNatClampNeg) 5) + (τ128 179 5)) → (vp_in r33_ 12 ∧ (∀ τ161 : Sg, τ161 = up τ144 (181 + 1 + r33_.toNatClampNeg) 6 ((τ144 (181 + 1 + r33_.toNatClampNeg) 6) + (τ144 179 6)) → (vp_in r23_ 12 ∧ (vp_in r23_ 12 ∧ (∀ τ173 : Sg, τ173 = up τ161 224 r23_.toNatClampNeg ((τ161 224 r23_.toNatClampNeg) + v50) → (vp_in v7 4 ∧ (∀ τ187 : Sg, τ187 = up τ173 (194 + 1 + v7.toNatClampNeg) 1 ((τ173 (194 + 1 + v7.toNatClampNeg) 1) + v50) → (vp_in ((v7 * 6) + v16) 24 ∧ (∀ τ209 : Sg, τ209 = up τ187 (199 + 1 + ((v7 * 6) + v16).toNatClampNeg) 0 ((τ187 (199 + 1 + ((v7 * 6) + v16).toNatClampNeg) 0) + (τ187 179 7)) → (∀ τ220 : Sg, τ220 = up τ209 226 0 ((τ209 226 0) + v50) → (∀ τ238 : Sg, τ238 = up τ220 226 1 ((τ220 226 1) + ((τ220 179 2) + (τ220 179 3))) → (∀ τ256 : Sg, τ256 = up τ238 226 2 ((τ238 226 2) + ((τ238 179 5) + (τ238 179 6))) → (∀ τ269 : Sg, τ269 = up τ256 226 3 ((τ256 226 3) + (τ256 179 7)) → (K τ269))))))))))))))))))))))))))))))))
set_option maxRecDepth 20000 in
set_option maxHeartbeats 2000000 in
theorem ev_X3_enterGame (l : Launch) (x4 : Int32) (x5 : Int32) {σ : Sg} {K : Sg → Prop} (h : wp_X3_enterGame x4 x5 σ K) : Ev l yX3_enterGame cX3_enterGame 11 none 3 [.ref 180, .ref 3, .ref 55, .ref 179, .int x4, .int x5] σ (qV K) := by
  refine ev_ov (by decide) (Nat.le_of_ble_eq_true rfl) ?_
  show AV l RX3 cX3_enterGame 11 none 3 (qV K) 0 [(0, .ref 180), (1, .ref 3), (2, .ref 55), (3, .ref 179), (4, .int x4), (5, .int x5)] [] σ
  refine aw_aload_n (pc := 0) 2 dX3_enterGame_0 rfl ?_
  refine aw_getRN (pc := 1) 2 kcX6 dX3_enterGame_1 lfnX3_80 nn_55 ki_55 (by decide) rfl rf_55_2 ?_
  refine aw_iload (pc := 4) 4 dX3_enterGame_4 rfl ?_
  refine aw_iald (pc := 6) (j := x4.toNatClampNeg) dX3_enterGame_6 nn_56 ki_56 ln_56 h.1 rfl ?_
  have h := h.2
  refine aw_topi (fun v7 ev7 => ?_)
  have h := h v7 ev7
  refine aw_istore (pc := 7) [(6, .int v7), (0, .ref 180), (1, .ref 3), (2, .ref 55), (3, .ref 179), (4, .int x4), (5, .int x5)] dX3_enterGame_7 (by decide) rfl ?_
  refine aw_aload_n (pc := 9) 3 dX3_enterGame_9 rfl ?_
  refine aw_getRN (pc := 10) 3 kcX6 dX3_enterGame_10 lfnX3_83 nn_55 ki_55 (by decide) rfl rf_55_3 ?_
  refine aw_iload (pc := 13) 5 dX3_enterGame_13 rfl ?_
  refine aw_iald (pc := 15) (j := x4.toNatClampNeg) dX3_enterGame_15 nn_57 ki_57 ln_57 h.1 rfl ?_
  have h := h.2
  refine aw_topi (fun v16 ev16 => ?_)
  have h := h v16 ev16
  refine aw_istore (pc := 16) [(7, .int v16), (6, .int v7), (0, .ref 180), (1, .ref 3), (2, .ref 55), (3, .ref 179), (4, .int x4), (5, .int x5)] dX3_enterGame_16 (by decide) rfl ?_
  refine aw_aload_n (pc := 18) 4 dX3_enterGame_18 rfl ?_
  refine aw_iload (pc := 19) 6 dX3_enterGame_19 rfl ?_
  refine aw_iload (pc := 21) 7 dX3_enterGame_21 rfl ?_
  refine aw_callVN (pc := 23) (As := [.int x4, .int x5]) (rest := []) kcX6 nn_55 ki_55 rfl (ev_X6_hostOf l 55 sea_55 x4 x5 h) mfX6_hostOf dX3_enterGame_23 lmnX3_94 ⟨Nat.le_refl _, Nat.le_refl _⟩ (by decide) rfl rfl (Nat.le_of_ble_eq_true rfl) (nxI (fun r23_ τ23 h => ?_))
  refine aw_istore (pc := 26) [(8, .int r23_), (7, .int v16), (6, .int v7), (0, .ref 180), (1, .ref 3), (2, .ref 55), (3, .ref 179), (4, .int x4), (5, .int x5)] dX3_enterGame_26 (by decide) rfl ?_
  refine aw_aload_n (pc := 28) 5 dX3_enterGame_28 rfl ?_
  refine aw_iload (pc := 29) 7 dX3_enterGame_29 rfl ?_
  refine aw_iload (pc := 31) 8 dX3_enterGame_31 rfl ?_
  refine aw_callVN (pc := 33) (As := [.int x4, .int x5]) (rest := []) kcX6 nn_55 ki_55 rfl (ev_X6_guestOf l 55 sea_55 x4 x5 h) mfX6_guestOf dX3_enterGame_33 lmnX3_98 ⟨Nat.le_refl _, Nat.le_refl _⟩ (by decide) rfl rfl (Nat.le_of_ble_eq_true rfl) (nxI (fun r33_ τ33 h => ?_))
  refine aw_istore (pc := 36) [(9, .int r33_), (8, .int r23_), (7, .int v16), (6, .int v7), (0, .ref 180), (1, .ref 3), (2, .ref 55), (3, .ref 179), (4, .int x4), (5, .int x5)] dX3_enterGame_36 (by decide) rfl ?_
  refine aw_aload_n (pc := 38) 6 dX3_enterGame_38 rfl ?_
  refine aw_getRN (pc := 39) 7 kcX6 dX3_enterGame_39 lfnX3_101 nn_55 ki_55 (by decide) rfl rf_55_7 ?_
  refine aw_iload (pc := 42) 8 dX3_enterGame_42 rfl ?_
  refine aw_iconst (pc := 44) 4 dX3_enterGame_44 (by decide) ?_
  refine aw_imul (pc := 45) dX3_enterGame_45 ?_
  refine aw_iload (pc := 46) 9 dX3_enterGame_46 rfl ?_
  refine aw_iadd (pc := 48) dX3_enterGame_48 ?_
  refine aw_iald (pc := 49) (j := ((x4 * 4) + x5).toNatClampNeg) dX3_enterGame_49 nn_61 ki_61 ln_61 h.1 rfl ?_
  have h := h.2
  refine aw_topi (fun v50 ev50 => ?_)
  have h := h v50 ev50
  refine aw_istore (pc := 50) [(10, .int v50), (9, .int r33_), (8, .int r23_), (7, .int v16), (6, .int v7), (0, .ref 180), (1, .ref 3), (2, .ref 55), (3, .ref 179), (4, .int x4), (5, .int x5)] dX3_enterGame_50 (by decide) rfl ?_
  refine aw_aload_n (pc := 52) 8 dX3_enterGame_52 rfl ?_
  refine aw_aload_n (pc := 53) 6 dX3_enterGame_53 rfl ?_
  refine aw_iload (pc := 54) 4 dX3_enterGame_54 rfl ?_
  refine aw_iload (pc := 56) 3 dX3_enterGame_56 rfl ?_
  refine aw_iload (pc := 58) 10 dX3_enterGame_58 rfl ?_
  refine aw_iload (pc := 60) 2 dX3_enterGame_60 rfl ?_
  refine aw_iload (pc := 62) 1 dX3_enterGame_62 rfl ?_
  refine aw_iload (pc := 64) 0 dX3_enterGame_64 rfl ?_
  refine aw_callVN (pc := 66) (As := [.ref 3, .int v7, .int v16, .int x5, .int r23_, .int r33_, .int v50]) (rest := []) kcX8 nn_179 ki_179 rfl (ev_X8_reckonGame l v7 v16 x5 r23_ r33_ v50 h) mfX8_reckonGame dX3_enterGame_66 lmnX3_104 ⟨Nat.le_refl _, Nat.le_refl _⟩ (by decide) rfl rfl (Nat.le_of_ble_eq_true rfl) (nxV (fun τ66 h => ?_))
  refine aw_aload_n (pc := 69) 5 dX3_enterGame_69 rfl ?_
  refine aw_getR (pc := 70) 0 kcX3 dX3_enterGame_70 lfX3_11 nn_180 ki_180 (by decide) rfl rf_180_0 ?_
  refine aw_iload (pc := 73) 2 dX3_enterGame_73 rfl ?_
  have hin75 := h.1
  have h := h.2
  refine aw_aldI (pc := 75) dX3_enterGame_75 nn_181 ki_181 ln_181 hin75 (rf15 ki_181) ?_
  refine aw_bipush (pc := 76) 10 dX3_enterGame_76 (by decide) ?_
  refine aw_dup2 (pc := 78) dX3_enterGame_78 rfl rfl ?_
  refine aw_iald (pc := 79) (j := 10) dX3_enterGame_79 (row_181 _ (vp_lt hin75)).1 (row_181 _ (vp_lt hin75)).2.1 (row_181 _ (vp_lt hin75)).2.2 (show vp_in _ _ by unfold vp_in; decide) (by decide) ?_
  refine aw_iconst (pc := 80) 1 dX3_enterGame_80 (by decide) ?_
  refine aw_iadd (pc := 81) dX3_enterGame_81 ?_
  refine aw_iast (pc := 82) (j := 10) (v := ((τ66 (181 + 1 + r23_.toNatClampNeg) 10) + 1)) dX3_enterGame_82 (row_181 _ (vp_lt hin75)).1 (row_181 _ (vp_lt hin75)).2.1 (row_181 _ (vp_lt hin75)).2.2 (show vp_in _ _ by unfold vp_in; decide) (by decide) rfl ?_
  refine aw_tops (fun τ82 eτ82 => ?_)
  have h := h τ82 eτ82
  refine aw_aload_n (pc := 83) 5 dX3_enterGame_83 rfl ?_
  refine aw_getR (pc := 84) 0 kcX3 dX3_enterGame_84 lfX3_11 nn_180 ki_180 (by decide) rfl rf_180_0 ?_
  refine aw_iload (pc := 87) 1 dX3_enterGame_87 rfl ?_
  have hin89 := h.1
  have h := h.2
  refine aw_aldI (pc := 89) dX3_enterGame_89 nn_181 ki_181 ln_181 hin89 (rf15 ki_181) ?_
  refine aw_bipush (pc := 90) 10 dX3_enterGame_90 (by decide) ?_
  refine aw_dup2 (pc := 92) dX3_enterGame_92 rfl rfl ?_
  refine aw_iald (pc := 93) (j := 10) dX3_enterGame_93 (row_181 _ (vp_lt hin89)).1 (row_181 _ (vp_lt hin89)).2.1 (row_181 _ (vp_lt hin89)).2.2 (show vp_in _ _ by unfold vp_in; decide) (by decide) ?_
  refine aw_iconst (pc := 94) 1 dX3_enterGame_94 (by decide) ?_
  refine aw_iadd (pc := 95) dX3_enterGame_95 ?_
  refine aw_iast (pc := 96) (j := 10) (v := ((τ82 (181 + 1 + r33_.toNatClampNeg) 10) + 1)) dX3_enterGame_96 (row_181 _ (vp_lt hin89)).1 (row_181 _ (vp_lt hin89)).2.1 (row_181 _ (vp_lt hin89)).2.2 (show vp_in _ _ by unfold vp_in; decide) (by decide) rfl ?_
  refine aw_tops (fun τ96 eτ96 => ?_)
  have h := h τ96 eτ96
  refine aw_aload_n (pc := 97) 5 dX3_enterGame_97 rfl ?_
  refine aw_getR (pc := 98) 0 kcX3 dX3_enterGame_98 lfX3_11 nn_180 ki_180 (by decide) rfl rf_180_0 ?_
  refine aw_iload (pc := 101) 2 dX3_enterGame_101 rfl ?_
  have hin103 := h.1
  have h := h.2
  refine aw_aldI (pc := 103) dX3_enterGame_103 nn_181 ki_181 ln_181 hin103 (rf15 ki_181) ?_
  refine aw_iconst (pc := 104) 4 dX3_enterGame_104 (by decide) ?_
  refine aw_dup2 (pc := 105) dX3_enterGame_105 rfl rfl ?_
  refine aw_iald (pc := 106) (j := 4) dX3_enterGame_106 (row_181 _ (vp_lt hin103)).1 (row_181 _ (vp_lt hin103)).2.1 (row_181 _ (vp_lt hin103)).2.2 (show vp_in _ _ by unfold vp_in; decide) (by decide) ?_
  refine aw_aload_n (pc := 107) 8 dX3_enterGame_107 rfl ?_
  refine aw_getIN (pc := 108) 2 kcX8 dX3_enterGame_108 lfnX3_110 nn_179 ki_179 (by decide) rfl ?_
  refine aw_iadd (pc := 111) dX3_enterGame_111 ?_
  refine aw_iast (pc := 112) (j := 4) (v := ((τ96 (181 + 1 + r23_.toNatClampNeg) 4) + (τ96 179 2))) dX3_enterGame_112 (row_181 _ (vp_lt hin103)).1 (row_181 _ (vp_lt hin103)).2.1 (row_181 _ (vp_lt hin103)).2.2 (show vp_in _ _ by unfold vp_in; decide) (by decide) rfl ?_
  refine aw_tops (fun τ112 eτ112 => ?_)
  have h := h τ112 eτ112
  refine aw_aload_n (pc := 113) 5 dX3_enterGame_113 rfl ?_
  refine aw_getR (pc := 114) 0 kcX3 dX3_enterGame_114 lfX3_11 nn_180 ki_180 (by decide) rfl rf_180_0 ?_
  refine aw_iload (pc := 117) 1 dX3_enterGame_117 rfl ?_
  have hin119 := h.1
  have h := h.2
  refine aw_aldI (pc := 119) dX3_enterGame_119 nn_181 ki_181 ln_181 hin119 (rf15 ki_181) ?_
  refine aw_iconst (pc := 120) 4 dX3_enterGame_120 (by decide) ?_
  refine aw_dup2 (pc := 121) dX3_enterGame_121 rfl rfl ?_
  refine aw_iald (pc := 122) (j := 4) dX3_enterGame_122 (row_181 _ (vp_lt hin119)).1 (row_181 _ (vp_lt hin119)).2.1 (row_181 _ (vp_lt hin119)).2.2 (show vp_in _ _ by unfold vp_in; decide) (by decide) ?_
  refine aw_aload_n (pc := 123) 8 dX3_enterGame_123 rfl ?_
  refine aw_getIN (pc := 124) 3 kcX8 dX3_enterGame_124 lfnX3_113 nn_179 ki_179 (by decide) rfl ?_
  refine aw_iadd (pc := 127) dX3_enterGame_127 ?_
  refine aw_iast (pc := 128) (j := 4) (v := ((τ112 (181 + 1 + r33_.toNatClampNeg) 4) + (τ112 179 3))) dX3_enterGame_128 (row_181 _ (vp_lt hin119)).1 (row_181 _ (vp_lt hin119)).2.1 (row_181 _ (vp_lt hin119)).2.2 (show vp_in _ _ by unfold vp_in; decide) (by decide) rfl ?_
  refine aw_tops (fun τ128 eτ128 => ?_)
  have h := h τ128 eτ128
  refine aw_aload_n (pc := 129) 5 dX3_enterGame_129 rfl ?_
  refine aw_getR (pc := 130) 0 kcX3 dX3_enterGame_130 lfX3_11 nn_180 ki_180 (by decide) rfl rf_180_0 ?_
  refine aw_iload (pc := 133) 2 dX3_enterGame_133 rfl ?_
  have hin135 := h.1
  have h := h.2
  refine aw_aldI (pc := 135) dX3_enterGame_135 nn_181 ki_181 ln_181 hin135 (rf15 ki_181) ?_
  refine aw_iconst (pc := 136) 5 dX3_enterGame_136 (by decide) ?_
  refine aw_dup2 (pc := 137) dX3_enterGame_137 rfl rfl ?_
  refine aw_iald (pc := 138) (j := 5) dX3_enterGame_138 (row_181 _ (vp_lt hin135)).1 (row_181 _ (vp_lt hin135)).2.1 (row_181 _ (vp_lt hin135)).2.2 (show vp_in _ _ by unfold vp_in; decide) (by decide) ?_
  refine aw_aload_n (pc := 139) 8 dX3_enterGame_139 rfl ?_
  refine aw_getIN (pc := 140) 5 kcX8 dX3_enterGame_140 lfnX3_116 nn_179 ki_179 (by decide) rfl ?_
  refine aw_iadd (pc := 143) dX3_enterGame_143 ?_
  refine aw_iast (pc := 144) (j := 5) (v := ((τ128 (181 + 1 + r23_.toNatClampNeg) 5) + (τ128 179 5))) dX3_enterGame_144 (row_181 _ (vp_lt hin135)).1 (row_181 _ (vp_lt hin135)).2.1 (row_181 _ (vp_lt hin135)).2.2 (show vp_in _ _ by unfold vp_in; decide) (by decide) rfl ?_
  refine aw_tops (fun τ144 eτ144 => ?_)
  have h := h τ144 eτ144
  refine aw_aload_n (pc := 145) 5 dX3_enterGame_145 rfl ?_
  refine aw_getR (pc := 146) 0 kcX3 dX3_enterGame_146 lfX3_11 nn_180 ki_180 (by decide) rfl rf_180_0 ?_
  refine aw_iload (pc := 149) 1 dX3_enterGame_149 rfl ?_
  have hin151 := h.1
  have h := h.2
  refine aw_aldI (pc := 151) dX3_enterGame_151 nn_181 ki_181 ln_181 hin151 (rf15 ki_181) ?_
  refine aw_bipush (pc := 152) 6 dX3_enterGame_152 (by decide) ?_
  refine aw_dup2 (pc := 154) dX3_enterGame_154 rfl rfl ?_
  refine aw_iald (pc := 155) (j := 6) dX3_enterGame_155 (row_181 _ (vp_lt hin151)).1 (row_181 _ (vp_lt hin151)).2.1 (row_181 _ (vp_lt hin151)).2.2 (show vp_in _ _ by unfold vp_in; decide) (by decide) ?_
  refine aw_aload_n (pc := 156) 8 dX3_enterGame_156 rfl ?_
  refine aw_getIN (pc := 157) 6 kcX8 dX3_enterGame_157 lfnX3_119 nn_179 ki_179 (by decide) rfl ?_
  refine aw_iadd (pc := 160) dX3_enterGame_160 ?_
  refine aw_iast (pc := 161) (j := 6) (v := ((τ144 (181 + 1 + r33_.toNatClampNeg) 6) + (τ144 179 6))) dX3_enterGame_161 (row_181 _ (vp_lt hin151)).1 (row_181 _ (vp_lt hin151)).2.1 (row_181 _ (vp_lt hin151)).2.2 (show vp_in _ _ by unfold vp_in; decide) (by decide) rfl ?_
  refine aw_tops (fun τ161 eτ161 => ?_)
  have h := h τ161 eτ161
  refine aw_aload_n (pc := 162) 5 dX3_enterGame_162 rfl ?_
  refine aw_getR (pc := 163) 3 kcX3 dX3_enterGame_163 lfX3_22 nn_180 ki_180 (by decide) rfl rf_180_3 ?_
  refine aw_iload (pc := 166) 2 dX3_enterGame_166 rfl ?_
  refine aw_dup2 (pc := 168) dX3_enterGame_168 rfl rfl ?_
  refine aw_iald (pc := 169) (j := r23_.toNatClampNeg) dX3_enterGame_169 nn_224 ki_224 ln_224 h.1 rfl ?_
  have h := h.2
  refine aw_iload (pc := 170) 0 dX3_enterGame_170 rfl ?_
  refine aw_iadd (pc := 172) dX3_enterGame_172 ?_
  refine aw_iast (pc := 173) (j := r23_.toNatClampNeg) (v := ((τ161 224 r23_.toNatClampNeg) + v50)) dX3_enterGame_173 nn_224 ki_224 ln_224 h.1 rfl rfl ?_
  have h := h.2
  refine aw_tops (fun τ173 eτ173 => ?_)
  have h := h τ173 eτ173
  refine aw_aload_n (pc := 174) 5 dX3_enterGame_174 rfl ?_
  refine aw_getR (pc := 175) 1 kcX3 dX3_enterGame_175 lfX3_16 nn_180 ki_180 (by decide) rfl rf_180_1 ?_
  refine aw_iload (pc := 178) 4 dX3_enterGame_178 rfl ?_
  have hin180 := h.1
  have h := h.2
  refine aw_aldI (pc := 180) dX3_enterGame_180 nn_194 ki_194 ln_194 hin180 (rf15 ki_194) ?_
  refine aw_iconst (pc := 181) 1 dX3_enterGame_181 (by decide) ?_
  refine aw_dup2 (pc := 182) dX3_enterGame_182 rfl rfl ?_
  refine aw_iald (pc := 183) (j := 1) dX3_enterGame_183 (row_194 _ (vp_lt hin180)).1 (row_194 _ (vp_lt hin180)).2.1 (row_194 _ (vp_lt hin180)).2.2 (show vp_in _ _ by unfold vp_in; decide) (by decide) ?_
  refine aw_iload (pc := 184) 0 dX3_enterGame_184 rfl ?_
  refine aw_iadd (pc := 186) dX3_enterGame_186 ?_
  refine aw_iast (pc := 187) (j := 1) (v := ((τ173 (194 + 1 + v7.toNatClampNeg) 1) + v50)) dX3_enterGame_187 (row_194 _ (vp_lt hin180)).1 (row_194 _ (vp_lt hin180)).2.1 (row_194 _ (vp_lt hin180)).2.2 (show vp_in _ _ by unfold vp_in; decide) (by decide) rfl ?_
  refine aw_tops (fun τ187 eτ187 => ?_)
  have h := h τ187 eτ187
  refine aw_aload_n (pc := 188) 5 dX3_enterGame_188 rfl ?_
  refine aw_getR (pc := 189) 2 kcX3 dX3_enterGame_189 lfX3_19 nn_180 ki_180 (by decide) rfl rf_180_2 ?_
  refine aw_iload (pc := 192) 4 dX3_enterGame_192 rfl ?_
  refine aw_bipush (pc := 194) 6 dX3_enterGame_194 (by decide) ?_
  refine aw_imul (pc := 196) dX3_enterGame_196 ?_
  refine aw_iload (pc := 197) 3 dX3_enterGame_197 rfl ?_
  refine aw_iadd (pc := 199) dX3_enterGame_199 ?_
  have hin200 := h.1
  have h := h.2
  refine aw_aldI (pc := 200) dX3_enterGame_200 nn_199 ki_199 ln_199 hin200 (rf15 ki_199) ?_
  refine aw_iconst (pc := 201) 0 dX3_enterGame_201 (by decide) ?_
  refine aw_dup2 (pc := 202) dX3_enterGame_202 rfl rfl ?_
  refine aw_iald (pc := 203) (j := 0) dX3_enterGame_203 (row_199 _ (vp_lt hin200)).1 (row_199 _ (vp_lt hin200)).2.1 (row_199 _ (vp_lt hin200)).2.2 (show vp_in _ _ by unfold vp_in; decide) (by decide) ?_
  refine aw_aload_n (pc := 204) 8 dX3_enterGame_204 rfl ?_
  refine aw_getIN (pc := 205) 7 kcX8 dX3_enterGame_205 lfnX3_122 nn_179 ki_179 (by decide) rfl ?_
  refine aw_iadd (pc := 208) dX3_enterGame_208 ?_
  refine aw_iast (pc := 209) (j := 0) (v := ((τ187 (199 + 1 + ((v7 * 6) + v16).toNatClampNeg) 0) + (τ187 179 7))) dX3_enterGame_209 (row_199 _ (vp_lt hin200)).1 (row_199 _ (vp_lt hin200)).2.1 (row_199 _ (vp_lt hin200)).2.2 (show vp_in _ _ by unfold vp_in; decide) (by decide) rfl ?_
  refine aw_tops (fun τ209 eτ209 => ?_)
  have h := h τ209 eτ209
  refine aw_aload_n (pc := 210) 5 dX3_enterGame_210 rfl ?_
  refine aw_getR (pc := 211) 5 kcX3 dX3_enterGame_211 lfX3_29 nn_180 ki_180 (by decide) rfl rf_180_5 ?_
  refine aw_iconst (pc := 214) 0 dX3_enterGame_214 (by decide) ?_
  refine aw_dup2 (pc := 215) dX3_enterGame_215 rfl rfl ?_
  refine aw_iald (pc := 216) (j := 0) dX3_enterGame_216 nn_226 ki_226 ln_226 (show vp_in _ _ by unfold vp_in; decide) (by decide) ?_
  refine aw_iload (pc := 217) 0 dX3_enterGame_217 rfl ?_
  refine aw_iadd (pc := 219) dX3_enterGame_219 ?_
  refine aw_iast (pc := 220) (j := 0) (v := ((τ209 226 0) + v50)) dX3_enterGame_220 nn_226 ki_226 ln_226 (show vp_in _ _ by unfold vp_in; decide) (by decide) rfl ?_
  refine aw_tops (fun τ220 eτ220 => ?_)
  have h := h τ220 eτ220
  refine aw_aload_n (pc := 221) 5 dX3_enterGame_221 rfl ?_
  refine aw_getR (pc := 222) 5 kcX3 dX3_enterGame_222 lfX3_29 nn_180 ki_180 (by decide) rfl rf_180_5 ?_
  refine aw_iconst (pc := 225) 1 dX3_enterGame_225 (by decide) ?_
  refine aw_dup2 (pc := 226) dX3_enterGame_226 rfl rfl ?_
  refine aw_iald (pc := 227) (j := 1) dX3_enterGame_227 nn_226 ki_226 ln_226 (show vp_in _ _ by unfold vp_in; decide) (by decide) ?_
  refine aw_aload_n (pc := 228) 8 dX3_enterGame_228 rfl ?_
  refine aw_getIN (pc := 229) 2 kcX8 dX3_enterGame_229 lfnX3_110 nn_179 ki_179 (by decide) rfl ?_
  refine aw_aload_n (pc := 232) 8 dX3_enterGame_232 rfl ?_
  refine aw_getIN (pc := 233) 3 kcX8 dX3_enterGame_233 lfnX3_113 nn_179 ki_179 (by decide) rfl ?_
  refine aw_iadd (pc := 236) dX3_enterGame_236 ?_
  refine aw_iadd (pc := 237) dX3_enterGame_237 ?_
  refine aw_iast (pc := 238) (j := 1) (v := ((τ220 226 1) + ((τ220 179 2) + (τ220 179 3)))) dX3_enterGame_238 nn_226 ki_226 ln_226 (show vp_in _ _ by unfold vp_in; decide) (by decide) rfl ?_
  refine aw_tops (fun τ238 eτ238 => ?_)
  have h := h τ238 eτ238
  refine aw_aload_n (pc := 239) 5 dX3_enterGame_239 rfl ?_
  refine aw_getR (pc := 240) 5 kcX3 dX3_enterGame_240 lfX3_29 nn_180 ki_180 (by decide) rfl rf_180_5 ?_
  refine aw_iconst (pc := 243) 2 dX3_enterGame_243 (by decide) ?_
  refine aw_dup2 (pc := 244) dX3_enterGame_244 rfl rfl ?_
  refine aw_iald (pc := 245) (j := 2) dX3_enterGame_245 nn_226 ki_226 ln_226 (show vp_in _ _ by unfold vp_in; decide) (by decide) ?_
  refine aw_aload_n (pc := 246) 8 dX3_enterGame_246 rfl ?_
  refine aw_getIN (pc := 247) 5 kcX8 dX3_enterGame_247 lfnX3_116 nn_179 ki_179 (by decide) rfl ?_
  refine aw_aload_n (pc := 250) 8 dX3_enterGame_250 rfl ?_
  refine aw_getIN (pc := 251) 6 kcX8 dX3_enterGame_251 lfnX3_119 nn_179 ki_179 (by decide) rfl ?_
  refine aw_iadd (pc := 254) dX3_enterGame_254 ?_
  refine aw_iadd (pc := 255) dX3_enterGame_255 ?_
  refine aw_iast (pc := 256) (j := 2) (v := ((τ238 226 2) + ((τ238 179 5) + (τ238 179 6)))) dX3_enterGame_256 nn_226 ki_226 ln_226 (show vp_in _ _ by unfold vp_in; decide) (by decide) rfl ?_
  refine aw_tops (fun τ256 eτ256 => ?_)
  have h := h τ256 eτ256
  refine aw_aload_n (pc := 257) 5 dX3_enterGame_257 rfl ?_
  refine aw_getR (pc := 258) 5 kcX3 dX3_enterGame_258 lfX3_29 nn_180 ki_180 (by decide) rfl rf_180_5 ?_
  refine aw_iconst (pc := 261) 3 dX3_enterGame_261 (by decide) ?_
  refine aw_dup2 (pc := 262) dX3_enterGame_262 rfl rfl ?_
  refine aw_iald (pc := 263) (j := 3) dX3_enterGame_263 nn_226 ki_226 ln_226 (show vp_in _ _ by unfold vp_in; decide) (by decide) ?_
  refine aw_aload_n (pc := 264) 8 dX3_enterGame_264 rfl ?_
  refine aw_getIN (pc := 265) 7 kcX8 dX3_enterGame_265 lfnX3_122 nn_179 ki_179 (by decide) rfl ?_
  refine aw_iadd (pc := 268) dX3_enterGame_268 ?_
  refine aw_iast (pc := 269) (j := 3) (v := ((τ256 226 3) + (τ256 179 7))) dX3_enterGame_269 nn_226 ki_226 ln_226 (show vp_in _ _ by unfold vp_in; decide) (by decide) rfl ?_
  refine aw_tops (fun τ269 eτ269 => ?_)
  have h := h τ269 eτ269
  exact aw_vret (pc := 270) rfl dX3_enterGame_270 ⟨rfl, h⟩
def wp_X3_takersBy (x0 : Int32) (x1 : Int32) (σ : Sg) (K : Int32 → Sg → Prop) : Prop :=
  br (x0 = 3) (K 0 σ) (br (x0 = 1) (K (2 * x1) σ) (K x1 σ))
set_option maxRecDepth 20000 in
set_option maxHeartbeats 2000000 in
theorem ev_X3_takersBy (l : Launch) (x0 : Int32) (x1 : Int32) {σ : Sg} {K : Int32 → Sg → Prop} (h : wp_X3_takersBy x0 x1 σ K) : Ev l yX3_takersBy cX3_takersBy 2 (some .int) 0 [.int x0, .int x1] σ (qI K) := by
  refine ev_ov (by decide) (Nat.le_of_ble_eq_true rfl) ?_
  show AV l RX3 cX3_takersBy 2 (some .int) 0 (qI K) 0 [(0, .int x0), (1, .int x1)] [] σ
  refine aw_iload_n (pc := 0) 0 dX3_takersBy_0 rfl ?_
  refine aw_iconst (pc := 1) 3 dX3_takersBy_1 (by decide) ?_
  refine aw_icmp_ne (pc := 2) 7 dX3_takersBy_2 (by decide) (fun q => ?_) (fun q => ?_)
  · have h := h.2 q
    refine aw_iload_n (pc := 7) 0 dX3_takersBy_7 rfl ?_
    refine aw_iconst (pc := 8) 1 dX3_takersBy_8 (by decide) ?_
    refine aw_icmp_ne (pc := 9) 18 dX3_takersBy_9 (by decide) (fun q => ?_) (fun q => ?_)
    · have h := h.2 q
      refine aw_iload_n (pc := 18) 1 dX3_takersBy_18 rfl ?_
      exact aw_iret (pc := 19) rfl dX3_takersBy_19 ⟨_, rfl, h⟩
    · have h := h.1 q
      refine aw_iconst (pc := 12) 2 dX3_takersBy_12 (by decide) ?_
      refine aw_iload_n (pc := 13) 1 dX3_takersBy_13 rfl ?_
      refine aw_imul (pc := 14) dX3_takersBy_14 ?_
      refine aw_goto (pc := 15) 19 dX3_takersBy_15 (by decide) ?_
      exact aw_iret (pc := 19) rfl dX3_takersBy_19 ⟨_, rfl, h⟩
  · have h := h.1 q
    refine aw_iconst (pc := 5) 0 dX3_takersBy_5 (by decide) ?_
    exact aw_iret (pc := 6) rfl dX3_takersBy_6 ⟨_, rfl, h⟩
def b_X3_handOut_84 (x2 : Int32) (x3 : Int32) (k4 n4 : Nat) (B3 : Int32 → Sg → Prop) (K : Sg → Prop) (y5 : Int32) (σ : Sg) : Prop :=
  wp_X6_loserOf 55 y5 σ <| fun r91_ τ91 => (vp_in r91_ 12 ∧ (vp_in (2 : Int32) n4 ∧ (∀ τ104 : Sg, τ104 = up τ91 (181 + 1 + r91_.toNatClampNeg) 7 ((τ91 (181 + 1 + r91_.toNatClampNeg) 7) + (τ91 k4 2)) → (∀ v105 : Int32, v105 = y5 + 1 → (B3 v105 τ104)))))
set_option maxRecDepth 20000 in
set_option maxHeartbeats 2000000 in
theorem bt_X3_handOut_84 (l : Launch) (x2 : Int32) (x3 : Int32) (k4 n4 : Nat) (hk4 : aOk k4 n4) {K : Sg → Prop} (B3 : Int32 → Sg → Prop) (hB3 : ∀ (y5 : Int32)  (τ : Sg), B3 y5 τ → AV l RX3 cX3_handOut 6 none 3 (qV K) 3 [(0, .ref 180), (1, .ref 55), (2, .int x2), (3, .int x3), (4, .ref k4), (5, .int y5)] [] τ) (y5 : Int32)  (σ : Sg) (h : b_X3_handOut_84 x2 x3 k4 n4 B3 K y5 σ) : AV l RX3 cX3_handOut 6 none 3 (qV K) 84 [(0, .ref 180), (1, .ref 55), (2, .int x2), (3, .int x3), (4, .ref k4), (5, .int y5)] [] σ := by
  refine aw_aload_n (pc := 84) 0 dX3_handOut_84 rfl ?_
  refine aw_getR (pc := 85) 0 kcX3 dX3_handOut_85 lfX3_11 nn_180 ki_180 (by decide) rfl rf_180_0 ?_
  refine aw_aload_n (pc := 88) 1 dX3_handOut_88 rfl ?_
  refine aw_iload (pc := 89) 5 dX3_handOut_89 rfl ?_
  refine aw_callVN (pc := 91) (As := [.int y5]) (rest := [.ref 181]) kcX6 nn_55 ki_55 rfl (ev_X6_loserOf l 55 sea_55 y5 h) mfX6_loserOf dX3_handOut_91 lmnX3_143 ⟨Nat.le_refl _, Nat.le_refl _⟩ (by decide) rfl rfl (Nat.le_of_ble_eq_true rfl) (nxI (fun r91_ τ91 h => ?_))
  have hin94 := h.1
  have h := h.2
  refine aw_aldI (pc := 94) dX3_handOut_94 nn_181 ki_181 ln_181 hin94 (rf15 ki_181) ?_
  refine aw_bipush (pc := 95) 7 dX3_handOut_95 (by decide) ?_
  refine aw_dup2 (pc := 97) dX3_handOut_97 rfl rfl ?_
  refine aw_iald (pc := 98) (j := 7) dX3_handOut_98 (row_181 _ (vp_lt hin94)).1 (row_181 _ (vp_lt hin94)).2.1 (row_181 _ (vp_lt hin94)).2.2 (show vp_in _ _ by unfold vp_in; decide) (by decide) ?_
  refine aw_aload (pc := 99) 4 dX3_handOut_99 rfl ?_
  refine aw_iconst (pc := 101) 2 dX3_handOut_101 (by decide) ?_
  refine aw_iald (pc := 102) (j := 2) dX3_handOut_102 hk4.1 hk4.2.1 hk4.2.2 h.1 (by decide) ?_
  have h := h.2
  refine aw_iadd (pc := 103) dX3_handOut_103 ?_
  refine aw_iast (pc := 104) (j := 7) (v := ((τ91 (181 + 1 + r91_.toNatClampNeg) 7) + (τ91 k4 2))) dX3_handOut_104 (row_181 _ (vp_lt hin94)).1 (row_181 _ (vp_lt hin94)).2.1 (row_181 _ (vp_lt hin94)).2.2 (show vp_in _ _ by unfold vp_in; decide) (by decide) rfl ?_
  refine aw_tops (fun τ104 eτ104 => ?_)
  have h := h τ104 eτ104
  obtain ⟨v105, ev105⟩ : ∃ v : Int32, v = y5 + 1 := ⟨_, rfl⟩
  have h := h v105 ev105
  refine aw_iinc (pc := 105) 5 v105 [(5, .int v105), (0, .ref 180), (1, .ref 55), (2, .int x2), (3, .int x3), (4, .ref k4)] dX3_handOut_105 rfl (by rw [ev105]; rfl) (by decide) rfl ?_
  refine aw_goto (pc := 108) 3 dX3_handOut_108 (by decide) ?_
  refine aw_sub (L' := [(0, .ref 180), (1, .ref 55), (2, .int x2), (3, .int x3), (4, .ref k4), (5, .int v105)]) [1, 2, 3, 4, 5, 0] rfl ?_
  exact hB3 v105  _ h
def b_X3_handOut_68 (x2 : Int32) (x3 : Int32) (k4 n4 : Nat) (B3 : Int32 → Sg → Prop) (K : Sg → Prop) (y5 : Int32) (σ : Sg) : Prop :=
  vp_in (5 : Int32) n4 ∧ (br ((σ k4 5) = 2) (b_X3_handOut_84 x2 x3 k4 n4 B3 K y5 σ) (vp_in (5 : Int32) n4 ∧ (br ((σ k4 5) = 1) (b_X3_handOut_84 x2 x3 k4 n4 B3 K y5 σ) (∀ v105 : Int32, v105 = y5 + 1 → (B3 v105 σ)))))
set_option maxRecDepth 20000 in
set_option maxHeartbeats 2000000 in
theorem bt_X3_handOut_68 (l : Launch) (x2 : Int32) (x3 : Int32) (k4 n4 : Nat) (hk4 : aOk k4 n4) {K : Sg → Prop} (B3 : Int32 → Sg → Prop) (hB3 : ∀ (y5 : Int32)  (τ : Sg), B3 y5 τ → AV l RX3 cX3_handOut 6 none 3 (qV K) 3 [(0, .ref 180), (1, .ref 55), (2, .int x2), (3, .int x3), (4, .ref k4), (5, .int y5)] [] τ) (y5 : Int32)  (σ : Sg) (h : b_X3_handOut_68 x2 x3 k4 n4 B3 K y5 σ) : AV l RX3 cX3_handOut 6 none 3 (qV K) 68 [(0, .ref 180), (1, .ref 55), (2, .int x2), (3, .int x3), (4, .ref k4), (5, .int y5)] [] σ := by
  refine aw_aload (pc := 68) 4 dX3_handOut_68 rfl ?_
  refine aw_iconst (pc := 70) 5 dX3_handOut_70 (by decide) ?_
  refine aw_iald (pc := 71) (j := 5) dX3_handOut_71 hk4.1 hk4.2.1 hk4.2.2 h.1 (by decide) ?_
  have h := h.2
  refine aw_iconst (pc := 72) 2 dX3_handOut_72 (by decide) ?_
  refine aw_icmp_eq (pc := 73) 84 dX3_handOut_73 (by decide) (fun q => ?_) (fun q => ?_)
  · have h := h.1 q
    exact bt_X3_handOut_84 l x2 x3 k4 n4 hk4 B3 hB3 y5  _ h
  · have h := h.2 q
    refine aw_aload (pc := 76) 4 dX3_handOut_76 rfl ?_
    refine aw_iconst (pc := 78) 5 dX3_handOut_78 (by decide) ?_
    refine aw_iald (pc := 79) (j := 5) dX3_handOut_79 hk4.1 hk4.2.1 hk4.2.2 h.1 (by decide) ?_
    have h := h.2
    refine aw_iconst (pc := 80) 1 dX3_handOut_80 (by decide) ?_
    refine aw_icmp_ne (pc := 81) 105 dX3_handOut_81 (by decide) (fun q => ?_) (fun q => ?_)
    · have h := h.2 q
      obtain ⟨v105, ev105⟩ : ∃ v : Int32, v = y5 + 1 := ⟨_, rfl⟩
      have h := h v105 ev105
      refine aw_iinc (pc := 105) 5 v105 [(5, .int v105), (0, .ref 180), (1, .ref 55), (2, .int x2), (3, .int x3), (4, .ref k4)] dX3_handOut_105 rfl (by rw [ev105]; rfl) (by decide) rfl ?_
      refine aw_goto (pc := 108) 3 dX3_handOut_108 (by decide) ?_
      refine aw_sub (L' := [(0, .ref 180), (1, .ref 55), (2, .int x2), (3, .int x3), (4, .ref k4), (5, .int v105)]) [1, 2, 3, 4, 5, 0] rfl ?_
      exact hB3 v105  _ h
    · have h := h.1 q
      exact bt_X3_handOut_84 l x2 x3 k4 n4 hk4 B3 hB3 y5  _ h
def b_X3_handOut_47 (x2 : Int32) (x3 : Int32) (k4 n4 : Nat) (B3 : Int32 → Sg → Prop) (K : Sg → Prop) (y5 : Int32) (σ : Sg) : Prop :=
  wp_X6_winnerOf 55 y5 σ <| fun r54_ τ54 => (vp_in r54_ 12 ∧ (vp_in (2 : Int32) n4 ∧ (∀ τ67 : Sg, τ67 = up τ54 (181 + 1 + r54_.toNatClampNeg) 7 ((τ54 (181 + 1 + r54_.toNatClampNeg) 7) + (τ54 k4 2)) → (b_X3_handOut_68 x2 x3 k4 n4 B3 K y5 τ67))))
set_option maxRecDepth 20000 in
set_option maxHeartbeats 2000000 in
theorem bt_X3_handOut_47 (l : Launch) (x2 : Int32) (x3 : Int32) (k4 n4 : Nat) (hk4 : aOk k4 n4) {K : Sg → Prop} (B3 : Int32 → Sg → Prop) (hB3 : ∀ (y5 : Int32)  (τ : Sg), B3 y5 τ → AV l RX3 cX3_handOut 6 none 3 (qV K) 3 [(0, .ref 180), (1, .ref 55), (2, .int x2), (3, .int x3), (4, .ref k4), (5, .int y5)] [] τ) (y5 : Int32)  (σ : Sg) (h : b_X3_handOut_47 x2 x3 k4 n4 B3 K y5 σ) : AV l RX3 cX3_handOut 6 none 3 (qV K) 47 [(0, .ref 180), (1, .ref 55), (2, .int x2), (3, .int x3), (4, .ref k4), (5, .int y5)] [] σ := by
  refine aw_aload_n (pc := 47) 0 dX3_handOut_47 rfl ?_
  refine aw_getR (pc := 48) 0 kcX3 dX3_handOut_48 lfX3_11 nn_180 ki_180 (by decide) rfl rf_180_0 ?_
  refine aw_aload_n (pc := 51) 1 dX3_handOut_51 rfl ?_
  refine aw_iload (pc := 52) 5 dX3_handOut_52 rfl ?_
  refine aw_callVN (pc := 54) (As := [.int y5]) (rest := [.ref 181]) kcX6 nn_55 ki_55 rfl (ev_X6_winnerOf l 55 sea_55 y5 h) mfX6_winnerOf dX3_handOut_54 lmnX3_90 ⟨Nat.le_refl _, Nat.le_refl _⟩ (by decide) rfl rfl (Nat.le_of_ble_eq_true rfl) (nxI (fun r54_ τ54 h => ?_))
  have hin57 := h.1
  have h := h.2
  refine aw_aldI (pc := 57) dX3_handOut_57 nn_181 ki_181 ln_181 hin57 (rf15 ki_181) ?_
  refine aw_bipush (pc := 58) 7 dX3_handOut_58 (by decide) ?_
  refine aw_dup2 (pc := 60) dX3_handOut_60 rfl rfl ?_
  refine aw_iald (pc := 61) (j := 7) dX3_handOut_61 (row_181 _ (vp_lt hin57)).1 (row_181 _ (vp_lt hin57)).2.1 (row_181 _ (vp_lt hin57)).2.2 (show vp_in _ _ by unfold vp_in; decide) (by decide) ?_
  refine aw_aload (pc := 62) 4 dX3_handOut_62 rfl ?_
  refine aw_iconst (pc := 64) 2 dX3_handOut_64 (by decide) ?_
  refine aw_iald (pc := 65) (j := 2) dX3_handOut_65 hk4.1 hk4.2.1 hk4.2.2 h.1 (by decide) ?_
  have h := h.2
  refine aw_iadd (pc := 66) dX3_handOut_66 ?_
  refine aw_iast (pc := 67) (j := 7) (v := ((τ54 (181 + 1 + r54_.toNatClampNeg) 7) + (τ54 k4 2))) dX3_handOut_67 (row_181 _ (vp_lt hin57)).1 (row_181 _ (vp_lt hin57)).2.1 (row_181 _ (vp_lt hin57)).2.2 (show vp_in _ _ by unfold vp_in; decide) (by decide) rfl ?_
  refine aw_tops (fun τ67 eτ67 => ?_)
  have h := h τ67 eτ67
  exact bt_X3_handOut_68 l x2 x3 k4 n4 hk4 B3 hB3 y5  _ h
def b_X3_handOut_3 (x2 : Int32) (x3 : Int32) (k4 n4 : Nat)  (K : Sg → Prop) : Nat → Int32 → Sg → Prop
  | 0, _, _ => False
  | n + 1, y5, σ =>
  br ((σ 55 0) ≤ y5) (vp_in (2 : Int32) n4 ∧ (vp_in (3 : Int32) n4 ∧ (∀ τ128 : Sg, τ128 = up σ 226 4 ((σ 226 4) + ((σ k4 2) * (σ k4 3))) → (K τ128)))) (wp_X6_isOf 55 y5 x2 x3 σ <| fun r17_ τ17 => (br (r17_ = 0) (∀ v105 : Int32, v105 = y5 + 1 → (b_X3_handOut_3 x2 x3 k4 n4  K n v105 τ17)) (wp_X6_isDecided 55 y5 τ17 <| fun r26_ τ26 => (br (r26_ = 0) (∀ v105 : Int32, v105 = y5 + 1 → (b_X3_handOut_3 x2 x3 k4 n4  K n v105 τ26)) (vp_in (5 : Int32) n4 ∧ (br ((τ26 k4 5) = 0) (b_X3_handOut_47 x2 x3 k4 n4 (fun y5' τ => b_X3_handOut_3 x2 x3 k4 n4  K n y5' τ) K y5 τ26) (vp_in (5 : Int32) n4 ∧ (br ((τ26 k4 5) = 1) (b_X3_handOut_47 x2 x3 k4 n4 (fun y5' τ => b_X3_handOut_3 x2 x3 k4 n4  K n y5' τ) K y5 τ26) (b_X3_handOut_68 x2 x3 k4 n4 (fun y5' τ => b_X3_handOut_3 x2 x3 k4 n4  K n y5' τ) K y5 τ26)))))))))
set_option maxRecDepth 20000 in
set_option maxHeartbeats 2000000 in
theorem bt_X3_handOut_3 (l : Launch) (x2 : Int32) (x3 : Int32) (k4 n4 : Nat) (hk4 : aOk k4 n4) {K : Sg → Prop}   : ∀ (n : Nat) (y5 : Int32)  (σ : Sg), b_X3_handOut_3 x2 x3 k4 n4  K n y5 σ → AV l RX3 cX3_handOut 6 none 3 (qV K) 3 [(0, .ref 180), (1, .ref 55), (2, .int x2), (3, .int x3), (4, .ref k4), (5, .int y5)] [] σ := by
  intro n
  induction n with
  | zero => intro y5 σ h; exact h.elim
  | succ n ih =>
    intro y5 σ h
    refine aw_iload (pc := 3) 5 dX3_handOut_3 rfl ?_
    refine aw_aload_n (pc := 5) 1 dX3_handOut_5 rfl ?_
    refine aw_getIN (pc := 6) 0 kcX6 dX3_handOut_6 lfnX3_35 nn_55 ki_55 (by decide) rfl ?_
    refine aw_icmp_ge (pc := 9) 111 dX3_handOut_9 (by decide) (fun q => ?_) (fun q => ?_)
    · have h := h.1 q
      refine aw_aload_n (pc := 111) 0 dX3_handOut_111 rfl ?_
      refine aw_getR (pc := 112) 5 kcX3 dX3_handOut_112 lfX3_29 nn_180 ki_180 (by decide) rfl rf_180_5 ?_
      refine aw_iconst (pc := 115) 4 dX3_handOut_115 (by decide) ?_
      refine aw_dup2 (pc := 116) dX3_handOut_116 rfl rfl ?_
      refine aw_iald (pc := 117) (j := 4) dX3_handOut_117 nn_226 ki_226 ln_226 (show vp_in _ _ by unfold vp_in; decide) (by decide) ?_
      refine aw_aload (pc := 118) 4 dX3_handOut_118 rfl ?_
      refine aw_iconst (pc := 120) 2 dX3_handOut_120 (by decide) ?_
      refine aw_iald (pc := 121) (j := 2) dX3_handOut_121 hk4.1 hk4.2.1 hk4.2.2 h.1 (by decide) ?_
      have h := h.2
      refine aw_aload (pc := 122) 4 dX3_handOut_122 rfl ?_
      refine aw_iconst (pc := 124) 3 dX3_handOut_124 (by decide) ?_
      refine aw_iald (pc := 125) (j := 3) dX3_handOut_125 hk4.1 hk4.2.1 hk4.2.2 h.1 (by decide) ?_
      have h := h.2
      refine aw_imul (pc := 126) dX3_handOut_126 ?_
      refine aw_iadd (pc := 127) dX3_handOut_127 ?_
      refine aw_iast (pc := 128) (j := 4) (v := ((σ 226 4) + ((σ k4 2) * (σ k4 3)))) dX3_handOut_128 nn_226 ki_226 ln_226 (show vp_in _ _ by unfold vp_in; decide) (by decide) rfl ?_
      refine aw_tops (fun τ128 eτ128 => ?_)
      have h := h τ128 eτ128
      exact aw_vret (pc := 129) rfl dX3_handOut_129 ⟨rfl, h⟩
    · have h := h.2 q
      refine aw_aload_n (pc := 12) 1 dX3_handOut_12 rfl ?_
      refine aw_iload (pc := 13) 5 dX3_handOut_13 rfl ?_
      refine aw_iload_n (pc := 15) 2 dX3_handOut_15 rfl ?_
      refine aw_iload_n (pc := 16) 3 dX3_handOut_16 rfl ?_
      refine aw_callVN (pc := 17) (As := [.int y5, .int x2, .int x3]) (rest := []) kcX6 nn_55 ki_55 rfl (ev_X6_isOf l 55 sea_55 y5 x2 x3 h) mfX6_isOf dX3_handOut_17 lmnX3_139 ⟨Nat.le_refl _, Nat.le_refl _⟩ (by decide) rfl rfl (Nat.le_of_ble_eq_true rfl) (nxI (fun r17_ τ17 h => ?_))
      refine aw_if_eq (pc := 20) 105 dX3_handOut_20 (by decide) (fun q => ?_) (fun q => ?_)
      · have h := h.1 q
        obtain ⟨v105, ev105⟩ : ∃ v : Int32, v = y5 + 1 := ⟨_, rfl⟩
        have h := h v105 ev105
        refine aw_iinc (pc := 105) 5 v105 [(5, .int v105), (0, .ref 180), (1, .ref 55), (2, .int x2), (3, .int x3), (4, .ref k4)] dX3_handOut_105 rfl (by rw [ev105]; rfl) (by decide) rfl ?_
        refine aw_goto (pc := 108) 3 dX3_handOut_108 (by decide) ?_
        refine aw_sub (L' := [(0, .ref 180), (1, .ref 55), (2, .int x2), (3, .int x3), (4, .ref k4), (5, .int v105)]) [1, 2, 3, 4, 5, 0] rfl ?_
        exact ih v105  _ h
      · have h := h.2 q
        refine aw_aload_n (pc := 23) 1 dX3_handOut_23 rfl ?_
        refine aw_iload (pc := 24) 5 dX3_handOut_24 rfl ?_
        refine aw_callVN (pc := 26) (As := [.int y5]) (rest := []) kcX6 nn_55 ki_55 rfl (ev_X6_isDecided l 55 sea_55 y5 h) mfX6_isDecided dX3_handOut_26 lmnX3_86 ⟨Nat.le_refl _, Nat.le_refl _⟩ (by decide) rfl rfl (Nat.le_of_ble_eq_true rfl) (nxI (fun r26_ τ26 h => ?_))
        refine aw_if_eq (pc := 29) 105 dX3_handOut_29 (by decide) (fun q => ?_) (fun q => ?_)
        · have h := h.1 q
          obtain ⟨v105, ev105⟩ : ∃ v : Int32, v = y5 + 1 := ⟨_, rfl⟩
          have h := h v105 ev105
          refine aw_iinc (pc := 105) 5 v105 [(5, .int v105), (0, .ref 180), (1, .ref 55), (2, .int x2), (3, .int x3), (4, .ref k4)] dX3_handOut_105 rfl (by rw [ev105]; rfl) (by decide) rfl ?_
          refine aw_goto (pc := 108) 3 dX3_handOut_108 (by decide) ?_
          refine aw_sub (L' := [(0, .ref 180), (1, .ref 55), (2, .int x2), (3, .int x3), (4, .ref k4), (5, .int v105)]) [1, 2, 3, 4, 5, 0] rfl ?_
          exact ih v105  _ h
        · have h := h.2 q
          refine aw_aload (pc := 32) 4 dX3_handOut_32 rfl ?_
          refine aw_iconst (pc := 34) 5 dX3_handOut_34 (by decide) ?_
          refine aw_iald (pc := 35) (j := 5) dX3_handOut_35 hk4.1 hk4.2.1 hk4.2.2 h.1 (by decide) ?_
          have h := h.2
          refine aw_if_eq (pc := 36) 47 dX3_handOut_36 (by decide) (fun q => ?_) (fun q => ?_)
          · have h := h.1 q
            exact bt_X3_handOut_47 l x2 x3 k4 n4 hk4 (fun y5' τ => b_X3_handOut_3 x2 x3 k4 n4  K n y5' τ) (fun y5' τ h => ih y5' τ h) y5  _ h
          · have h := h.2 q
            refine aw_aload (pc := 39) 4 dX3_handOut_39 rfl ?_
            refine aw_iconst (pc := 41) 5 dX3_handOut_41 (by decide) ?_
            refine aw_iald (pc := 42) (j := 5) dX3_handOut_42 hk4.1 hk4.2.1 hk4.2.2 h.1 (by decide) ?_
            have h := h.2
            refine aw_iconst (pc := 43) 1 dX3_handOut_43 (by decide) ?_
            refine aw_icmp_ne (pc := 44) 68 dX3_handOut_44 (by decide) (fun q => ?_) (fun q => ?_)
            · have h := h.2 q
              exact bt_X3_handOut_68 l x2 x3 k4 n4 hk4 (fun y5' τ => b_X3_handOut_3 x2 x3 k4 n4  K n y5' τ) (fun y5' τ h => ih y5' τ h) y5  _ h
            · have h := h.1 q
              exact bt_X3_handOut_47 l x2 x3 k4 n4 hk4 (fun y5' τ => b_X3_handOut_3 x2 x3 k4 n4  K n y5' τ) (fun y5' τ h => ih y5' τ h) y5  _ h
def wp_X3_handOut (x2 : Int32) (x3 : Int32) (k4 n4 : Nat) (σ : Sg) (K : Sg → Prop) : Prop :=
  ∃ nf, b_X3_handOut_3 x2 x3 k4 n4  K nf 0 σ
set_option maxRecDepth 20000 in
set_option maxHeartbeats 2000000 in
theorem ev_X3_handOut (l : Launch) (x2 : Int32) (x3 : Int32) (k4 n4 : Nat) (hk4 : aOk k4 n4) {σ : Sg} {K : Sg → Prop} (h : wp_X3_handOut x2 x3 k4 n4 σ K) : Ev l yX3_handOut cX3_handOut 6 none 3 [.ref 180, .ref 55, .int x2, .int x3, .ref k4] σ (qV K) := by
  refine ev_ov (by decide) (Nat.le_of_ble_eq_true rfl) ?_
  show AV l RX3 cX3_handOut 6 none 3 (qV K) 0 [(0, .ref 180), (1, .ref 55), (2, .int x2), (3, .int x3), (4, .ref k4)] [] σ
  refine aw_iconst (pc := 0) 0 dX3_handOut_0 (by decide) ?_
  refine aw_istore (pc := 1) [(5, .int 0), (0, .ref 180), (1, .ref 55), (2, .int x2), (3, .int x3), (4, .ref k4)] dX3_handOut_1 (by decide) rfl ?_
  refine aw_sub (L' := [(0, .ref 180), (1, .ref 55), (2, .int x2), (3, .int x3), (4, .ref k4), (5, .int 0)]) [1, 2, 3, 4, 5, 0] rfl ?_
  obtain ⟨nf, h⟩ := h
  exact bt_X3_handOut_3 l x2 x3 k4 n4 hk4   nf 0  _ h
def b_X3_settlePools_112 (x3 : Int32) (B6 : Int32 → Int32 → Sg → Prop) (K : Sg → Prop) (y5 : Int32) (r6 : Nat) (z0 : Int32) (z1 : Int32) (z2 : Nat) (σ : Sg) : Prop :=
  vp_in z1 7 ∧ (∀ τ112 : Sg, τ112 = up σ z2 z1.toNatClampNeg z0 → (wp_X3_handOut x3 y5 r6 7 τ112 <| fun τ120 => (∀ v137 : Int32, v137 = (τ120 r6 0) - ((τ120 r6 2) * (τ120 r6 3)) → (∀ v139 : Int32, v139 = y5 + 1 → (B6 v137 v139 τ120)))))
set_option maxRecDepth 20000 in
set_option maxHeartbeats 2000000 in
theorem bt_X3_settlePools_112 (l : Launch) (x3 : Int32) {K : Sg → Prop} (B6 : Int32 → Int32 → Sg → Prop) (hB6 : ∀ (y4 : Int32) (y5 : Int32)  (τ : Sg), B6 y4 y5 τ → AV l RX3 cX3_settlePools 7 none 4 (qV K) 6 [(0, .ref 180), (1, .ref 3), (2, .ref 55), (3, .int x3), (4, .int y4), (5, .int y5)] [] τ) (y5 : Int32) (r6 : Nat) (z0 : Int32) (z1 : Int32) (z2 : Nat) (hr6 : aOk r6 7) (hz2 : aOk z2 7) (σ : Sg) (h : b_X3_settlePools_112 x3 B6 K y5 r6 z0 z1 z2 σ) : AV l RX3 cX3_settlePools 7 none 4 (qV K) 112 [(0, .ref 180), (1, .ref 3), (2, .ref 55), (3, .int x3), (5, .int y5), (6, .ref r6)] [.int z0, .int z1, .ref z2] σ := by
  refine aw_iast (pc := 112) (j := z1.toNatClampNeg) (v := z0) dX3_settlePools_112 hz2.1 hz2.2.1 hz2.2.2 h.1 rfl rfl ?_
  have h := h.2
  refine aw_tops (fun τ112 eτ112 => ?_)
  have h := h τ112 eτ112
  refine aw_aload_n (pc := 113) 0 dX3_settlePools_113 rfl ?_
  refine aw_aload_n (pc := 114) 2 dX3_settlePools_114 rfl ?_
  refine aw_iload_n (pc := 115) 3 dX3_settlePools_115 rfl ?_
  refine aw_iload (pc := 116) 4 dX3_settlePools_116 rfl ?_
  refine aw_aload (pc := 118) 5 dX3_settlePools_118 rfl ?_
  refine aw_callV (pc := 120) (As := [.ref 55, .int x3, .int y5, .ref r6]) (rest := []) kcX3 nn_180 ki_180 rfl (ev_X3_handOut l x3 y5 r6 7 hr6 h) mfX3_handOut dX3_settlePools_120 lmX3_135 ⟨Nat.le_refl _, Nat.le_refl _⟩ (by decide) rfl rfl (Nat.le_of_ble_eq_true rfl) (nxV (fun τ120 h => ?_))
  refine aw_aload (pc := 123) 5 dX3_settlePools_123 rfl ?_
  refine aw_iconst (pc := 125) 0 dX3_settlePools_125 (by decide) ?_
  refine aw_iald (pc := 126) (j := 0) dX3_settlePools_126 hr6.1 hr6.2.1 hr6.2.2 (show vp_in _ _ by unfold vp_in; decide) (by decide) ?_
  refine aw_aload (pc := 127) 5 dX3_settlePools_127 rfl ?_
  refine aw_iconst (pc := 129) 2 dX3_settlePools_129 (by decide) ?_
  refine aw_iald (pc := 130) (j := 2) dX3_settlePools_130 hr6.1 hr6.2.1 hr6.2.2 (show vp_in _ _ by unfold vp_in; decide) (by decide) ?_
  refine aw_aload (pc := 131) 5 dX3_settlePools_131 rfl ?_
  refine aw_iconst (pc := 133) 3 dX3_settlePools_133 (by decide) ?_
  refine aw_iald (pc := 134) (j := 3) dX3_settlePools_134 hr6.1 hr6.2.1 hr6.2.2 (show vp_in _ _ by unfold vp_in; decide) (by decide) ?_
  refine aw_imul (pc := 135) dX3_settlePools_135 ?_
  refine aw_isub (pc := 136) dX3_settlePools_136 ?_
  refine aw_topi (fun v137 ev137 => ?_)
  have h := h v137 ev137
  refine aw_istore (pc := 137) [(4, .int v137), (0, .ref 180), (1, .ref 3), (2, .ref 55), (3, .int x3), (5, .int y5), (6, .ref r6)] dX3_settlePools_137 (by decide) rfl ?_
  obtain ⟨v139, ev139⟩ : ∃ v : Int32, v = y5 + 1 := ⟨_, rfl⟩
  have h := h v139 ev139
  refine aw_iinc (pc := 139) 5 v139 [(5, .int v139), (4, .int v137), (0, .ref 180), (1, .ref 3), (2, .ref 55), (3, .int x3), (6, .ref r6)] dX3_settlePools_139 rfl (by rw [ev139]; rfl) (by decide) rfl ?_
  refine aw_goto (pc := 142) 6 dX3_settlePools_142 (by decide) ?_
  refine aw_sub (L' := [(0, .ref 180), (1, .ref 3), (2, .ref 55), (3, .int x3), (4, .int v137), (5, .int v139)]) [2, 3, 4, 5, 1, 0] rfl ?_
  exact hB6 v137 v139  _ h
def b_X3_settlePools_6 (x3 : Int32)  (K : Sg → Prop) : Nat → Int32 → Int32 → Sg → Prop
  | 0, _, _, _ => False
  | n + 1, y4, y5, σ =>
  br (6 ≤ y5) (vp_in x3 4 ∧ (∀ τ154 : Sg, τ154 = up σ (194 + 1 + x3.toNatClampNeg) 0 y4 → (∀ τ165 : Sg, τ165 = up τ154 226 5 ((τ154 226 5) + y4) → (K τ165)))) (vp_in ((x3 * 6) + y5) 24 ∧ (∀ τ32 : Sg, τ32 = up σ (199 + 1 + ((x3 * 6) + y5).toNatClampNeg) 1 y4 → (∀ τ41 : Sg, τ41 = up τ32 (199 + 1 + ((x3 * 6) + y5).toNatClampNeg) 0 ((τ32 (199 + 1 + ((x3 * 6) + y5).toNatClampNeg) 0) + y4) → (vp_in x3 4 ∧ (vp_in y5 6 ∧ (∀ τ54 : Sg, τ54 = up τ41 (199 + 1 + ((x3 * 6) + y5).toNatClampNeg) 5 (τ41 (22 + 1 + x3.toNatClampNeg) y5.toNatClampNeg) → (wp_X6_isClosed 55 x3 y5 τ54 <| fun r62_ τ62 => (br (r62_ = 0) (∀ v139 : Int32, v139 = y5 + 1 → (b_X3_settlePools_6 x3  K n 0 v139 τ62)) (∀ τ72 : Sg, τ72 = up τ62 (199 + 1 + ((x3 * 6) + y5).toNatClampNeg) 4 1 → (wp_X3_takersBy (τ72 (199 + 1 + ((x3 * 6) + y5).toNatClampNeg) 5) (τ72 (199 + 1 + ((x3 * 6) + y5).toNatClampNeg) 6) τ72 <| fun r85_ τ85 => (∀ τ88 : Sg, τ88 = up τ85 (199 + 1 + ((x3 * 6) + y5).toNatClampNeg) 3 r85_ → (br ((τ88 (199 + 1 + ((x3 * 6) + y5).toNatClampNeg) 3) ≤ 0) (b_X3_settlePools_112 x3 (fun y4' y5' τ => b_X3_settlePools_6 x3  K n y4' y5' τ) K y5 (199 + 1 + ((x3 * 6) + y5).toNatClampNeg) 0 2 (199 + 1 + ((x3 * 6) + y5).toNatClampNeg) τ88) (¬ (τ88 (199 + 1 + ((x3 * 6) + y5).toNatClampNeg) 3) = 0 ∧ (b_X3_settlePools_112 x3 (fun y4' y5' τ => b_X3_settlePools_6 x3  K n y4' y5' τ) K y5 (199 + 1 + ((x3 * 6) + y5).toNatClampNeg) ((τ88 (199 + 1 + ((x3 * 6) + y5).toNatClampNeg) 0) / (τ88 (199 + 1 + ((x3 * 6) + y5).toNatClampNeg) 3)) 2 (199 + 1 + ((x3 * 6) + y5).toNatClampNeg) τ88))))))))))))))
set_option maxRecDepth 20000 in
set_option maxHeartbeats 2000000 in
theorem bt_X3_settlePools_6 (l : Launch) (x3 : Int32) {K : Sg → Prop}   : ∀ (n : Nat) (y4 : Int32) (y5 : Int32)  (σ : Sg), b_X3_settlePools_6 x3  K n y4 y5 σ → AV l RX3 cX3_settlePools 7 none 4 (qV K) 6 [(0, .ref 180), (1, .ref 3), (2, .ref 55), (3, .int x3), (4, .int y4), (5, .int y5)] [] σ := by
  intro n
  induction n with
  | zero => intro y4 y5 σ h; exact h.elim
  | succ n ih =>
    intro y4 y5 σ h
    refine aw_iload (pc := 6) 5 dX3_settlePools_6 rfl ?_
    refine aw_bipush (pc := 8) 6 dX3_settlePools_8 (by decide) ?_
    refine aw_icmp_ge (pc := 10) 145 dX3_settlePools_10 (by decide) (fun q => ?_) (fun q => ?_)
    · have h := h.1 q
      refine aw_aload_n (pc := 145) 0 dX3_settlePools_145 rfl ?_
      refine aw_getR (pc := 146) 1 kcX3 dX3_settlePools_146 lfX3_16 nn_180 ki_180 (by decide) rfl rf_180_1 ?_
      refine aw_iload_n (pc := 149) 3 dX3_settlePools_149 rfl ?_
      have hin150 := h.1
      have h := h.2
      refine aw_aldI (pc := 150) dX3_settlePools_150 nn_194 ki_194 ln_194 hin150 (rf15 ki_194) ?_
      refine aw_iconst (pc := 151) 0 dX3_settlePools_151 (by decide) ?_
      refine aw_iload (pc := 152) 4 dX3_settlePools_152 rfl ?_
      refine aw_iast (pc := 154) (j := 0) (v := y4) dX3_settlePools_154 (row_194 _ (vp_lt hin150)).1 (row_194 _ (vp_lt hin150)).2.1 (row_194 _ (vp_lt hin150)).2.2 (show vp_in _ _ by unfold vp_in; decide) (by decide) rfl ?_
      refine aw_tops (fun τ154 eτ154 => ?_)
      have h := h τ154 eτ154
      refine aw_aload_n (pc := 155) 0 dX3_settlePools_155 rfl ?_
      refine aw_getR (pc := 156) 5 kcX3 dX3_settlePools_156 lfX3_29 nn_180 ki_180 (by decide) rfl rf_180_5 ?_
      refine aw_iconst (pc := 159) 5 dX3_settlePools_159 (by decide) ?_
      refine aw_dup2 (pc := 160) dX3_settlePools_160 rfl rfl ?_
      refine aw_iald (pc := 161) (j := 5) dX3_settlePools_161 nn_226 ki_226 ln_226 (show vp_in _ _ by unfold vp_in; decide) (by decide) ?_
      refine aw_iload (pc := 162) 4 dX3_settlePools_162 rfl ?_
      refine aw_iadd (pc := 164) dX3_settlePools_164 ?_
      refine aw_iast (pc := 165) (j := 5) (v := ((τ154 226 5) + y4)) dX3_settlePools_165 nn_226 ki_226 ln_226 (show vp_in _ _ by unfold vp_in; decide) (by decide) rfl ?_
      refine aw_tops (fun τ165 eτ165 => ?_)
      have h := h τ165 eτ165
      exact aw_vret (pc := 166) rfl dX3_settlePools_166 ⟨rfl, h⟩
    · have h := h.2 q
      refine aw_aload_n (pc := 13) 0 dX3_settlePools_13 rfl ?_
      refine aw_getR (pc := 14) 2 kcX3 dX3_settlePools_14 lfX3_19 nn_180 ki_180 (by decide) rfl rf_180_2 ?_
      refine aw_iload_n (pc := 17) 3 dX3_settlePools_17 rfl ?_
      refine aw_bipush (pc := 18) 6 dX3_settlePools_18 (by decide) ?_
      refine aw_imul (pc := 20) dX3_settlePools_20 ?_
      refine aw_iload (pc := 21) 5 dX3_settlePools_21 rfl ?_
      refine aw_iadd (pc := 23) dX3_settlePools_23 ?_
      have hin24 := h.1
      have h := h.2
      refine aw_aldI (pc := 24) dX3_settlePools_24 nn_199 ki_199 ln_199 hin24 (rf15 ki_199) ?_
      refine aw_astore (pc := 25) [(6, .ref (199 + 1 + ((x3 * 6) + y5).toNatClampNeg)), (0, .ref 180), (1, .ref 3), (2, .ref 55), (3, .int x3), (4, .int y4), (5, .int y5)] dX3_settlePools_25 (by decide) rfl ?_
      refine aw_aload (pc := 27) 0 dX3_settlePools_27 rfl ?_
      refine aw_iconst (pc := 29) 1 dX3_settlePools_29 (by decide) ?_
      refine aw_iload (pc := 30) 5 dX3_settlePools_30 rfl ?_
      refine aw_iast (pc := 32) (j := 1) (v := y4) dX3_settlePools_32 (row_199 _ (vp_lt hin24)).1 (row_199 _ (vp_lt hin24)).2.1 (row_199 _ (vp_lt hin24)).2.2 (show vp_in _ _ by unfold vp_in; decide) (by decide) rfl ?_
      refine aw_tops (fun τ32 eτ32 => ?_)
      have h := h τ32 eτ32
      refine aw_aload (pc := 33) 0 dX3_settlePools_33 rfl ?_
      refine aw_iconst (pc := 35) 0 dX3_settlePools_35 (by decide) ?_
      refine aw_dup2 (pc := 36) dX3_settlePools_36 rfl rfl ?_
      refine aw_iald (pc := 37) (j := 0) dX3_settlePools_37 (row_199 _ (vp_lt hin24)).1 (row_199 _ (vp_lt hin24)).2.1 (row_199 _ (vp_lt hin24)).2.2 (show vp_in _ _ by unfold vp_in; decide) (by decide) ?_
      refine aw_iload (pc := 38) 5 dX3_settlePools_38 rfl ?_
      refine aw_iadd (pc := 40) dX3_settlePools_40 ?_
      refine aw_iast (pc := 41) (j := 0) (v := ((τ32 (199 + 1 + ((x3 * 6) + y5).toNatClampNeg) 0) + y4)) dX3_settlePools_41 (row_199 _ (vp_lt hin24)).1 (row_199 _ (vp_lt hin24)).2.1 (row_199 _ (vp_lt hin24)).2.2 (show vp_in _ _ by unfold vp_in; decide) (by decide) rfl ?_
      refine aw_tops (fun τ41 eτ41 => ?_)
      have h := h τ41 eτ41
      refine aw_aload (pc := 42) 0 dX3_settlePools_42 rfl ?_
      refine aw_iconst (pc := 44) 5 dX3_settlePools_44 (by decide) ?_
      refine aw_aload_n (pc := 45) 2 dX3_settlePools_45 rfl ?_
      refine aw_getRN (pc := 46) 4 kcX5 dX3_settlePools_46 lfnX3_125 nn_3 ki_3 (by decide) rfl rf_3_4 ?_
      refine aw_iload_n (pc := 49) 4 dX3_settlePools_49 rfl ?_
      have hin50 := h.1
      have h := h.2
      refine aw_aldI (pc := 50) dX3_settlePools_50 nn_22 ki_22 ln_22 hin50 (rf15 ki_22) ?_
      refine aw_iload (pc := 51) 6 dX3_settlePools_51 rfl ?_
      refine aw_iald (pc := 53) (j := y5.toNatClampNeg) dX3_settlePools_53 (row_22 _ (vp_lt hin50)).1 (row_22 _ (vp_lt hin50)).2.1 (row_22 _ (vp_lt hin50)).2.2 h.1 rfl ?_
      have h := h.2
      refine aw_iast (pc := 54) (j := 5) (v := (τ41 (22 + 1 + x3.toNatClampNeg) y5.toNatClampNeg)) dX3_settlePools_54 (row_199 _ (vp_lt hin24)).1 (row_199 _ (vp_lt hin24)).2.1 (row_199 _ (vp_lt hin24)).2.2 (show vp_in _ _ by unfold vp_in; decide) (by decide) rfl ?_
      refine aw_tops (fun τ54 eτ54 => ?_)
      have h := h τ54 eτ54
      refine aw_iconst (pc := 55) 0 dX3_settlePools_55 (by decide) ?_
      refine aw_istore (pc := 56) [(4, .int 0), (6, .ref (199 + 1 + ((x3 * 6) + y5).toNatClampNeg)), (0, .ref 180), (1, .ref 3), (2, .ref 55), (3, .int x3), (5, .int y5)] dX3_settlePools_56 (by decide) rfl ?_
      refine aw_aload_n (pc := 58) 4 dX3_settlePools_58 rfl ?_
      refine aw_iload_n (pc := 59) 5 dX3_settlePools_59 rfl ?_
      refine aw_iload (pc := 60) 6 dX3_settlePools_60 rfl ?_
      refine aw_callVN (pc := 62) (As := [.int x3, .int y5]) (rest := []) kcX6 nn_55 ki_55 rfl (ev_X6_isClosed l 55 sea_55 x3 y5 h) mfX6_isClosed dX3_settlePools_62 lmnX3_128 ⟨Nat.le_refl _, Nat.le_refl _⟩ (by decide) rfl rfl (Nat.le_of_ble_eq_true rfl) (nxI (fun r62_ τ62 h => ?_))
      refine aw_if_eq (pc := 65) 139 dX3_settlePools_65 (by decide) (fun q => ?_) (fun q => ?_)
      · have h := h.1 q
        obtain ⟨v139, ev139⟩ : ∃ v : Int32, v = y5 + 1 := ⟨_, rfl⟩
        have h := h v139 ev139
        refine aw_iinc (pc := 139) 6 v139 [(5, .int v139), (4, .int 0), (6, .ref (199 + 1 + ((x3 * 6) + y5).toNatClampNeg)), (0, .ref 180), (1, .ref 3), (2, .ref 55), (3, .int x3)] dX3_settlePools_139 rfl (by rw [ev139]; rfl) (by decide) rfl ?_
        refine aw_goto (pc := 142) 6 dX3_settlePools_142 (by decide) ?_
        refine aw_sub (L' := [(0, .ref 180), (1, .ref 3), (2, .ref 55), (3, .int x3), (4, .int 0), (5, .int v139)]) [3, 4, 5, 6, 1, 0] rfl ?_
        exact ih 0 v139  _ h
      · have h := h.2 q
        refine aw_aload (pc := 68) 1 dX3_settlePools_68 rfl ?_
        refine aw_iconst (pc := 70) 4 dX3_settlePools_70 (by decide) ?_
        refine aw_iconst (pc := 71) 1 dX3_settlePools_71 (by decide) ?_
        refine aw_iast (pc := 72) (j := 4) (v := 1) dX3_settlePools_72 (row_199 _ (vp_lt hin24)).1 (row_199 _ (vp_lt hin24)).2.1 (row_199 _ (vp_lt hin24)).2.2 (show vp_in _ _ by unfold vp_in; decide) (by decide) rfl ?_
        refine aw_tops (fun τ72 eτ72 => ?_)
        have h := h τ72 eτ72
        refine aw_aload (pc := 73) 1 dX3_settlePools_73 rfl ?_
        refine aw_iconst (pc := 75) 3 dX3_settlePools_75 (by decide) ?_
        refine aw_aload (pc := 76) 1 dX3_settlePools_76 rfl ?_
        refine aw_iconst (pc := 78) 5 dX3_settlePools_78 (by decide) ?_
        refine aw_iald (pc := 79) (j := 5) dX3_settlePools_79 (row_199 _ (vp_lt hin24)).1 (row_199 _ (vp_lt hin24)).2.1 (row_199 _ (vp_lt hin24)).2.2 (show vp_in _ _ by unfold vp_in; decide) (by decide) ?_
        refine aw_aload (pc := 80) 1 dX3_settlePools_80 rfl ?_
        refine aw_bipush (pc := 82) 6 dX3_settlePools_82 (by decide) ?_
        refine aw_iald (pc := 84) (j := 6) dX3_settlePools_84 (row_199 _ (vp_lt hin24)).1 (row_199 _ (vp_lt hin24)).2.1 (row_199 _ (vp_lt hin24)).2.2 (show vp_in _ _ by unfold vp_in; decide) (by decide) ?_
        refine aw_callS (pc := 85) (As := [.int (τ72 (199 + 1 + ((x3 * 6) + y5).toNatClampNeg) 5), .int (τ72 (199 + 1 + ((x3 * 6) + y5).toNatClampNeg) 6)]) (rest := [.int 3, .ref (199 + 1 + ((x3 * 6) + y5).toNatClampNeg)]) (ev_X3_takersBy l (τ72 (199 + 1 + ((x3 * 6) + y5).toNatClampNeg) 5) (τ72 (199 + 1 + ((x3 * 6) + y5).toNatClampNeg) 6) h) mfX3_takersBy dX3_settlePools_85 lmX3_132 ⟨Nat.le_refl _, Nat.le_refl _⟩ (by decide) rfl rfl (Nat.le_of_ble_eq_true rfl) (nxI (fun r85_ τ85 h => ?_))
        refine aw_iast (pc := 88) (j := 3) (v := r85_) dX3_settlePools_88 (row_199 _ (vp_lt hin24)).1 (row_199 _ (vp_lt hin24)).2.1 (row_199 _ (vp_lt hin24)).2.2 (show vp_in _ _ by unfold vp_in; decide) (by decide) rfl ?_
        refine aw_tops (fun τ88 eτ88 => ?_)
        have h := h τ88 eτ88
        refine aw_aload (pc := 89) 1 dX3_settlePools_89 rfl ?_
        refine aw_iconst (pc := 91) 2 dX3_settlePools_91 (by decide) ?_
        refine aw_aload (pc := 92) 1 dX3_settlePools_92 rfl ?_
        refine aw_iconst (pc := 94) 3 dX3_settlePools_94 (by decide) ?_
        refine aw_iald (pc := 95) (j := 3) dX3_settlePools_95 (row_199 _ (vp_lt hin24)).1 (row_199 _ (vp_lt hin24)).2.1 (row_199 _ (vp_lt hin24)).2.2 (show vp_in _ _ by unfold vp_in; decide) (by decide) ?_
        refine aw_if_le (pc := 96) 111 dX3_settlePools_96 (by decide) (fun q => ?_) (fun q => ?_)
        · have h := h.1 q
          refine aw_iconst (pc := 111) 0 dX3_settlePools_111 (by decide) ?_
          refine aw_sub (L' := [(0, .ref 180), (1, .ref 3), (2, .ref 55), (3, .int x3), (5, .int y5), (6, .ref (199 + 1 + ((x3 * 6) + y5).toNatClampNeg))]) [2, 3, 4, 5, 6, 1] rfl ?_
          exact bt_X3_settlePools_112 l x3 (fun y4' y5' τ => b_X3_settlePools_6 x3  K n y4' y5' τ) (fun y4' y5' τ h => ih y4' y5' τ h) y5 (199 + 1 + ((x3 * 6) + y5).toNatClampNeg) 0 2 (199 + 1 + ((x3 * 6) + y5).toNatClampNeg) (row_199 _ (vp_lt hin24)) (row_199 _ (vp_lt hin24)) _ h
        · have h := h.2 q
          refine aw_aload (pc := 99) 1 dX3_settlePools_99 rfl ?_
          refine aw_iconst (pc := 101) 0 dX3_settlePools_101 (by decide) ?_
          refine aw_iald (pc := 102) (j := 0) dX3_settlePools_102 (row_199 _ (vp_lt hin24)).1 (row_199 _ (vp_lt hin24)).2.1 (row_199 _ (vp_lt hin24)).2.2 (show vp_in _ _ by unfold vp_in; decide) (by decide) ?_
          refine aw_aload (pc := 103) 1 dX3_settlePools_103 rfl ?_
          refine aw_iconst (pc := 105) 3 dX3_settlePools_105 (by decide) ?_
          refine aw_iald (pc := 106) (j := 3) dX3_settlePools_106 (row_199 _ (vp_lt hin24)).1 (row_199 _ (vp_lt hin24)).2.1 (row_199 _ (vp_lt hin24)).2.2 (show vp_in _ _ by unfold vp_in; decide) (by decide) ?_
          refine aw_idiv (pc := 107) dX3_settlePools_107 h.1 ?_
          have h := h.2
          refine aw_goto (pc := 108) 112 dX3_settlePools_108 (by decide) ?_
          refine aw_sub (L' := [(0, .ref 180), (1, .ref 3), (2, .ref 55), (3, .int x3), (5, .int y5), (6, .ref (199 + 1 + ((x3 * 6) + y5).toNatClampNeg))]) [2, 3, 4, 5, 6, 1] rfl ?_
          exact bt_X3_settlePools_112 l x3 (fun y4' y5' τ => b_X3_settlePools_6 x3  K n y4' y5' τ) (fun y4' y5' τ h => ih y4' y5' τ h) y5 (199 + 1 + ((x3 * 6) + y5).toNatClampNeg) ((τ88 (199 + 1 + ((x3 * 6) + y5).toNatClampNeg) 0) / (τ88 (199 + 1 + ((x3 * 6) + y5).toNatClampNeg) 3)) 2 (199 + 1 + ((x3 * 6) + y5).toNatClampNeg) (row_199 _ (vp_lt hin24)) (row_199 _ (vp_lt hin24)) _ h
def wp_X3_settlePools (x3 : Int32) (σ : Sg) (K : Sg → Prop) : Prop :=
  ∃ nf, b_X3_settlePools_6 x3  K nf 0 0 σ
set_option maxRecDepth 20000 in
set_option maxHeartbeats 2000000 in
theorem ev_X3_settlePools (l : Launch) (x3 : Int32) {σ : Sg} {K : Sg → Prop} (h : wp_X3_settlePools x3 σ K) : Ev l yX3_settlePools cX3_settlePools 7 none 4 [.ref 180, .ref 3, .ref 55, .int x3] σ (qV K) := by
  refine ev_ov (by decide) (Nat.le_of_ble_eq_true rfl) ?_
  show AV l RX3 cX3_settlePools 7 none 4 (qV K) 0 [(0, .ref 180), (1, .ref 3), (2, .ref 55), (3, .int x3)] [] σ
  refine aw_iconst (pc := 0) 0 dX3_settlePools_0 (by decide) ?_
  refine aw_istore (pc := 1) [(4, .int 0), (0, .ref 180), (1, .ref 3), (2, .ref 55), (3, .int x3)] dX3_settlePools_1 (by decide) rfl ?_
  refine aw_iconst (pc := 3) 0 dX3_settlePools_3 (by decide) ?_
  refine aw_istore (pc := 4) [(5, .int 0), (4, .int 0), (0, .ref 180), (1, .ref 3), (2, .ref 55), (3, .int x3)] dX3_settlePools_4 (by decide) rfl ?_
  refine aw_sub (L' := [(0, .ref 180), (1, .ref 3), (2, .ref 55), (3, .int x3), (4, .int 0), (5, .int 0)]) [2, 3, 4, 5, 1, 0] rfl ?_
  obtain ⟨nf, h⟩ := h
  exact bt_X3_settlePools_6 l x3   nf 0 0  _ h
def wp_X3_sumUp (x2 : Int32) (σ : Sg) (K : Sg → Prop) : Prop :=
  vp_in x2 12 ∧ (∀ τ26 : Sg, τ26 = up σ (181 + 1 + x2.toNatClampNeg) 3 ((((σ (181 + 1 + x2.toNatClampNeg) 4) + (σ (181 + 1 + x2.toNatClampNeg) 5)) + (σ (181 + 1 + x2.toNatClampNeg) 6)) + (σ (181 + 1 + x2.toNatClampNeg) 7)) → (vp_in x2 12 ∧ (∀ τ46 : Sg, τ46 = up τ26 (181 + 1 + x2.toNatClampNeg) 8 (if (0 : Int32) < ((τ26 (4 + 1 + x2.toNatClampNeg) 2) - (τ26 (181 + 1 + x2.toNatClampNeg) 3)) then ((τ26 (4 + 1 + x2.toNatClampNeg) 2) - (τ26 (181 + 1 + x2.toNatClampNeg) 3)) else (0 : Int32)) → (vp_in x2 12 ∧ (vp_in x2 13 ∧ (∀ τ62 : Sg, τ62 = up τ46 225 x2.toNatClampNeg ((τ46 (181 + 1 + x2.toNatClampNeg) 3) - (τ46 224 x2.toNatClampNeg)) → (K τ62)))))))
set_option maxRecDepth 20000 in
set_option maxHeartbeats 2000000 in
theorem ev_X3_sumUp (l : Launch) (x2 : Int32) {σ : Sg} {K : Sg → Prop} (h : wp_X3_sumUp x2 σ K) : Ev l yX3_sumUp cX3_sumUp 4 none 1 [.ref 180, .ref 3, .int x2] σ (qV K) := by
  refine ev_ov (by decide) (Nat.le_of_ble_eq_true rfl) ?_
  show AV l RX3 cX3_sumUp 4 none 1 (qV K) 0 [(0, .ref 180), (1, .ref 3), (2, .int x2)] [] σ
  refine aw_aload_n (pc := 0) 0 dX3_sumUp_0 rfl ?_
  refine aw_getR (pc := 1) 0 kcX3 dX3_sumUp_1 lfX3_11 nn_180 ki_180 (by decide) rfl rf_180_0 ?_
  refine aw_iload_n (pc := 4) 2 dX3_sumUp_4 rfl ?_
  have hin5 := h.1
  have h := h.2
  refine aw_aldI (pc := 5) dX3_sumUp_5 nn_181 ki_181 ln_181 hin5 (rf15 ki_181) ?_
  refine aw_astore_n (pc := 6) (i := 3) [(3, .ref (181 + 1 + x2.toNatClampNeg)), (0, .ref 180), (1, .ref 3), (2, .int x2)] dX3_sumUp_6 rfl (by decide) rfl ?_
  refine aw_aload_n (pc := 7) 0 dX3_sumUp_7 rfl ?_
  refine aw_iconst (pc := 8) 3 dX3_sumUp_8 (by decide) ?_
  refine aw_aload_n (pc := 9) 0 dX3_sumUp_9 rfl ?_
  refine aw_iconst (pc := 10) 4 dX3_sumUp_10 (by decide) ?_
  refine aw_iald (pc := 11) (j := 4) dX3_sumUp_11 (row_181 _ (vp_lt hin5)).1 (row_181 _ (vp_lt hin5)).2.1 (row_181 _ (vp_lt hin5)).2.2 (show vp_in _ _ by unfold vp_in; decide) (by decide) ?_
  refine aw_aload_n (pc := 12) 0 dX3_sumUp_12 rfl ?_
  refine aw_iconst (pc := 13) 5 dX3_sumUp_13 (by decide) ?_
  refine aw_iald (pc := 14) (j := 5) dX3_sumUp_14 (row_181 _ (vp_lt hin5)).1 (row_181 _ (vp_lt hin5)).2.1 (row_181 _ (vp_lt hin5)).2.2 (show vp_in _ _ by unfold vp_in; decide) (by decide) ?_
  refine aw_iadd (pc := 15) dX3_sumUp_15 ?_
  refine aw_aload_n (pc := 16) 0 dX3_sumUp_16 rfl ?_
  refine aw_bipush (pc := 17) 6 dX3_sumUp_17 (by decide) ?_
  refine aw_iald (pc := 19) (j := 6) dX3_sumUp_19 (row_181 _ (vp_lt hin5)).1 (row_181 _ (vp_lt hin5)).2.1 (row_181 _ (vp_lt hin5)).2.2 (show vp_in _ _ by unfold vp_in; decide) (by decide) ?_
  refine aw_iadd (pc := 20) dX3_sumUp_20 ?_
  refine aw_aload_n (pc := 21) 0 dX3_sumUp_21 rfl ?_
  refine aw_bipush (pc := 22) 7 dX3_sumUp_22 (by decide) ?_
  refine aw_iald (pc := 24) (j := 7) dX3_sumUp_24 (row_181 _ (vp_lt hin5)).1 (row_181 _ (vp_lt hin5)).2.1 (row_181 _ (vp_lt hin5)).2.2 (show vp_in _ _ by unfold vp_in; decide) (by decide) ?_
  refine aw_iadd (pc := 25) dX3_sumUp_25 ?_
  refine aw_iast (pc := 26) (j := 3) (v := ((((σ (181 + 1 + x2.toNatClampNeg) 4) + (σ (181 + 1 + x2.toNatClampNeg) 5)) + (σ (181 + 1 + x2.toNatClampNeg) 6)) + (σ (181 + 1 + x2.toNatClampNeg) 7))) dX3_sumUp_26 (row_181 _ (vp_lt hin5)).1 (row_181 _ (vp_lt hin5)).2.1 (row_181 _ (vp_lt hin5)).2.2 (show vp_in _ _ by unfold vp_in; decide) (by decide) rfl ?_
  refine aw_tops (fun τ26 eτ26 => ?_)
  have h := h τ26 eτ26
  refine aw_aload_n (pc := 27) 0 dX3_sumUp_27 rfl ?_
  refine aw_bipush (pc := 28) 8 dX3_sumUp_28 (by decide) ?_
  refine aw_iconst (pc := 30) 0 dX3_sumUp_30 (by decide) ?_
  refine aw_aload_n (pc := 31) 2 dX3_sumUp_31 rfl ?_
  refine aw_getRN (pc := 32) 2 kcX5 dX3_sumUp_32 lfnX3_146 nn_3 ki_3 (by decide) rfl rf_3_2 ?_
  refine aw_iload_n (pc := 35) 3 dX3_sumUp_35 rfl ?_
  have hin36 := h.1
  have h := h.2
  refine aw_aldI (pc := 36) dX3_sumUp_36 nn_4 ki_4 ln_4 hin36 (rf15 ki_4) ?_
  refine aw_iconst (pc := 37) 2 dX3_sumUp_37 (by decide) ?_
  refine aw_iald (pc := 38) (j := 2) dX3_sumUp_38 (row_4 _ (vp_lt hin36)).1 (row_4 _ (vp_lt hin36)).2.1 (row_4 _ (vp_lt hin36)).2.2 (show vp_in _ _ by unfold vp_in; decide) (by decide) ?_
  refine aw_aload_n (pc := 39) 0 dX3_sumUp_39 rfl ?_
  refine aw_iconst (pc := 40) 3 dX3_sumUp_40 (by decide) ?_
  refine aw_iald (pc := 41) (j := 3) dX3_sumUp_41 (row_181 _ (vp_lt hin5)).1 (row_181 _ (vp_lt hin5)).2.1 (row_181 _ (vp_lt hin5)).2.2 (show vp_in _ _ by unfold vp_in; decide) (by decide) ?_
  refine aw_isub (pc := 42) dX3_sumUp_42 ?_
  refine aw_mmax (pc := 43) dX3_sumUp_43 lmX3_149 lib_max.1 lib_max.2.1 lib_max.2.2 ⟨Nat.le_refl _, Nat.le_refl _⟩ (by decide) (Nat.le_of_ble_eq_true rfl) ?_
  refine aw_iast (pc := 46) (j := 8) (v := (if (0 : Int32) < ((τ26 (4 + 1 + x2.toNatClampNeg) 2) - (τ26 (181 + 1 + x2.toNatClampNeg) 3)) then ((τ26 (4 + 1 + x2.toNatClampNeg) 2) - (τ26 (181 + 1 + x2.toNatClampNeg) 3)) else (0 : Int32))) dX3_sumUp_46 (row_181 _ (vp_lt hin5)).1 (row_181 _ (vp_lt hin5)).2.1 (row_181 _ (vp_lt hin5)).2.2 (show vp_in _ _ by unfold vp_in; decide) (by decide) rfl ?_
  refine aw_tops (fun τ46 eτ46 => ?_)
  have h := h τ46 eτ46
  refine aw_aload_n (pc := 47) 1 dX3_sumUp_47 rfl ?_
  refine aw_getR (pc := 48) 4 kcX3 dX3_sumUp_48 lfX3_26 nn_180 ki_180 (by decide) rfl rf_180_4 ?_
  refine aw_iload_n (pc := 51) 3 dX3_sumUp_51 rfl ?_
  refine aw_aload_n (pc := 52) 0 dX3_sumUp_52 rfl ?_
  refine aw_iconst (pc := 53) 3 dX3_sumUp_53 (by decide) ?_
  refine aw_iald (pc := 54) (j := 3) dX3_sumUp_54 (row_181 _ (vp_lt hin5)).1 (row_181 _ (vp_lt hin5)).2.1 (row_181 _ (vp_lt hin5)).2.2 (show vp_in _ _ by unfold vp_in; decide) (by decide) ?_
  refine aw_aload_n (pc := 55) 1 dX3_sumUp_55 rfl ?_
  refine aw_getR (pc := 56) 3 kcX3 dX3_sumUp_56 lfX3_22 nn_180 ki_180 (by decide) rfl rf_180_3 ?_
  refine aw_iload_n (pc := 59) 3 dX3_sumUp_59 rfl ?_
  refine aw_iald (pc := 60) (j := x2.toNatClampNeg) dX3_sumUp_60 nn_224 ki_224 ln_224 h.1 rfl ?_
  have h := h.2
  refine aw_isub (pc := 61) dX3_sumUp_61 ?_
  refine aw_iast (pc := 62) (j := x2.toNatClampNeg) (v := ((τ46 (181 + 1 + x2.toNatClampNeg) 3) - (τ46 224 x2.toNatClampNeg))) dX3_sumUp_62 nn_225 ki_225 ln_225 h.1 rfl rfl ?_
  have h := h.2
  refine aw_tops (fun τ62 eτ62 => ?_)
  have h := h τ62 eτ62
  exact aw_vret (pc := 63) rfl dX3_sumUp_63 ⟨rfl, h⟩
def b_X3_leastLacking_38 (x1 : Int32) (x2 : Int32) (B5 : Int32 → Int32 → Sg → Prop) (K : Int32 → Sg → Prop) (y3 : Int32) (y4 : Int32) (z0 : Int32) (σ : Sg) : Prop :=
  br (z0 = 0) (∀ v75 : Int32, v75 = y4 + 1 → (B5 y3 v75 σ)) (br (y3 = (-1)) (∀ v75 : Int32, v75 = y4 + 1 → (B5 y4 v75 σ)) (vp_in y4 12 ∧ (vp_in y3 12 ∧ (br ((σ (181 + 1 + y3.toNatClampNeg) 8) ≤ (σ (181 + 1 + y4.toNatClampNeg) 8)) (∀ v75 : Int32, v75 = y4 + 1 → (B5 y3 v75 σ)) (∀ v75 : Int32, v75 = y4 + 1 → (B5 y4 v75 σ))))))
set_option maxRecDepth 20000 in
set_option maxHeartbeats 2000000 in
theorem bt_X3_leastLacking_38 (l : Launch) (x1 : Int32) (x2 : Int32) {K : Int32 → Sg → Prop} (B5 : Int32 → Int32 → Sg → Prop) (hB5 : ∀ (y3 : Int32) (y4 : Int32)  (τ : Sg), B5 y3 y4 τ → AV l RX3 cX3_leastLacking 6 (some .int) 0 (qI K) 5 [(0, .ref 180), (1, .int x1), (2, .int x2), (3, .int y3), (4, .int y4)] [] τ) (y3 : Int32) (y4 : Int32) (z0 : Int32)  (σ : Sg) (h : b_X3_leastLacking_38 x1 x2 B5 K y3 y4 z0 σ) : AV l RX3 cX3_leastLacking 6 (some .int) 0 (qI K) 38 [(0, .ref 180), (1, .int x1), (2, .int x2), (3, .int y3), (4, .int y4)] [.int z0] σ := by
  refine aw_istore (pc := 38) [(5, .int z0), (0, .ref 180), (1, .int x1), (2, .int x2), (3, .int y3), (4, .int y4)] dX3_leastLacking_38 (by decide) rfl ?_
  refine aw_iload (pc := 40) 0 dX3_leastLacking_40 rfl ?_
  refine aw_if_eq (pc := 42) 75 dX3_leastLacking_42 (by decide) (fun q => ?_) (fun q => ?_)
  · have h := h.1 q
    obtain ⟨v75, ev75⟩ : ∃ v : Int32, v = y4 + 1 := ⟨_, rfl⟩
    have h := h v75 ev75
    refine aw_iinc (pc := 75) 5 v75 [(4, .int v75), (5, .int z0), (0, .ref 180), (1, .int x1), (2, .int x2), (3, .int y3)] dX3_leastLacking_75 rfl (by rw [ev75]; rfl) (by decide) rfl ?_
    refine aw_goto (pc := 78) 5 dX3_leastLacking_78 (by decide) ?_
    refine aw_sub (L' := [(0, .ref 180), (1, .int x1), (2, .int x2), (3, .int y3), (4, .int v75)]) [2, 3, 4, 5, 0] rfl ?_
    exact hB5 y3 v75  _ h
  · have h := h.2 q
    refine aw_iload_n (pc := 45) 4 dX3_leastLacking_45 rfl ?_
    refine aw_iconst (pc := 46) (-1) dX3_leastLacking_46 (by decide) ?_
    refine aw_icmp_eq (pc := 47) 72 dX3_leastLacking_47 (by decide) (fun q => ?_) (fun q => ?_)
    · have h := h.1 q
      refine aw_iload (pc := 72) 5 dX3_leastLacking_72 rfl ?_
      refine aw_istore_n (pc := 74) (i := 3) [(3, .int y4), (5, .int z0), (0, .ref 180), (1, .int x1), (2, .int x2), (4, .int y4)] dX3_leastLacking_74 rfl (by decide) rfl ?_
      obtain ⟨v75, ev75⟩ : ∃ v : Int32, v = y4 + 1 := ⟨_, rfl⟩
      have h := h v75 ev75
      refine aw_iinc (pc := 75) 5 v75 [(4, .int v75), (3, .int y4), (5, .int z0), (0, .ref 180), (1, .int x1), (2, .int x2)] dX3_leastLacking_75 rfl (by rw [ev75]; rfl) (by decide) rfl ?_
      refine aw_goto (pc := 78) 5 dX3_leastLacking_78 (by decide) ?_
      refine aw_sub (L' := [(0, .ref 180), (1, .int x1), (2, .int x2), (3, .int y4), (4, .int v75)]) [3, 4, 5, 1, 0] rfl ?_
      exact hB5 y4 v75  _ h
    · have h := h.2 q
      refine aw_aload_n (pc := 50) 1 dX3_leastLacking_50 rfl ?_
      refine aw_getR (pc := 51) 0 kcX3 dX3_leastLacking_51 lfX3_11 nn_180 ki_180 (by decide) rfl rf_180_0 ?_
      refine aw_iload (pc := 54) 5 dX3_leastLacking_54 rfl ?_
      have hin56 := h.1
      have h := h.2
      refine aw_aldI (pc := 56) dX3_leastLacking_56 nn_181 ki_181 ln_181 hin56 (rf15 ki_181) ?_
      refine aw_bipush (pc := 57) 8 dX3_leastLacking_57 (by decide) ?_
      refine aw_iald (pc := 59) (j := 8) dX3_leastLacking_59 (row_181 _ (vp_lt hin56)).1 (row_181 _ (vp_lt hin56)).2.1 (row_181 _ (vp_lt hin56)).2.2 (show vp_in _ _ by unfold vp_in; decide) (by decide) ?_
      refine aw_aload_n (pc := 60) 1 dX3_leastLacking_60 rfl ?_
      refine aw_getR (pc := 61) 0 kcX3 dX3_leastLacking_61 lfX3_11 nn_180 ki_180 (by decide) rfl rf_180_0 ?_
      refine aw_iload_n (pc := 64) 4 dX3_leastLacking_64 rfl ?_
      have hin65 := h.1
      have h := h.2
      refine aw_aldI (pc := 65) dX3_leastLacking_65 nn_181 ki_181 ln_181 hin65 (rf15 ki_181) ?_
      refine aw_bipush (pc := 66) 8 dX3_leastLacking_66 (by decide) ?_
      refine aw_iald (pc := 68) (j := 8) dX3_leastLacking_68 (row_181 _ (vp_lt hin65)).1 (row_181 _ (vp_lt hin65)).2.1 (row_181 _ (vp_lt hin65)).2.2 (show vp_in _ _ by unfold vp_in; decide) (by decide) ?_
      refine aw_icmp_ge (pc := 69) 75 dX3_leastLacking_69 (by decide) (fun q => ?_) (fun q => ?_)
      · have h := h.1 q
        obtain ⟨v75, ev75⟩ : ∃ v : Int32, v = y4 + 1 := ⟨_, rfl⟩
        have h := h v75 ev75
        refine aw_iinc (pc := 75) 5 v75 [(4, .int v75), (5, .int z0), (0, .ref 180), (1, .int x1), (2, .int x2), (3, .int y3)] dX3_leastLacking_75 rfl (by rw [ev75]; rfl) (by decide) rfl ?_
        refine aw_goto (pc := 78) 5 dX3_leastLacking_78 (by decide) ?_
        refine aw_sub (L' := [(0, .ref 180), (1, .int x1), (2, .int x2), (3, .int y3), (4, .int v75)]) [2, 3, 4, 5, 0] rfl ?_
        exact hB5 y3 v75  _ h
      · have h := h.2 q
        refine aw_iload (pc := 72) 5 dX3_leastLacking_72 rfl ?_
        refine aw_istore_n (pc := 74) (i := 3) [(3, .int y4), (5, .int z0), (0, .ref 180), (1, .int x1), (2, .int x2), (4, .int y4)] dX3_leastLacking_74 rfl (by decide) rfl ?_
        obtain ⟨v75, ev75⟩ : ∃ v : Int32, v = y4 + 1 := ⟨_, rfl⟩
        have h := h v75 ev75
        refine aw_iinc (pc := 75) 5 v75 [(4, .int v75), (3, .int y4), (5, .int z0), (0, .ref 180), (1, .int x1), (2, .int x2)] dX3_leastLacking_75 rfl (by rw [ev75]; rfl) (by decide) rfl ?_
        refine aw_goto (pc := 78) 5 dX3_leastLacking_78 (by decide) ?_
        refine aw_sub (L' := [(0, .ref 180), (1, .int x1), (2, .int x2), (3, .int y4), (4, .int v75)]) [3, 4, 5, 1, 0] rfl ?_
        exact hB5 y4 v75  _ h
def b_X3_leastLacking_37 (x1 : Int32) (x2 : Int32) (B5 : Int32 → Int32 → Sg → Prop) (K : Int32 → Sg → Prop) (y3 : Int32) (y4 : Int32) (σ : Sg) : Prop :=
  b_X3_leastLacking_38 x1 x2 B5 K y3 y4 0 σ
set_option maxRecDepth 20000 in
set_option maxHeartbeats 2000000 in
theorem bt_X3_leastLacking_37 (l : Launch) (x1 : Int32) (x2 : Int32) {K : Int32 → Sg → Prop} (B5 : Int32 → Int32 → Sg → Prop) (hB5 : ∀ (y3 : Int32) (y4 : Int32)  (τ : Sg), B5 y3 y4 τ → AV l RX3 cX3_leastLacking 6 (some .int) 0 (qI K) 5 [(0, .ref 180), (1, .int x1), (2, .int x2), (3, .int y3), (4, .int y4)] [] τ) (y3 : Int32) (y4 : Int32)  (σ : Sg) (h : b_X3_leastLacking_37 x1 x2 B5 K y3 y4 σ) : AV l RX3 cX3_leastLacking 6 (some .int) 0 (qI K) 37 [(0, .ref 180), (1, .int x1), (2, .int x2), (3, .int y3), (4, .int y4)] [] σ := by
  refine aw_iconst (pc := 37) 0 dX3_leastLacking_37 (by decide) ?_
  exact bt_X3_leastLacking_38 l x1 x2 B5 hB5 y3 y4 0  _ h
def b_X3_leastLacking_5 (x1 : Int32) (x2 : Int32)  (K : Int32 → Sg → Prop) : Nat → Int32 → Int32 → Sg → Prop
  | 0, _, _, _ => False
  | n + 1, y3, y4, σ =>
  br (x1 ≤ y4) (K y3 σ) (vp_in y4 12 ∧ (br ((σ (181 + 1 + y4.toNatClampNeg) 8) ≤ 0) (b_X3_leastLacking_37 x1 x2 (fun y3' y4' τ => b_X3_leastLacking_5 x1 x2  K n y3' y4' τ) K y3 y4 σ) (br (((x2 >>> (y4 &&& 31)) &&& 1) = 0) (b_X3_leastLacking_38 x1 x2 (fun y3' y4' τ => b_X3_leastLacking_5 x1 x2  K n y3' y4' τ) K y3 y4 1 σ) (b_X3_leastLacking_37 x1 x2 (fun y3' y4' τ => b_X3_leastLacking_5 x1 x2  K n y3' y4' τ) K y3 y4 σ))))
set_option maxRecDepth 20000 in
set_option maxHeartbeats 2000000 in
theorem bt_X3_leastLacking_5 (l : Launch) (x1 : Int32) (x2 : Int32) {K : Int32 → Sg → Prop}   : ∀ (n : Nat) (y3 : Int32) (y4 : Int32)  (σ : Sg), b_X3_leastLacking_5 x1 x2  K n y3 y4 σ → AV l RX3 cX3_leastLacking 6 (some .int) 0 (qI K) 5 [(0, .ref 180), (1, .int x1), (2, .int x2), (3, .int y3), (4, .int y4)] [] σ := by
  intro n
  induction n with
  | zero => intro y3 y4 σ h; exact h.elim
  | succ n ih =>
    intro y3 y4 σ h
    refine aw_iload (pc := 5) 4 dX3_leastLacking_5 rfl ?_
    refine aw_iload_n (pc := 7) 1 dX3_leastLacking_7 rfl ?_
    refine aw_icmp_ge (pc := 8) 81 dX3_leastLacking_8 (by decide) (fun q => ?_) (fun q => ?_)
    · have h := h.1 q
      refine aw_iload_n (pc := 81) 3 dX3_leastLacking_81 rfl ?_
      exact aw_iret (pc := 82) rfl dX3_leastLacking_82 ⟨_, rfl, h⟩
    · have h := h.2 q
      refine aw_aload_n (pc := 11) 0 dX3_leastLacking_11 rfl ?_
      refine aw_getR (pc := 12) 0 kcX3 dX3_leastLacking_12 lfX3_11 nn_180 ki_180 (by decide) rfl rf_180_0 ?_
      refine aw_iload (pc := 15) 4 dX3_leastLacking_15 rfl ?_
      have hin17 := h.1
      have h := h.2
      refine aw_aldI (pc := 17) dX3_leastLacking_17 nn_181 ki_181 ln_181 hin17 (rf15 ki_181) ?_
      refine aw_bipush (pc := 18) 8 dX3_leastLacking_18 (by decide) ?_
      refine aw_iald (pc := 20) (j := 8) dX3_leastLacking_20 (row_181 _ (vp_lt hin17)).1 (row_181 _ (vp_lt hin17)).2.1 (row_181 _ (vp_lt hin17)).2.2 (show vp_in _ _ by unfold vp_in; decide) (by decide) ?_
      refine aw_if_le (pc := 21) 37 dX3_leastLacking_21 (by decide) (fun q => ?_) (fun q => ?_)
      · have h := h.1 q
        exact bt_X3_leastLacking_37 l x1 x2 (fun y3' y4' τ => b_X3_leastLacking_5 x1 x2  K n y3' y4' τ) (fun y3' y4' τ h => ih y3' y4' τ h) y3 y4  _ h
      · have h := h.2 q
        refine aw_iload_n (pc := 24) 2 dX3_leastLacking_24 rfl ?_
        refine aw_iload (pc := 25) 4 dX3_leastLacking_25 rfl ?_
        refine aw_ishr (pc := 27) dX3_leastLacking_27 ?_
        refine aw_iconst (pc := 28) 1 dX3_leastLacking_28 (by decide) ?_
        refine aw_iand (pc := 29) dX3_leastLacking_29 ?_
        refine aw_if_ne (pc := 30) 37 dX3_leastLacking_30 (by decide) (fun q => ?_) (fun q => ?_)
        · have h := h.2 q
          exact bt_X3_leastLacking_37 l x1 x2 (fun y3' y4' τ => b_X3_leastLacking_5 x1 x2  K n y3' y4' τ) (fun y3' y4' τ h => ih y3' y4' τ h) y3 y4  _ h
        · have h := h.1 q
          refine aw_iconst (pc := 33) 1 dX3_leastLacking_33 (by decide) ?_
          refine aw_goto (pc := 34) 38 dX3_leastLacking_34 (by decide) ?_
          exact bt_X3_leastLacking_38 l x1 x2 (fun y3' y4' τ => b_X3_leastLacking_5 x1 x2  K n y3' y4' τ) (fun y3' y4' τ h => ih y3' y4' τ h) y3 y4 1  _ h
def wp_X3_leastLacking (x1 : Int32) (x2 : Int32) (σ : Sg) (K : Int32 → Sg → Prop) : Prop :=
  ∃ nf, b_X3_leastLacking_5 x1 x2  K nf (-1) 0 σ
set_option maxRecDepth 20000 in
set_option maxHeartbeats 2000000 in
theorem ev_X3_leastLacking (l : Launch) (x1 : Int32) (x2 : Int32) {σ : Sg} {K : Int32 → Sg → Prop} (h : wp_X3_leastLacking x1 x2 σ K) : Ev l yX3_leastLacking cX3_leastLacking 6 (some .int) 0 [.ref 180, .int x1, .int x2] σ (qI K) := by
  refine ev_ov (by decide) (Nat.le_of_ble_eq_true rfl) ?_
  show AV l RX3 cX3_leastLacking 6 (some .int) 0 (qI K) 0 [(0, .ref 180), (1, .int x1), (2, .int x2)] [] σ
  refine aw_iconst (pc := 0) (-1) dX3_leastLacking_0 (by decide) ?_
  refine aw_istore_n (pc := 1) (i := 3) [(3, .int (-1)), (0, .ref 180), (1, .int x1), (2, .int x2)] dX3_leastLacking_1 rfl (by decide) rfl ?_
  refine aw_iconst (pc := 2) 0 dX3_leastLacking_2 (by decide) ?_
  refine aw_istore (pc := 3) [(4, .int 0), (3, .int (-1)), (0, .ref 180), (1, .int x1), (2, .int x2)] dX3_leastLacking_3 (by decide) rfl ?_
  refine aw_sub (L' := [(0, .ref 180), (1, .int x1), (2, .int x2), (3, .int (-1)), (4, .int 0)]) [2, 3, 4, 1, 0] rfl ?_
  obtain ⟨nf, h⟩ := h
  exact bt_X3_leastLacking_5 l x1 x2   nf (-1) 0  _ h
def b_X3_topUp_12 (x1 : Int32)  (K : Sg → Prop) : Nat → Int32 → Int32 → Int32 → Sg → Prop
  | 0, _, _, _, _ => False
  | n + 1, y2, y3, y4, σ =>
  br (x1 ≤ y4) (K σ) (br (y2 ≤ 0) (K σ) (wp_X3_leastLacking x1 y3 σ <| fun r25_ τ25 => (br (r25_ = (-1)) (∀ v80 : Int32, v80 = y4 + 1 → (b_X3_topUp_12 x1  K n y2 y3 v80 τ25)) (∀ v42 : Int32, v42 = y3 ||| (1 <<< (r25_ &&& 31)) → (vp_in r25_ 12 ∧ (vp_in r25_ 12 ∧ (∀ τ66 : Sg, τ66 = up τ25 (181 + 1 + r25_.toNatClampNeg) 9 (if (τ25 (181 + 1 + r25_.toNatClampNeg) 8) < y2 then (τ25 (181 + 1 + r25_.toNatClampNeg) 8) else y2) → (vp_in r25_ 12 ∧ (∀ v79 : Int32, v79 = y2 - (τ66 (181 + 1 + r25_.toNatClampNeg) 9) → (∀ v80 : Int32, v80 = y4 + 1 → (b_X3_topUp_12 x1  K n v79 v42 v80 τ66)))))))))))
set_option maxRecDepth 20000 in
set_option maxHeartbeats 2000000 in
theorem bt_X3_topUp_12 (l : Launch) (x1 : Int32) {K : Sg → Prop}   : ∀ (n : Nat) (y2 : Int32) (y3 : Int32) (y4 : Int32)  (σ : Sg), b_X3_topUp_12 x1  K n y2 y3 y4 σ → AV l RX3 cX3_topUp 6 none 1 (qV K) 12 [(0, .ref 180), (1, .int x1), (2, .int y2), (3, .int y3), (4, .int y4)] [] σ := by
  intro n
  induction n with
  | zero => intro y2 y3 y4 σ h; exact h.elim
  | succ n ih =>
    intro y2 y3 y4 σ h
    refine aw_iload (pc := 12) 4 dX3_topUp_12 rfl ?_
    refine aw_iload_n (pc := 14) 1 dX3_topUp_14 rfl ?_
    refine aw_icmp_ge (pc := 15) 86 dX3_topUp_15 (by decide) (fun q => ?_) (fun q => ?_)
    · have h := h.1 q
      exact aw_vret (pc := 86) rfl dX3_topUp_86 ⟨rfl, h⟩
    · have h := h.2 q
      refine aw_iload_n (pc := 18) 2 dX3_topUp_18 rfl ?_
      refine aw_if_le (pc := 19) 86 dX3_topUp_19 (by decide) (fun q => ?_) (fun q => ?_)
      · have h := h.1 q
        exact aw_vret (pc := 86) rfl dX3_topUp_86 ⟨rfl, h⟩
      · have h := h.2 q
        refine aw_aload_n (pc := 22) 0 dX3_topUp_22 rfl ?_
        refine aw_iload_n (pc := 23) 1 dX3_topUp_23 rfl ?_
        refine aw_iload_n (pc := 24) 3 dX3_topUp_24 rfl ?_
        refine aw_callV (pc := 25) (As := [.int x1, .int y3]) (rest := []) kcX3 nn_180 ki_180 rfl (ev_X3_leastLacking l x1 y3 h) mfX3_leastLacking dX3_topUp_25 lmX3_154 ⟨Nat.le_refl _, Nat.le_refl _⟩ (by decide) rfl rfl (Nat.le_of_ble_eq_true rfl) (nxI (fun r25_ τ25 h => ?_))
        refine aw_istore (pc := 28) [(5, .int r25_), (0, .ref 180), (1, .int x1), (2, .int y2), (3, .int y3), (4, .int y4)] dX3_topUp_28 (by decide) rfl ?_
        refine aw_iload (pc := 30) 0 dX3_topUp_30 rfl ?_
        refine aw_iconst (pc := 32) (-1) dX3_topUp_32 (by decide) ?_
        refine aw_icmp_eq (pc := 33) 80 dX3_topUp_33 (by decide) (fun q => ?_) (fun q => ?_)
        · have h := h.1 q
          obtain ⟨v80, ev80⟩ : ∃ v : Int32, v = y4 + 1 := ⟨_, rfl⟩
          have h := h v80 ev80
          refine aw_iinc (pc := 80) 5 v80 [(4, .int v80), (5, .int r25_), (0, .ref 180), (1, .int x1), (2, .int y2), (3, .int y3)] dX3_topUp_80 rfl (by rw [ev80]; rfl) (by decide) rfl ?_
          refine aw_goto (pc := 83) 12 dX3_topUp_83 (by decide) ?_
          refine aw_sub (L' := [(0, .ref 180), (1, .int x1), (2, .int y2), (3, .int y3), (4, .int v80)]) [2, 3, 4, 5, 0] rfl ?_
          exact ih y2 y3 v80  _ h
        · have h := h.2 q
          refine aw_iload_n (pc := 36) 4 dX3_topUp_36 rfl ?_
          refine aw_iconst (pc := 37) 1 dX3_topUp_37 (by decide) ?_
          refine aw_iload (pc := 38) 0 dX3_topUp_38 rfl ?_
          refine aw_ishl (pc := 40) dX3_topUp_40 ?_
          refine aw_ior (pc := 41) dX3_topUp_41 ?_
          refine aw_topi (fun v42 ev42 => ?_)
          have h := h v42 ev42
          refine aw_istore_n (pc := 42) (i := 3) [(3, .int v42), (5, .int r25_), (0, .ref 180), (1, .int x1), (2, .int y2), (4, .int y4)] dX3_topUp_42 rfl (by decide) rfl ?_
          refine aw_aload_n (pc := 43) 2 dX3_topUp_43 rfl ?_
          refine aw_getR (pc := 44) 0 kcX3 dX3_topUp_44 lfX3_11 nn_180 ki_180 (by decide) rfl rf_180_0 ?_
          refine aw_iload (pc := 47) 1 dX3_topUp_47 rfl ?_
          have hin49 := h.1
          have h := h.2
          refine aw_aldI (pc := 49) dX3_topUp_49 nn_181 ki_181 ln_181 hin49 (rf15 ki_181) ?_
          refine aw_bipush (pc := 50) 9 dX3_topUp_50 (by decide) ?_
          refine aw_iload_n (pc := 52) 4 dX3_topUp_52 rfl ?_
          refine aw_aload_n (pc := 53) 2 dX3_topUp_53 rfl ?_
          refine aw_getR (pc := 54) 0 kcX3 dX3_topUp_54 lfX3_11 nn_180 ki_180 (by decide) rfl rf_180_0 ?_
          refine aw_iload (pc := 57) 1 dX3_topUp_57 rfl ?_
          have hin59 := h.1
          have h := h.2
          refine aw_aldI (pc := 59) dX3_topUp_59 nn_181 ki_181 ln_181 hin59 (rf15 ki_181) ?_
          refine aw_bipush (pc := 60) 8 dX3_topUp_60 (by decide) ?_
          refine aw_iald (pc := 62) (j := 8) dX3_topUp_62 (row_181 _ (vp_lt hin59)).1 (row_181 _ (vp_lt hin59)).2.1 (row_181 _ (vp_lt hin59)).2.2 (show vp_in _ _ by unfold vp_in; decide) (by decide) ?_
          refine aw_mmin (pc := 63) dX3_topUp_63 lmX3_157 lib_min.1 lib_min.2.1 lib_min.2.2 ⟨Nat.le_refl _, Nat.le_refl _⟩ (by decide) (Nat.le_of_ble_eq_true rfl) ?_
          refine aw_iast (pc := 66) (j := 9) (v := (if (τ25 (181 + 1 + r25_.toNatClampNeg) 8) < y2 then (τ25 (181 + 1 + r25_.toNatClampNeg) 8) else y2)) dX3_topUp_66 (row_181 _ (vp_lt hin49)).1 (row_181 _ (vp_lt hin49)).2.1 (row_181 _ (vp_lt hin49)).2.2 (show vp_in _ _ by unfold vp_in; decide) (by decide) rfl ?_
          refine aw_tops (fun τ66 eτ66 => ?_)
          have h := h τ66 eτ66
          refine aw_iload_n (pc := 67) 4 dX3_topUp_67 rfl ?_
          refine aw_aload_n (pc := 68) 2 dX3_topUp_68 rfl ?_
          refine aw_getR (pc := 69) 0 kcX3 dX3_topUp_69 lfX3_11 nn_180 ki_180 (by decide) rfl rf_180_0 ?_
          refine aw_iload (pc := 72) 1 dX3_topUp_72 rfl ?_
          have hin74 := h.1
          have h := h.2
          refine aw_aldI (pc := 74) dX3_topUp_74 nn_181 ki_181 ln_181 hin74 (rf15 ki_181) ?_
          refine aw_bipush (pc := 75) 9 dX3_topUp_75 (by decide) ?_
          refine aw_iald (pc := 77) (j := 9) dX3_topUp_77 (row_181 _ (vp_lt hin74)).1 (row_181 _ (vp_lt hin74)).2.1 (row_181 _ (vp_lt hin74)).2.2 (show vp_in _ _ by unfold vp_in; decide) (by decide) ?_
          refine aw_isub (pc := 78) dX3_topUp_78 ?_
          refine aw_topi (fun v79 ev79 => ?_)
          have h := h v79 ev79
          refine aw_istore_n (pc := 79) (i := 2) [(2, .int v79), (3, .int v42), (5, .int r25_), (0, .ref 180), (1, .int x1), (4, .int y4)] dX3_topUp_79 rfl (by decide) rfl ?_
          obtain ⟨v80, ev80⟩ : ∃ v : Int32, v = y4 + 1 := ⟨_, rfl⟩
          have h := h v80 ev80
          refine aw_iinc (pc := 80) 5 v80 [(4, .int v80), (2, .int v79), (3, .int v42), (5, .int r25_), (0, .ref 180), (1, .int x1)] dX3_topUp_80 rfl (by rw [ev80]; rfl) (by decide) rfl ?_
          refine aw_goto (pc := 83) 12 dX3_topUp_83 (by decide) ?_
          refine aw_sub (L' := [(0, .ref 180), (1, .int x1), (2, .int v79), (3, .int v42), (4, .int v80)]) [4, 5, 1, 2, 0] rfl ?_
          exact ih v79 v42 v80  _ h
def wp_X3_topUp (x1 : Int32) (σ : Sg) (K : Sg → Prop) : Prop :=
  ∀ v6 : Int32, v6 = σ 226 5 → (∃ nf, b_X3_topUp_12 x1  K nf v6 0 0 σ)
set_option maxRecDepth 20000 in
set_option maxHeartbeats 2000000 in
theorem ev_X3_topUp (l : Launch) (x1 : Int32) {σ : Sg} {K : Sg → Prop} (h : wp_X3_topUp x1 σ K) : Ev l yX3_topUp cX3_topUp 6 none 1 [.ref 180, .int x1] σ (qV K) := by
  refine ev_ov (by decide) (Nat.le_of_ble_eq_true rfl) ?_
  show AV l RX3 cX3_topUp 6 none 1 (qV K) 0 [(0, .ref 180), (1, .int x1)] [] σ
  refine aw_aload_n (pc := 0) 0 dX3_topUp_0 rfl ?_
  refine aw_getR (pc := 1) 5 kcX3 dX3_topUp_1 lfX3_29 nn_180 ki_180 (by decide) rfl rf_180_5 ?_
  refine aw_iconst (pc := 4) 5 dX3_topUp_4 (by decide) ?_
  refine aw_iald (pc := 5) (j := 5) dX3_topUp_5 nn_226 ki_226 ln_226 (show vp_in _ _ by unfold vp_in; decide) (by decide) ?_
  refine aw_topi (fun v6 ev6 => ?_)
  have h := h v6 ev6
  refine aw_istore_n (pc := 6) (i := 2) [(2, .int v6), (0, .ref 180), (1, .int x1)] dX3_topUp_6 rfl (by decide) rfl ?_
  refine aw_iconst (pc := 7) 0 dX3_topUp_7 (by decide) ?_
  refine aw_istore_n (pc := 8) (i := 3) [(3, .int 0), (2, .int v6), (0, .ref 180), (1, .int x1)] dX3_topUp_8 rfl (by decide) rfl ?_
  refine aw_iconst (pc := 9) 0 dX3_topUp_9 (by decide) ?_
  refine aw_istore (pc := 10) [(4, .int 0), (3, .int 0), (2, .int v6), (0, .ref 180), (1, .int x1)] dX3_topUp_10 (by decide) rfl ?_
  refine aw_sub (L' := [(0, .ref 180), (1, .int x1), (2, .int v6), (3, .int 0), (4, .int 0)]) [3, 4, 2, 1, 0] rfl ?_
  obtain ⟨nf, h⟩ := h
  exact bt_X3_topUp_12 l x1   nf v6 0 0  _ h
def b_X3_reckonAll_90   (K : Sg → Prop) : Nat → Int32 → Sg → Prop
  | 0, _, _ => False
  | n + 1, y4, σ =>
  br ((σ 3 0) ≤ y4) (vp_in (σ 3 0) 13 ∧ (∀ τ133 : Sg, τ133 = up σ 225 (σ 3 0).toNatClampNeg ((σ 226 3) - (σ 226 4)) → (wp_X3_topUp (τ133 3 0) τ133 <| fun τ139 => (∀ τ144 : Sg, τ144 = up τ139 180 6 1 → (K τ144))))) (wp_X3_sumUp y4 σ <| fun τ103 => (∀ v106 : Int32, v106 = y4 + 1 → (b_X3_reckonAll_90   K n v106 τ103)))
set_option maxRecDepth 20000 in
set_option maxHeartbeats 2000000 in
theorem bt_X3_reckonAll_90 (l : Launch)  {K : Sg → Prop}   : ∀ (n : Nat) (y4 : Int32)  (σ : Sg), b_X3_reckonAll_90   K n y4 σ → AV l RX3 cX3_reckonAll 6 none 5 (qV K) 90 [(0, .ref 180), (1, .ref 3), (4, .int y4)] [] σ := by
  intro n
  induction n with
  | zero => intro y4 σ h; exact h.elim
  | succ n ih =>
    intro y4 σ h
    refine aw_iload (pc := 90) 2 dX3_reckonAll_90 rfl ?_
    refine aw_aload_n (pc := 92) 1 dX3_reckonAll_92 rfl ?_
    refine aw_getIN (pc := 93) 0 kcX5 dX3_reckonAll_93 lfnX3_61 nn_3 ki_3 (by decide) rfl ?_
    refine aw_icmp_ge (pc := 96) 112 dX3_reckonAll_96 (by decide) (fun q => ?_) (fun q => ?_)
    · have h := h.1 q
      refine aw_aload_n (pc := 112) 0 dX3_reckonAll_112 rfl ?_
      refine aw_getR (pc := 113) 4 kcX3 dX3_reckonAll_113 lfX3_26 nn_180 ki_180 (by decide) rfl rf_180_4 ?_
      refine aw_aload_n (pc := 116) 1 dX3_reckonAll_116 rfl ?_
      refine aw_getIN (pc := 117) 0 kcX5 dX3_reckonAll_117 lfnX3_61 nn_3 ki_3 (by decide) rfl ?_
      refine aw_aload_n (pc := 120) 0 dX3_reckonAll_120 rfl ?_
      refine aw_getR (pc := 121) 5 kcX3 dX3_reckonAll_121 lfX3_29 nn_180 ki_180 (by decide) rfl rf_180_5 ?_
      refine aw_iconst (pc := 124) 3 dX3_reckonAll_124 (by decide) ?_
      refine aw_iald (pc := 125) (j := 3) dX3_reckonAll_125 nn_226 ki_226 ln_226 (show vp_in _ _ by unfold vp_in; decide) (by decide) ?_
      refine aw_aload_n (pc := 126) 0 dX3_reckonAll_126 rfl ?_
      refine aw_getR (pc := 127) 5 kcX3 dX3_reckonAll_127 lfX3_29 nn_180 ki_180 (by decide) rfl rf_180_5 ?_
      refine aw_iconst (pc := 130) 4 dX3_reckonAll_130 (by decide) ?_
      refine aw_iald (pc := 131) (j := 4) dX3_reckonAll_131 nn_226 ki_226 ln_226 (show vp_in _ _ by unfold vp_in; decide) (by decide) ?_
      refine aw_isub (pc := 132) dX3_reckonAll_132 ?_
      refine aw_iast (pc := 133) (j := (σ 3 0).toNatClampNeg) (v := ((σ 226 3) - (σ 226 4))) dX3_reckonAll_133 nn_225 ki_225 ln_225 h.1 rfl rfl ?_
      have h := h.2
      refine aw_tops (fun τ133 eτ133 => ?_)
      have h := h τ133 eτ133
      refine aw_aload_n (pc := 134) 0 dX3_reckonAll_134 rfl ?_
      refine aw_aload_n (pc := 135) 1 dX3_reckonAll_135 rfl ?_
      refine aw_getIN (pc := 136) 0 kcX5 dX3_reckonAll_136 lfnX3_61 nn_3 ki_3 (by decide) rfl ?_
      refine aw_callV (pc := 139) (As := [.int (τ133 3 0)]) (rest := []) kcX3 nn_180 ki_180 rfl (ev_X3_topUp l (τ133 3 0) h) mfX3_topUp dX3_reckonAll_139 lmX3_68 ⟨Nat.le_refl _, Nat.le_refl _⟩ (by decide) rfl rfl (Nat.le_of_ble_eq_true rfl) (nxV (fun τ139 h => ?_))
      refine aw_aload_n (pc := 142) 0 dX3_reckonAll_142 rfl ?_
      refine aw_iconst (pc := 143) 1 dX3_reckonAll_143 (by decide) ?_
      refine aw_put (pc := 144) 6 kcX3 dX3_reckonAll_144 lfX3_72 nn_180 ki_180 (by decide) rfl rfl rfl rfl ?_
      refine aw_tops (fun τ144 eτ144 => ?_)
      have h := h τ144 eτ144
      exact aw_vret (pc := 147) rfl dX3_reckonAll_147 ⟨rfl, h⟩
    · have h := h.2 q
      refine aw_aload_n (pc := 99) 0 dX3_reckonAll_99 rfl ?_
      refine aw_aload_n (pc := 100) 1 dX3_reckonAll_100 rfl ?_
      refine aw_iload (pc := 101) 2 dX3_reckonAll_101 rfl ?_
      refine aw_callV (pc := 103) (As := [.ref 3, .int y4]) (rest := []) kcX3 nn_180 ki_180 rfl (ev_X3_sumUp l y4 h) mfX3_sumUp dX3_reckonAll_103 lmX3_64 ⟨Nat.le_refl _, Nat.le_refl _⟩ (by decide) rfl rfl (Nat.le_of_ble_eq_true rfl) (nxV (fun τ103 h => ?_))
      obtain ⟨v106, ev106⟩ : ∃ v : Int32, v = y4 + 1 := ⟨_, rfl⟩
      have h := h v106 ev106
      refine aw_iinc (pc := 106) 2 v106 [(4, .int v106), (0, .ref 180), (1, .ref 3)] dX3_reckonAll_106 rfl (by rw [ev106]; rfl) (by decide) rfl ?_
      refine aw_goto (pc := 109) 90 dX3_reckonAll_109 (by decide) ?_
      refine aw_sub (L' := [(0, .ref 180), (1, .ref 3), (4, .int v106)]) [1, 2, 0] rfl ?_
      exact ih v106  _ h
def b_X3_reckonAll_64   (K : Sg → Prop) : Nat → Int32 → Sg → Prop
  | 0, _, _ => False
  | n + 1, y4, σ =>
  br ((σ 3 1) ≤ y4) (∃ nf, b_X3_reckonAll_90   K nf 0 σ) (wp_X3_settlePools y4 σ <| fun τ78 => (∀ v81 : Int32, v81 = y4 + 1 → (b_X3_reckonAll_64   K n v81 τ78)))
set_option maxRecDepth 20000 in
set_option maxHeartbeats 2000000 in
theorem bt_X3_reckonAll_64 (l : Launch)  {K : Sg → Prop}   : ∀ (n : Nat) (y4 : Int32)  (σ : Sg), b_X3_reckonAll_64   K n y4 σ → AV l RX3 cX3_reckonAll 6 none 5 (qV K) 64 [(0, .ref 180), (1, .ref 3), (2, .ref 55), (4, .int y4)] [] σ := by
  intro n
  induction n with
  | zero => intro y4 σ h; exact h.elim
  | succ n ih =>
    intro y4 σ h
    refine aw_iload (pc := 64) 3 dX3_reckonAll_64 rfl ?_
    refine aw_aload_n (pc := 66) 1 dX3_reckonAll_66 rfl ?_
    refine aw_getIN (pc := 67) 1 kcX5 dX3_reckonAll_67 lfnX3_52 nn_3 ki_3 (by decide) rfl ?_
    refine aw_icmp_ge (pc := 70) 87 dX3_reckonAll_70 (by decide) (fun q => ?_) (fun q => ?_)
    · have h := h.1 q
      refine aw_iconst (pc := 87) 0 dX3_reckonAll_87 (by decide) ?_
      refine aw_istore (pc := 88) [(4, .int 0), (0, .ref 180), (1, .ref 3), (2, .ref 55)] dX3_reckonAll_88 (by decide) rfl ?_
      refine aw_sub (L' := [(0, .ref 180), (1, .ref 3), (4, .int 0)]) [1, 2, 0] rfl ?_
      obtain ⟨nf, h⟩ := h
      exact bt_X3_reckonAll_90 l    nf 0  _ h
    · have h := h.2 q
      refine aw_aload_n (pc := 73) 0 dX3_reckonAll_73 rfl ?_
      refine aw_aload_n (pc := 74) 1 dX3_reckonAll_74 rfl ?_
      refine aw_aload_n (pc := 75) 2 dX3_reckonAll_75 rfl ?_
      refine aw_iload (pc := 76) 3 dX3_reckonAll_76 rfl ?_
      refine aw_callV (pc := 78) (As := [.ref 3, .ref 55, .int y4]) (rest := []) kcX3 nn_180 ki_180 rfl (ev_X3_settlePools l y4 h) mfX3_settlePools dX3_reckonAll_78 lmX3_57 ⟨Nat.le_refl _, Nat.le_refl _⟩ (by decide) rfl rfl (Nat.le_of_ble_eq_true rfl) (nxV (fun τ78 h => ?_))
      obtain ⟨v81, ev81⟩ : ∃ v : Int32, v = y4 + 1 := ⟨_, rfl⟩
      have h := h v81 ev81
      refine aw_iinc (pc := 81) 3 v81 [(4, .int v81), (0, .ref 180), (1, .ref 3), (2, .ref 55)] dX3_reckonAll_81 rfl (by rw [ev81]; rfl) (by decide) rfl ?_
      refine aw_goto (pc := 84) 64 dX3_reckonAll_84 (by decide) ?_
      refine aw_sub (L' := [(0, .ref 180), (1, .ref 3), (2, .ref 55), (4, .int v81)]) [1, 2, 3, 0] rfl ?_
      exact ih v81  _ h
def b_X3_reckonAll_26  (B7 : Int32 → Sg → Prop) (K : Sg → Prop) : Nat → Int32 → Int32 → Sg → Prop
  | 0, _, _, _ => False
  | n + 1, y4, y5, σ =>
  vp_in y4 30 ∧ (br ((σ 60 y4.toNatClampNeg) ≤ y5) (∀ v55 : Int32, v55 = y4 + 1 → (B7 v55 σ)) (wp_X3_enterGame y4 y5 σ <| fun τ46 => (∀ v49 : Int32, v49 = y5 + 1 → (b_X3_reckonAll_26  B7 K n y4 v49 τ46))))
set_option maxRecDepth 20000 in
set_option maxHeartbeats 2000000 in
theorem bt_X3_reckonAll_26 (l : Launch)  {K : Sg → Prop} (B7 : Int32 → Sg → Prop) (hB7 : ∀ (y4 : Int32)  (τ : Sg), B7 y4 τ → AV l RX3 cX3_reckonAll 6 none 5 (qV K) 7 [(0, .ref 180), (1, .ref 3), (2, .ref 55), (3, .ref 179), (4, .int y4)] [] τ) : ∀ (n : Nat) (y4 : Int32) (y5 : Int32)  (σ : Sg), b_X3_reckonAll_26  B7 K n y4 y5 σ → AV l RX3 cX3_reckonAll 6 none 5 (qV K) 26 [(0, .ref 180), (1, .ref 3), (2, .ref 55), (3, .ref 179), (4, .int y4), (5, .int y5)] [] σ := by
  intro n
  induction n with
  | zero => intro y4 y5 σ h; exact h.elim
  | succ n ih =>
    intro y4 y5 σ h
    refine aw_iload (pc := 26) 5 dX3_reckonAll_26 rfl ?_
    refine aw_aload_n (pc := 28) 2 dX3_reckonAll_28 rfl ?_
    refine aw_getRN (pc := 29) 6 kcX6 dX3_reckonAll_29 lfnX3_45 nn_55 ki_55 (by decide) rfl rf_55_6 ?_
    refine aw_iload (pc := 32) 4 dX3_reckonAll_32 rfl ?_
    refine aw_iald (pc := 34) (j := y4.toNatClampNeg) dX3_reckonAll_34 nn_60 ki_60 ln_60 h.1 rfl ?_
    have h := h.2
    refine aw_icmp_ge (pc := 35) 55 dX3_reckonAll_35 (by decide) (fun q => ?_) (fun q => ?_)
    · have h := h.1 q
      obtain ⟨v55, ev55⟩ : ∃ v : Int32, v = y4 + 1 := ⟨_, rfl⟩
      have h := h v55 ev55
      refine aw_iinc (pc := 55) 4 v55 [(4, .int v55), (0, .ref 180), (1, .ref 3), (2, .ref 55), (3, .ref 179), (5, .int y5)] dX3_reckonAll_55 rfl (by rw [ev55]; rfl) (by decide) rfl ?_
      refine aw_goto (pc := 58) 7 dX3_reckonAll_58 (by decide) ?_
      refine aw_sub (L' := [(0, .ref 180), (1, .ref 3), (2, .ref 55), (3, .ref 179), (4, .int v55)]) [1, 2, 3, 4, 0] rfl ?_
      exact hB7 v55  _ h
    · have h := h.2 q
      refine aw_aload_n (pc := 38) 0 dX3_reckonAll_38 rfl ?_
      refine aw_aload_n (pc := 39) 1 dX3_reckonAll_39 rfl ?_
      refine aw_aload_n (pc := 40) 2 dX3_reckonAll_40 rfl ?_
      refine aw_aload_n (pc := 41) 3 dX3_reckonAll_41 rfl ?_
      refine aw_iload (pc := 42) 4 dX3_reckonAll_42 rfl ?_
      refine aw_iload (pc := 44) 5 dX3_reckonAll_44 rfl ?_
      refine aw_callV (pc := 46) (As := [.ref 3, .ref 55, .ref 179, .int y4, .int y5]) (rest := []) kcX3 nn_180 ki_180 rfl (ev_X3_enterGame l y4 y5 h) mfX3_enterGame dX3_reckonAll_46 lmX3_48 ⟨Nat.le_refl _, Nat.le_refl _⟩ (by decide) rfl rfl (Nat.le_of_ble_eq_true rfl) (nxV (fun τ46 h => ?_))
      obtain ⟨v49, ev49⟩ : ∃ v : Int32, v = y5 + 1 := ⟨_, rfl⟩
      have h := h v49 ev49
      refine aw_iinc (pc := 49) 5 v49 [(5, .int v49), (0, .ref 180), (1, .ref 3), (2, .ref 55), (3, .ref 179), (4, .int y4)] dX3_reckonAll_49 rfl (by rw [ev49]; rfl) (by decide) rfl ?_
      refine aw_goto (pc := 52) 26 dX3_reckonAll_52 (by decide) ?_
      refine aw_sub (L' := [(0, .ref 180), (1, .ref 3), (2, .ref 55), (3, .ref 179), (4, .int y4), (5, .int v49)]) [1, 2, 3, 4, 5, 0] rfl ?_
      exact ih y4 v49  _ h
def b_X3_reckonAll_7   (K : Sg → Prop) : Nat → Int32 → Sg → Prop
  | 0, _, _ => False
  | n + 1, y4, σ =>
  br ((σ 55 0) ≤ y4) (∃ nf, b_X3_reckonAll_64   K nf 0 σ) (wp_X3_enterTie y4 σ <| fun τ20 => (∃ nf, b_X3_reckonAll_26  (fun y4' τ => b_X3_reckonAll_7   K n y4' τ) K nf y4 0 τ20))
set_option maxRecDepth 20000 in
set_option maxHeartbeats 2000000 in
theorem bt_X3_reckonAll_7 (l : Launch)  {K : Sg → Prop}   : ∀ (n : Nat) (y4 : Int32)  (σ : Sg), b_X3_reckonAll_7   K n y4 σ → AV l RX3 cX3_reckonAll 6 none 5 (qV K) 7 [(0, .ref 180), (1, .ref 3), (2, .ref 55), (3, .ref 179), (4, .int y4)] [] σ := by
  intro n
  induction n with
  | zero => intro y4 σ h; exact h.elim
  | succ n ih =>
    intro y4 σ h
    refine aw_iload (pc := 7) 4 dX3_reckonAll_7 rfl ?_
    refine aw_aload_n (pc := 9) 2 dX3_reckonAll_9 rfl ?_
    refine aw_getIN (pc := 10) 0 kcX6 dX3_reckonAll_10 lfnX3_35 nn_55 ki_55 (by decide) rfl ?_
    refine aw_icmp_ge (pc := 13) 61 dX3_reckonAll_13 (by decide) (fun q => ?_) (fun q => ?_)
    · have h := h.1 q
      refine aw_iconst (pc := 61) 0 dX3_reckonAll_61 (by decide) ?_
      refine aw_istore (pc := 62) [(4, .int 0), (0, .ref 180), (1, .ref 3), (2, .ref 55), (3, .ref 179)] dX3_reckonAll_62 (by decide) rfl ?_
      refine aw_sub (L' := [(0, .ref 180), (1, .ref 3), (2, .ref 55), (4, .int 0)]) [1, 2, 3, 0] rfl ?_
      obtain ⟨nf, h⟩ := h
      exact bt_X3_reckonAll_64 l    nf 0  _ h
    · have h := h.2 q
      refine aw_aload_n (pc := 16) 0 dX3_reckonAll_16 rfl ?_
      refine aw_aload_n (pc := 17) 2 dX3_reckonAll_17 rfl ?_
      refine aw_iload (pc := 18) 4 dX3_reckonAll_18 rfl ?_
      refine aw_callV (pc := 20) (As := [.ref 55, .int y4]) (rest := []) kcX3 nn_180 ki_180 rfl (ev_X3_enterTie l y4 h) mfX3_enterTie dX3_reckonAll_20 lmX3_41 ⟨Nat.le_refl _, Nat.le_refl _⟩ (by decide) rfl rfl (Nat.le_of_ble_eq_true rfl) (nxV (fun τ20 h => ?_))
      refine aw_iconst (pc := 23) 0 dX3_reckonAll_23 (by decide) ?_
      refine aw_istore (pc := 24) [(5, .int 0), (0, .ref 180), (1, .ref 3), (2, .ref 55), (3, .ref 179), (4, .int y4)] dX3_reckonAll_24 (by decide) rfl ?_
      refine aw_sub (L' := [(0, .ref 180), (1, .ref 3), (2, .ref 55), (3, .ref 179), (4, .int y4), (5, .int 0)]) [1, 2, 3, 4, 5, 0] rfl ?_
      obtain ⟨nf, h⟩ := h
      exact bt_X3_reckonAll_26 l  (fun y4' τ => b_X3_reckonAll_7   K n y4' τ) (fun y4' τ h => ih y4' τ h) nf y4 0  _ h
def wp_X3_reckonAll  (σ : Sg) (K : Sg → Prop) : Prop :=
  wp_X3_clear  σ <| fun τ1 => (∃ nf, b_X3_reckonAll_7   K nf 0 τ1)
set_option maxRecDepth 20000 in
set_option maxHeartbeats 2000000 in
theorem ev_X3_reckonAll (l : Launch)  {σ : Sg} {K : Sg → Prop} (h : wp_X3_reckonAll  σ K) : Ev l yX3_reckonAll cX3_reckonAll 6 none 5 [.ref 180, .ref 3, .ref 55, .ref 179] σ (qV K) := by
  refine ev_ov (by decide) (Nat.le_of_ble_eq_true rfl) ?_
  show AV l RX3 cX3_reckonAll 6 none 5 (qV K) 0 [(0, .ref 180), (1, .ref 3), (2, .ref 55), (3, .ref 179)] [] σ
  refine aw_aload_n (pc := 0) 0 dX3_reckonAll_0 rfl ?_
  refine aw_callV (pc := 1) (As := []) (rest := []) kcX3 nn_180 ki_180 rfl (ev_X3_clear l  h) mfX3_clear dX3_reckonAll_1 lmX3_32 ⟨Nat.le_refl _, Nat.le_refl _⟩ (by decide) rfl rfl (Nat.le_of_ble_eq_true rfl) (nxV (fun τ1 h => ?_))
  refine aw_iconst (pc := 4) 0 dX3_reckonAll_4 (by decide) ?_
  refine aw_istore (pc := 5) [(4, .int 0), (0, .ref 180), (1, .ref 3), (2, .ref 55), (3, .ref 179)] dX3_reckonAll_5 (by decide) rfl ?_
  refine aw_sub (L' := [(0, .ref 180), (1, .ref 3), (2, .ref 55), (3, .ref 179), (4, .int 0)]) [1, 2, 3, 4, 0] rfl ?_
  obtain ⟨nf, h⟩ := h
  exact bt_X3_reckonAll_7 l    nf 0  _ h
def b_X3_allLacks_4 (x1 : Int32)  (K : Int32 → Sg → Prop) : Nat → Int32 → Int32 → Sg → Prop
  | 0, _, _, _ => False
  | n + 1, y2, y3, σ =>
  br (x1 ≤ y3) (K y2 σ) (vp_in y3 12 ∧ (∀ v20 : Int32, v20 = y2 + (σ (181 + 1 + y3.toNatClampNeg) 8) → (∀ v21 : Int32, v21 = y3 + 1 → (b_X3_allLacks_4 x1  K n v20 v21 σ))))
set_option maxRecDepth 20000 in
set_option maxHeartbeats 2000000 in
theorem bt_X3_allLacks_4 (l : Launch) (x1 : Int32) {K : Int32 → Sg → Prop}   : ∀ (n : Nat) (y2 : Int32) (y3 : Int32)  (σ : Sg), b_X3_allLacks_4 x1  K n y2 y3 σ → AV l RX3 cX3_allLacks 4 (some .int) 0 (qI K) 4 [(0, .ref 180), (1, .int x1), (2, .int y2), (3, .int y3)] [] σ := by
  intro n
  induction n with
  | zero => intro y2 y3 σ h; exact h.elim
  | succ n ih =>
    intro y2 y3 σ h
    refine aw_iload_n (pc := 4) 3 dX3_allLacks_4 rfl ?_
    refine aw_iload_n (pc := 5) 1 dX3_allLacks_5 rfl ?_
    refine aw_icmp_ge (pc := 6) 27 dX3_allLacks_6 (by decide) (fun q => ?_) (fun q => ?_)
    · have h := h.1 q
      refine aw_iload_n (pc := 27) 2 dX3_allLacks_27 rfl ?_
      exact aw_iret (pc := 28) rfl dX3_allLacks_28 ⟨_, rfl, h⟩
    · have h := h.2 q
      refine aw_iload_n (pc := 9) 2 dX3_allLacks_9 rfl ?_
      refine aw_aload_n (pc := 10) 0 dX3_allLacks_10 rfl ?_
      refine aw_getR (pc := 11) 0 kcX3 dX3_allLacks_11 lfX3_11 nn_180 ki_180 (by decide) rfl rf_180_0 ?_
      refine aw_iload_n (pc := 14) 3 dX3_allLacks_14 rfl ?_
      have hin15 := h.1
      have h := h.2
      refine aw_aldI (pc := 15) dX3_allLacks_15 nn_181 ki_181 ln_181 hin15 (rf15 ki_181) ?_
      refine aw_bipush (pc := 16) 8 dX3_allLacks_16 (by decide) ?_
      refine aw_iald (pc := 18) (j := 8) dX3_allLacks_18 (row_181 _ (vp_lt hin15)).1 (row_181 _ (vp_lt hin15)).2.1 (row_181 _ (vp_lt hin15)).2.2 (show vp_in _ _ by unfold vp_in; decide) (by decide) ?_
      refine aw_iadd (pc := 19) dX3_allLacks_19 ?_
      refine aw_topi (fun v20 ev20 => ?_)
      have h := h v20 ev20
      refine aw_istore_n (pc := 20) (i := 2) [(2, .int v20), (0, .ref 180), (1, .int x1), (3, .int y3)] dX3_allLacks_20 rfl (by decide) rfl ?_
      obtain ⟨v21, ev21⟩ : ∃ v : Int32, v = y3 + 1 := ⟨_, rfl⟩
      have h := h v21 ev21
      refine aw_iinc (pc := 21) 3 v21 [(3, .int v21), (2, .int v20), (0, .ref 180), (1, .int x1)] dX3_allLacks_21 rfl (by rw [ev21]; rfl) (by decide) rfl ?_
      refine aw_goto (pc := 24) 4 dX3_allLacks_24 (by decide) ?_
      refine aw_sub (L' := [(0, .ref 180), (1, .int x1), (2, .int v20), (3, .int v21)]) [2, 3, 1, 0] rfl ?_
      exact ih v20 v21  _ h
def wp_X3_allLacks (x1 : Int32) (σ : Sg) (K : Int32 → Sg → Prop) : Prop :=
  ∃ nf, b_X3_allLacks_4 x1  K nf 0 0 σ
set_option maxRecDepth 20000 in
set_option maxHeartbeats 2000000 in
theorem ev_X3_allLacks (l : Launch) (x1 : Int32) {σ : Sg} {K : Int32 → Sg → Prop} (h : wp_X3_allLacks x1 σ K) : Ev l yX3_allLacks cX3_allLacks 4 (some .int) 0 [.ref 180, .int x1] σ (qI K) := by
  refine ev_ov (by decide) (Nat.le_of_ble_eq_true rfl) ?_
  show AV l RX3 cX3_allLacks 4 (some .int) 0 (qI K) 0 [(0, .ref 180), (1, .int x1)] [] σ
  refine aw_iconst (pc := 0) 0 dX3_allLacks_0 (by decide) ?_
  refine aw_istore_n (pc := 1) (i := 2) [(2, .int 0), (0, .ref 180), (1, .int x1)] dX3_allLacks_1 rfl (by decide) rfl ?_
  refine aw_iconst (pc := 2) 0 dX3_allLacks_2 (by decide) ?_
  refine aw_istore_n (pc := 3) (i := 3) [(3, .int 0), (2, .int 0), (0, .ref 180), (1, .int x1)] dX3_allLacks_3 rfl (by decide) rfl ?_
  refine aw_sub (L' := [(0, .ref 180), (1, .int x1), (2, .int 0), (3, .int 0)]) [2, 3, 1, 0] rfl ?_
  obtain ⟨nf, h⟩ := h
  exact bt_X3_allLacks_4 l x1   nf 0 0  _ h
def b_X3_rankOf_5 (x1 : Int32) (x2 : Int32)  (K : Int32 → Sg → Prop) : Nat → Int32 → Int32 → Sg → Prop
  | 0, _, _, _ => False
  | n + 1, y3, y4, σ =>
  br (x2 ≤ y4) (K y3 σ) (vp_in y4 12 ∧ (vp_in x1 12 ∧ (∀ v29 : Int32, v29 = (σ (181 + 1 + y4.toNatClampNeg) 3) - (σ (181 + 1 + x1.toNatClampNeg) 3) → (br (0 < v29) (∀ v47 : Int32, v47 = y3 + 1 → (∀ v50 : Int32, v50 = y4 + 1 → (b_X3_rankOf_5 x1 x2  K n v47 v50 σ))) (br (v29 = 0) (br (x1 ≤ y4) (∀ v50 : Int32, v50 = y4 + 1 → (b_X3_rankOf_5 x1 x2  K n y3 v50 σ)) (∀ v47 : Int32, v47 = y3 + 1 → (∀ v50 : Int32, v50 = y4 + 1 → (b_X3_rankOf_5 x1 x2  K n v47 v50 σ)))) (∀ v50 : Int32, v50 = y4 + 1 → (b_X3_rankOf_5 x1 x2  K n y3 v50 σ)))))))
set_option maxRecDepth 20000 in
set_option maxHeartbeats 2000000 in
theorem bt_X3_rankOf_5 (l : Launch) (x1 : Int32) (x2 : Int32) {K : Int32 → Sg → Prop}   : ∀ (n : Nat) (y3 : Int32) (y4 : Int32)  (σ : Sg), b_X3_rankOf_5 x1 x2  K n y3 y4 σ → AV l RX3 cX3_rankOf 6 (some .int) 0 (qI K) 5 [(0, .ref 180), (1, .int x1), (2, .int x2), (3, .int y3), (4, .int y4)] [] σ := by
  intro n
  induction n with
  | zero => intro y3 y4 σ h; exact h.elim
  | succ n ih =>
    intro y3 y4 σ h
    refine aw_iload (pc := 5) 4 dX3_rankOf_5 rfl ?_
    refine aw_iload_n (pc := 7) 2 dX3_rankOf_7 rfl ?_
    refine aw_icmp_ge (pc := 8) 56 dX3_rankOf_8 (by decide) (fun q => ?_) (fun q => ?_)
    · have h := h.1 q
      refine aw_iload_n (pc := 56) 3 dX3_rankOf_56 rfl ?_
      exact aw_iret (pc := 57) rfl dX3_rankOf_57 ⟨_, rfl, h⟩
    · have h := h.2 q
      refine aw_aload_n (pc := 11) 0 dX3_rankOf_11 rfl ?_
      refine aw_getR (pc := 12) 0 kcX3 dX3_rankOf_12 lfX3_11 nn_180 ki_180 (by decide) rfl rf_180_0 ?_
      refine aw_iload (pc := 15) 4 dX3_rankOf_15 rfl ?_
      have hin17 := h.1
      have h := h.2
      refine aw_aldI (pc := 17) dX3_rankOf_17 nn_181 ki_181 ln_181 hin17 (rf15 ki_181) ?_
      refine aw_iconst (pc := 18) 3 dX3_rankOf_18 (by decide) ?_
      refine aw_iald (pc := 19) (j := 3) dX3_rankOf_19 (row_181 _ (vp_lt hin17)).1 (row_181 _ (vp_lt hin17)).2.1 (row_181 _ (vp_lt hin17)).2.2 (show vp_in _ _ by unfold vp_in; decide) (by decide) ?_
      refine aw_aload_n (pc := 20) 0 dX3_rankOf_20 rfl ?_
      refine aw_getR (pc := 21) 0 kcX3 dX3_rankOf_21 lfX3_11 nn_180 ki_180 (by decide) rfl rf_180_0 ?_
      refine aw_iload_n (pc := 24) 1 dX3_rankOf_24 rfl ?_
      have hin25 := h.1
      have h := h.2
      refine aw_aldI (pc := 25) dX3_rankOf_25 nn_181 ki_181 ln_181 hin25 (rf15 ki_181) ?_
      refine aw_iconst (pc := 26) 3 dX3_rankOf_26 (by decide) ?_
      refine aw_iald (pc := 27) (j := 3) dX3_rankOf_27 (row_181 _ (vp_lt hin25)).1 (row_181 _ (vp_lt hin25)).2.1 (row_181 _ (vp_lt hin25)).2.2 (show vp_in _ _ by unfold vp_in; decide) (by decide) ?_
      refine aw_isub (pc := 28) dX3_rankOf_28 ?_
      refine aw_topi (fun v29 ev29 => ?_)
      have h := h v29 ev29
      refine aw_istore (pc := 29) [(5, .int v29), (0, .ref 180), (1, .int x1), (2, .int x2), (3, .int y3), (4, .int y4)] dX3_rankOf_29 (by decide) rfl ?_
      refine aw_iload (pc := 31) 0 dX3_rankOf_31 rfl ?_
      refine aw_if_gt (pc := 33) 47 dX3_rankOf_33 (by decide) (fun q => ?_) (fun q => ?_)
      · have h := h.1 q
        obtain ⟨v47, ev47⟩ : ∃ v : Int32, v = y3 + 1 := ⟨_, rfl⟩
        have h := h v47 ev47
        refine aw_iinc (pc := 47) 4 v47 [(3, .int v47), (5, .int v29), (0, .ref 180), (1, .int x1), (2, .int x2), (4, .int y4)] dX3_rankOf_47 rfl (by rw [ev47]; rfl) (by decide) rfl ?_
        obtain ⟨v50, ev50⟩ : ∃ v : Int32, v = y4 + 1 := ⟨_, rfl⟩
        have h := h v50 ev50
        refine aw_iinc (pc := 50) 5 v50 [(4, .int v50), (3, .int v47), (5, .int v29), (0, .ref 180), (1, .int x1), (2, .int x2)] dX3_rankOf_50 rfl (by rw [ev50]; rfl) (by decide) rfl ?_
        refine aw_goto (pc := 53) 5 dX3_rankOf_53 (by decide) ?_
        refine aw_sub (L' := [(0, .ref 180), (1, .int x1), (2, .int x2), (3, .int v47), (4, .int v50)]) [3, 4, 5, 1, 0] rfl ?_
        exact ih v47 v50  _ h
      · have h := h.2 q
        refine aw_iload (pc := 36) 0 dX3_rankOf_36 rfl ?_
        refine aw_if_ne (pc := 38) 50 dX3_rankOf_38 (by decide) (fun q => ?_) (fun q => ?_)
        · have h := h.2 q
          obtain ⟨v50, ev50⟩ : ∃ v : Int32, v = y4 + 1 := ⟨_, rfl⟩
          have h := h v50 ev50
          refine aw_iinc (pc := 50) 5 v50 [(4, .int v50), (5, .int v29), (0, .ref 180), (1, .int x1), (2, .int x2), (3, .int y3)] dX3_rankOf_50 rfl (by rw [ev50]; rfl) (by decide) rfl ?_
          refine aw_goto (pc := 53) 5 dX3_rankOf_53 (by decide) ?_
          refine aw_sub (L' := [(0, .ref 180), (1, .int x1), (2, .int x2), (3, .int y3), (4, .int v50)]) [2, 3, 4, 5, 0] rfl ?_
          exact ih y3 v50  _ h
        · have h := h.1 q
          refine aw_iload (pc := 41) 5 dX3_rankOf_41 rfl ?_
          refine aw_iload_n (pc := 43) 2 dX3_rankOf_43 rfl ?_
          refine aw_icmp_ge (pc := 44) 50 dX3_rankOf_44 (by decide) (fun q => ?_) (fun q => ?_)
          · have h := h.1 q
            obtain ⟨v50, ev50⟩ : ∃ v : Int32, v = y4 + 1 := ⟨_, rfl⟩
            have h := h v50 ev50
            refine aw_iinc (pc := 50) 5 v50 [(4, .int v50), (5, .int v29), (0, .ref 180), (1, .int x1), (2, .int x2), (3, .int y3)] dX3_rankOf_50 rfl (by rw [ev50]; rfl) (by decide) rfl ?_
            refine aw_goto (pc := 53) 5 dX3_rankOf_53 (by decide) ?_
            refine aw_sub (L' := [(0, .ref 180), (1, .int x1), (2, .int x2), (3, .int y3), (4, .int v50)]) [2, 3, 4, 5, 0] rfl ?_
            exact ih y3 v50  _ h
          · have h := h.2 q
            obtain ⟨v47, ev47⟩ : ∃ v : Int32, v = y3 + 1 := ⟨_, rfl⟩
            have h := h v47 ev47
            refine aw_iinc (pc := 47) 4 v47 [(3, .int v47), (5, .int v29), (0, .ref 180), (1, .int x1), (2, .int x2), (4, .int y4)] dX3_rankOf_47 rfl (by rw [ev47]; rfl) (by decide) rfl ?_
            obtain ⟨v50, ev50⟩ : ∃ v : Int32, v = y4 + 1 := ⟨_, rfl⟩
            have h := h v50 ev50
            refine aw_iinc (pc := 50) 5 v50 [(4, .int v50), (3, .int v47), (5, .int v29), (0, .ref 180), (1, .int x1), (2, .int x2)] dX3_rankOf_50 rfl (by rw [ev50]; rfl) (by decide) rfl ?_
            refine aw_goto (pc := 53) 5 dX3_rankOf_53 (by decide) ?_
            refine aw_sub (L' := [(0, .ref 180), (1, .int x1), (2, .int x2), (3, .int v47), (4, .int v50)]) [3, 4, 5, 1, 0] rfl ?_
            exact ih v47 v50  _ h
def wp_X3_rankOf (x1 : Int32) (x2 : Int32) (σ : Sg) (K : Int32 → Sg → Prop) : Prop :=
  ∃ nf, b_X3_rankOf_5 x1 x2  K nf 0 0 σ
set_option maxRecDepth 20000 in
set_option maxHeartbeats 2000000 in
theorem ev_X3_rankOf (l : Launch) (x1 : Int32) (x2 : Int32) {σ : Sg} {K : Int32 → Sg → Prop} (h : wp_X3_rankOf x1 x2 σ K) : Ev l yX3_rankOf cX3_rankOf 6 (some .int) 0 [.ref 180, .int x1, .int x2] σ (qI K) := by
  refine ev_ov (by decide) (Nat.le_of_ble_eq_true rfl) ?_
  show AV l RX3 cX3_rankOf 6 (some .int) 0 (qI K) 0 [(0, .ref 180), (1, .int x1), (2, .int x2)] [] σ
  refine aw_iconst (pc := 0) 0 dX3_rankOf_0 (by decide) ?_
  refine aw_istore_n (pc := 1) (i := 3) [(3, .int 0), (0, .ref 180), (1, .int x1), (2, .int x2)] dX3_rankOf_1 rfl (by decide) rfl ?_
  refine aw_iconst (pc := 2) 0 dX3_rankOf_2 (by decide) ?_
  refine aw_istore (pc := 3) [(4, .int 0), (3, .int 0), (0, .ref 180), (1, .int x1), (2, .int x2)] dX3_rankOf_3 (by decide) rfl ?_
  refine aw_sub (L' := [(0, .ref 180), (1, .int x1), (2, .int x2), (3, .int 0), (4, .int 0)]) [2, 3, 4, 1, 0] rfl ?_
  obtain ⟨nf, h⟩ := h
  exact bt_X3_rankOf_5 l x1 x2   nf 0 0  _ h
