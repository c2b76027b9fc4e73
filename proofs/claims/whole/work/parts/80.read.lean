/-! READING: tokens -/
def kd (b : Nat) : Nat := if b = 32 ∨ b = 10 then 1 else if 97 ≤ b ∧ b ≤ 122 then 2 else if 48 ≤ b ∧ b ≤ 57 then 3 else 4
def exd (B : Nat → Nat) (k : Nat) : Nat → Nat → Nat
  | 0, p => p
  | d + 1, p => if kd (B p) = k then exd B k d (p + 1) else p
/-- how far signs of kind k go -/
def ex (B : Nat → Nat) (n k p : Nat) : Nat := exd B k (n - p) p
def kk (B : Nat → Nat) (n s : Nat) : Nat := if s < n then kd (B s) else 0
def en (B : Nat → Nat) (n s : Nat) : Nat := if kk B n s = 0 then s else if kk B n s = 4 then s + 1 else ex B n (kk B n s) s
def nx (B : Nat → Nat) (n s : Nat) : Nat := ex B n 1 (en B n s)
def St (B : Nat → Nat) (n s : Nat) : Prop := s ≤ n ∧ (s < n → kd (B s) ≠ 1)
section
variable {B : Nat → Nat} {n k p s : Nat}
theorem kd_r (b : Nat) : 1 ≤ kd b ∧ kd b ≤ 4 := by unfold kd; split; omega; split; omega; split <;> omega
theorem kd_1 {b : Nat} : kd b = 1 ↔ b = 32 ∨ b = 10 := by unfold kd; split; simp [*]; split; simp [*]; split <;> simp [*]
theorem kd_2 {b : Nat} : kd b = 2 ↔ 97 ≤ b ∧ b ≤ 122 := by
  unfold kd
  split
  · omega
  · split
    · simp [*]
    · split
      · omega
      · omega
theorem kd_3 {b : Nat} : kd b = 3 ↔ 48 ≤ b ∧ b ≤ 57 := by
  unfold kd
  split
  · omega
  · split
    · omega
    · split
      · simp [*]
      · omega
theorem ex_n (h : n ≤ p) : ex B n k p = p := by
  unfold ex
  rw [show n - p = 0 by omega]
  rfl
theorem ex_y (h : p < n) (hk : kd (B p) = k) : ex B n k p = ex B n k (p + 1) := by
  unfold ex
  rw [show n - p = (n - (p + 1)) + 1 by omega]
  show (if kd (B p) = k then _ else _) = _
  rw [if_pos hk]
theorem ex_no (h : p < n) (hk : kd (B p) ≠ k) : ex B n k p = p := by
  unfold ex
  rw [show n - p = (n - (p + 1)) + 1 by omega]
  show (if kd (B p) = k then _ else _) = _
  rw [if_neg hk]
theorem ex_all : ∀ d p, p + d = n → p ≤ ex B n k p ∧ ex B n k p ≤ n ∧ (∀ i, p ≤ i → i < ex B n k p → kd (B i) = k) ∧ (ex B n k p < n → kd (B (ex B n k p)) ≠ k) := by
  intro d
  induction d with
  | zero =>
    intro p hp
    rw [ex_n (by omega)]
    exact ⟨Nat.le_refl _, by omega, fun i a b => by omega, fun a => by omega⟩
  | succ d ih =>
    intro p hp
    by_cases q : kd (B p) = k
    · obtain ⟨a1, a2, a3, a4⟩ := ih (p + 1) (by omega)
      rw [ex_y (by omega) q]
      refine ⟨by omega, a2, fun i b c => ?_, a4⟩
      by_cases z : i = p
      · rw [z]; exact q
      · exact a3 i (by omega) c
    · rw [ex_no (by omega) q]
      exact ⟨Nat.le_refl _, by omega, fun i a b => by omega, fun _ => q⟩
theorem ex_ge (h : p ≤ n) : p ≤ ex B n k p := (ex_all (n - p) p (by omega)).1
theorem ex_le (h : p ≤ n) : ex B n k p ≤ n := (ex_all (n - p) p (by omega)).2.1
theorem ex_in (h : p ≤ n) : ∀ i, p ≤ i → i < ex B n k p → kd (B i) = k := (ex_all (n - p) p (by omega)).2.2.1
theorem ex_end (h : p ≤ n) : ex B n k p < n → kd (B (ex B n k p)) ≠ k := (ex_all (n - p) p (by omega)).2.2.2
theorem ex_St (h : p ≤ n) : St B n (ex B n 1 p) := ⟨ex_le h, ex_end h⟩
theorem St_ex (h : St B n s) : ex B n 1 s = s := by
  by_cases q : s < n
  · exact ex_no q (h.2 q)
  · exact ex_n (by omega)
theorem kk_lt (h : s < n) : kk B n s = kd (B s) := if_pos h
theorem kk_ge (h : ¬ s < n) : kk B n s = 0 := if_neg h
theorem kk_0 : kk B n s = 0 ↔ ¬ s < n := by
  by_cases q : s < n
  · rw [kk_lt q]
    have := kd_r (B s)
    omega
  · rw [kk_ge q]; simp [q]
theorem kk_n1 (h : St B n s) : kk B n s ≠ 1 := by
  by_cases q : s < n
  · rw [kk_lt q]; exact h.2 q
  · rw [kk_ge q]; decide
theorem en_b (h : s ≤ n) : s ≤ en B n s ∧ en B n s ≤ n ∧ (s < n → s < en B n s) := by
  unfold en
  by_cases q : s < n
  · have := kd_r (B s)
    rw [kk_lt q, if_neg (by omega)]
    by_cases q4 : kd (B s) = 4
    · rw [if_pos q4]; omega
    · rw [if_neg q4, ex_y q rfl]
      have h1 := ex_ge (B := B) (n := n) (k := kd (B s)) (p := s + 1) (by omega)
      have h2 := ex_le (B := B) (n := n) (k := kd (B s)) (p := s + 1) (by omega)
      omega
  · rw [kk_ge q, if_pos rfl]; omega
theorem nx_St (h : s ≤ n) : St B n (nx B n s) := ex_St (en_b h).2.1
theorem nx_ge (h : s ≤ n) : en B n s ≤ nx B n s := ex_ge (en_b h).2.1
theorem en_k (hk : kk B n s = k) (h0 : k ≠ 0) (h4 : k ≠ 4) : en B n s = ex B n k s := by
  unfold en
  rw [hk, if_neg h0, if_neg h4]
theorem ex_kk (h : s ≤ n) (hk : kk B n s ≠ k) (h0 : k ≠ 0) : ex B n k s = s := by
  by_cases q : s < n
  · rw [kk_lt q] at hk; exact ex_no q hk
  · exact ex_n (by omega)
/-- two numbers beside each other have a blank between them -/
theorem nx_gt (h : s ≤ n) (hk : kk B n s = 3) (hk2 : kk B n (nx B n s) = 3) : en B n s < nx B n s := by
  have h1 := nx_ge (B := B) h
  have h2 := (en_b (B := B) h).2.1
  have e := en_k hk (by decide) (by decide)
  by_cases q : en B n s = nx B n s
  · have q2 : nx B n s < n := by
      apply Classical.byContradiction
      intro z
      rw [kk_ge z] at hk2
      omega
    rw [kk_lt q2, ← q, e] at hk2
    exact absurd hk2 (ex_end h (by rw [← e, q]; exact q2))
  · omega
end
/-! words -/
def chN : List (List Nat) := [[99, 108, 117, 98], [99, 117, 112], [102, 105, 114, 115, 116], [102, 108, 111, 111, 114], [114, 101, 112, 108, 97, 121, 115], [97, 103, 97, 105, 110], [110, 101, 117, 116, 114, 97, 108], [111, 100, 100], [119, 97, 121], [116, 105, 101], [112, 108, 97, 121], [115, 101, 99, 111, 110, 100], [100, 114, 97, 119, 110], [99, 108, 111, 115, 101]]
def wl (i : Nat) : Nat := lenSt.getD i 0
def wc (i j : Nat) : Nat := (chN.getD i []).getD j 0
theorem w_tab : ∀ i, i < 14 → 3 ≤ wl i ∧ wl i ≤ 7 ∧ (Int32.ofNat (lenSt.getD i 0)) >>> ((0 : Int32) &&& 31) = nI (wl i) ∧ ∀ j, j < wl i → wc i j < 128 ∧ (Int32.toUInt32 (((bytSt.getD i []).getD j 0) &&& 255) % 65536).toInt32 = nI (wc i j) := by decide +kernel
section
variable {σ : Sg} {K : Int32 → Sg → Prop} {i j : Nat}
theorem j_len (hi : i < 14) : wp_J0_length_8abf5 i σ K = K (nI (wl i)) σ := by
  unfold wp_J0_length_8abf5 wp_J0_coder_7d493
  rw [br_F (by decide)]
  show K (Int32.ofNat (lenSt.getD i 0) >>> ((0 : Int32) &&& 31)) σ = _
  rw [(w_tab i hi).2.2.1]
theorem j_chr (hi : i < 14) (hj : j < wl i) (hK : K (nI (wc i j)) σ) : wp_J0_charAt_5068e i (nI j) σ K := by
  obtain ⟨w1, w2, -, w4⟩ := w_tab i hi
  obtain ⟨c1, c2⟩ := w4 j hj
  unfold wp_J0_charAt_5068e wp_J0_isLatin1_aae02 wp_J1_charAt_3b067 wp_J0_checkIndex_df160 wp_J3_checkIndex_8e157
  refine br_f (by decide) (br_t rfl (br_f (by decide) (br_f (nI_pos (by omega)) (br_t (nI_lt hj (show wl i < 2 ^ 31 by omega)) ⟨?_, ?_⟩))))
  · exact vp_in_nI hj (by show wl i < 2 ^ 31; omega)
  · rw [cl_I (by omega), c2]
    exact ⟨(pk_charN (by omega)).1, (pk_charN (by omega)).1, hK⟩
end
/-- the word i stands there -/
def wm (B : Nat → Nat) (n i s : Nat) : Prop := kk B n s = 2 ∧ en B n s - s = wl i ∧ ∀ j, j < wl i → B (s + j) = wc i j
/-- the number of m digits -/
def dig (B : Nat → Nat) (s : Nat) : Nat → Nat
  | 0 => 0
  | m + 1 => dig B s m * 10 + (B (s + m) - 48)
def dv (B : Nat → Nat) (n s : Nat) : Nat := dig B s (en B n s - s)
theorem dig_lt {B : Nat → Nat} {s : Nat} : ∀ m, (∀ i, i < m → B (s + i) ≤ 57) → dig B s m < 10 ^ m
  | 0, _ => by show 0 < 1; omega
  | m + 1, h => by
    have := dig_lt m (fun i hi => h i (by omega))
    have := h m (by omega)
    show dig B s m * 10 + (B (s + m) - 48) < 10 ^ (m + 1)
    rw [Nat.pow_succ]
    omega
theorem p10 {m : Nat} (h : m ≤ 6) : 10 ^ m ≤ 1000000 := Nat.pow_le_pow_right (n := 10) (by decide) h
theorem dv_lt {B : Nat → Nat} {n s : Nat} (h : s ≤ n) (hk : kk B n s = 3) (h5 : en B n s - s ≤ 5) : dv B n s < 100000 := by
  have e := en_k hk (by decide) (by decide)
  have h1 := dig_lt (B := B) (s := s) (en B n s - s) (fun i hi => (kd_3.mp (ex_in (k := 3) h (s + i) (by omega) (by rw [← e]; omega))).2)
  have : 10 ^ (en B n s - s) ≤ 100000 := Nat.pow_le_pow_right (n := 10) (by decide) h5
  unfold dv
  omega
/-- a number that is in its bounds stands there -/
def nOk (B : Nat → Nat) (n lo hi s : Nat) : Prop := kk B n s = 3 ∧ en B n s - s ≤ 5 ∧ lo ≤ dv B n s ∧ dv B n s < hi
def nF (B : Nat → Nat) (n s : Nat) : Nat := if kk B n s = 3 then 2 else 1
/-! THE CLASS'S READER -/
def tp (σ : Sg) (B : Nat → Nat) (n : Nat) : Prop := n ≤ 600 ∧ σ 1 1 = nI n ∧ ∀ i, i < n → B i < 256 ∧ σ 2 i = nI (B i)
/-- the token at s is looked at -/
def ct (σ : Sg) (B : Nat → Nat) (n s : Nat) : Prop := tp σ B n ∧ St B n s ∧ σ 1 2 = nI (kk B n s) ∧ σ 1 3 = nI s ∧ σ 1 4 = nI (en B n s)
/-- what a step leaves -/
def cst (σ τ : Sg) : Prop := (∀ k, k ≠ 1 → τ k = σ k) ∧ ∀ j, j ≠ 2 → j ≠ 3 → j ≠ 4 → τ 1 j = σ 1 j
theorem cst.rf (σ : Sg) : cst σ σ := ⟨fun _ _ => rfl, fun _ _ _ _ => rfl⟩
theorem cst.tr {σ τ υ : Sg} (h : cst σ τ) (g : cst τ υ) : cst σ υ := ⟨fun k hk => (g.1 k hk).trans (h.1 k hk), fun j a b c => (g.2 j a b c).trans (h.2 j a b c)⟩
theorem cst.u {σ τ : Sg} {j : Nat} {v : Int32} (h : cst σ τ) (hj : j = 2 ∨ j = 3 ∨ j = 4) : cst σ (up τ 1 j v) := ⟨fun k hk => (up_o hk).trans (h.1 k hk), fun i a b c => (up_j (by omega)).trans (h.2 i a b c)⟩
theorem tp.c {σ τ : Sg} {B : Nat → Nat} {n : Nat} (h : tp σ B n) (g : cst σ τ) : tp τ B n := ⟨h.1, by rw [g.2 1 (by decide) (by decide) (by decide)]; exact h.2.1, by rw [g.1 2 (by decide)]; exact h.2.2⟩
section
variable {σ : Sg} {B : Nat → Nat} {n s : Nat}
theorem c_kind {b : Nat} {K : Int32 → Sg → Prop} (hb : b < 256) : wp_X4_kindOf (nI b) σ K = K (nI (kd b)) σ := by
  unfold wp_X4_kindOf b_X4_kindOf_28 kd
  rw [L32, L10, show (97 : Int32) = nI 97 from rfl, show (122 : Int32) = nI 122 from rfl, show (48 : Int32) = nI 48 from rfl, show (57 : Int32) = nI 57 from rfl, br_iff (nI_eq (by omega) (by decide)), br_iff (nI_eq (by omega) (by decide)), br_iff (nI_ltI (show b < 2 ^ 31 by omega) (by decide)), br_iff (nI_ltI (by decide) (show b < 2 ^ 31 by omega)), br_iff (nI_ltI (show b < 2 ^ 31 by omega) (by decide)), br_iff (nI_ltI (by decide) (show b < 2 ^ 31 by omega))]
  by_cases q1 : b = 32
  · rw [br_T q1, if_pos (Or.inl q1)]; rfl
  rw [br_F q1]
  by_cases q2 : b = 10
  · rw [br_T q2, if_pos (Or.inr q2)]; rfl
  rw [br_F q2, if_neg (by omega)]
  by_cases q3 : b < 97
  · rw [br_T q3, if_neg (by omega)]
    by_cases q4 : b < 48
    · rw [br_T q4, if_neg (by omega)]; rfl
    · rw [br_F q4]
      by_cases q5 : 57 < b
      · rw [br_T q5, if_neg (by omega)]; rfl
      · rw [br_F q5, if_pos (by omega)]; rfl
  · rw [br_F q3]
    by_cases q6 : 122 < b
    · rw [br_T q6, if_neg (by omega), br_F (show ¬ b < 48 by omega), br_T (show 57 < b by omega), if_neg (by omega)]; rfl
    · rw [br_F q6, if_pos (by omega)]; rfl
theorem c_73 {τ : Sg} {K : Sg → Prop} {k : Nat} (h : tp τ B n) (hk : τ 1 2 = nI k) (hk2 : k = 2 ∨ k = 3) : ∀ d p, p + d = n → b_X4_step_111 K (nI (ex B n k p)) τ → b_X4_step_73 K (d + 1) (nI p) τ := by
  have h6 := h.1
  intro d
  induction d with
  | zero =>
    intro p hp hK
    rw [ex_n (by omega)] at hK
    exact br_t (by rw [h.2.1]; exact nI_le (by omega) (by omega)) hK
  | succ d ih =>
    intro p hp hK
    obtain ⟨b1, b2⟩ := h.2.2 p (by omega)
    refine br_f (by rw [h.2.1]; exact nI_ge (by omega) (by omega)) (br_f (by rw [hk]; rcases hk2 with z | z <;> rw [z] <;> decide) ?_)
    rw [vin_T (show p < 600 by omega) (by decide), cl_I (by omega), true_and, b2, c_kind b1, hk, br_iff (nI_eq (by have := kd_r (B p); omega) (by omega))]
    refine ⟨fun q v ev => ?_, fun q => ?_⟩
    · rw [ev, nI_1]
      rw [ex_y (by omega) q] at hK
      exact ih (p + 1) (by omega) hK
    · rw [ex_no (by omega) q] at hK; exact hK
theorem c_32 {τ : Sg} {K : Sg → Prop} (h : tp τ B n) (hs : St B n s) (hK : ∀ υ : Sg, cst τ υ → ct υ B n s → K υ) : b_X4_step_32 K (nI s) τ := by
  have h6 := h.1
  have hsn := hs.1
  have eb := en_b (B := B) hsn
  have fin : ∀ υ : Sg, cst τ υ → υ 1 3 = nI s → υ 1 2 = nI (kk B n s) → b_X4_step_111 K (nI (en B n s)) υ := by
    intro υ c1 c3 c2 ω e
    refine hK ω (by rw [e]; exact c1.u (by omega)) ⟨h.c (by rw [e]; exact c1.u (by omega)), hs, ?_, ?_, by rw [e, up_s]⟩
    · rw [e, up_j (by decide)]; exact c2
    · rw [e, up_j (by decide)]; exact c3
  have k59 : ∀ υ : Sg, cst τ υ → υ 1 3 = nI s → b_X4_step_59 K (nI s) (nI (kk B n s)) υ := by
    intro υ c1 c3 ω e
    have d1 : cst τ ω := by rw [e]; exact c1.u (by omega)
    have d2 : ω 1 2 = nI (kk B n s) := by rw [e, up_s]
    have d3 : ω 1 3 = nI s := by rw [e, up_j (by decide)]; exact c3
    have ht := h.c d1
    have f := fin ω d1 d3 d2
    rw [d2]
    by_cases q : s < n
    · have kr := kd_r (B s)
      have k1 := hs.2 q
      by_cases q4 : kk B n s = 4
      · have e1 : en B n s = s + 1 := by unfold en; rw [if_neg (by omega), if_pos q4]
        rw [e1] at f
        refine br_t (by rw [q4]; rfl) (fun v ev => ⟨1, ?_⟩)
        rw [ev, nI_1]
        exact ⟨fun _ => f, fun _ => br_t (by rw [d2, q4]; rfl) f⟩
      · rw [kk_lt q] at q4
        have e1 : en B n s = ex B n (kd (B s)) s := en_k (kk_lt q) (by omega) q4
        rw [e1] at f
        rw [kk_lt q] at d2 ⊢
        exact br_f (fun z => q4 (nI_m (b := 4) z (by omega) (by decide))) ⟨_, c_73 ht d2 (by omega) (n - s) s (by omega) f⟩
    · have e1 : en B n s = s := by unfold en; rw [if_pos (kk_ge q)]
      rw [e1] at f
      rw [kk_ge q]
      refine br_f (by decide) ⟨1, br_t (by rw [ht.2.1]; exact nI_le (by omega) (by omega)) f⟩
  intro υ e
  have c1 : cst τ υ := by rw [e]; exact (cst.rf τ).u (by omega)
  have c3 : υ 1 3 = nI s := by rw [e, up_s]
  have ht := h.c c1
  rw [ht.2.1, br_iff (nI_leI (by omega) (by omega))]
  refine ⟨fun q => ?_, fun q => ?_⟩
  · have := k59 υ c1 c3
    rw [kk_ge (by omega)] at this
    exact this
  · obtain ⟨b1, b2⟩ := ht.2.2 s (by omega)
    rw [vin_T (show s < 600 by omega) (by decide), cl_I (by omega), true_and, b2, c_kind b1]
    have := k59 υ c1 c3
    rw [kk_lt (by omega)] at this
    exact this
theorem c_step {K : Sg → Prop} {p : Nat} (h : tp σ B n) (hp : σ 1 4 = nI p) (hpn : p ≤ n) (hK : ∀ υ : Sg, cst σ υ → ct υ B n (ex B n 1 p) → K υ) : wp_X4_step σ K := by
  have h6 := h.1
  have main : ∀ d q, q + d = n → ex B n 1 q = ex B n 1 p → b_X4_step_5 K (d + 1) (nI q) σ := by
    intro d
    induction d with
    | zero =>
      intro q hq e
      have : q = n := by omega
      subst this
      rw [ex_n (Nat.le_refl _)] at e
      have := c_32 h (ex_St (B := B) hpn) hK
      rw [← e] at this
      exact br_t (by rw [h.2.1]; exact nI_le (Nat.le_refl _) (by omega)) this
    | succ d ih =>
      intro q hq e
      obtain ⟨b1, b2⟩ := h.2.2 q (by omega)
      refine br_f (by rw [h.2.1]; exact nI_ge (by omega) (by omega)) ?_
      rw [vin_T (show q < 600 by omega) (by decide), cl_I (by omega), true_and, b2, c_kind b1, L1, br_iff (nI_eq (by have := kd_r (B q); omega) (by decide))]
      refine ⟨fun z v ev => ?_, fun z => ?_⟩
      · rw [ev, ← L1, nI_1]
        rw [ex_y (by omega) z] at e
        exact ih (q + 1) (by omega) e
      · rw [ex_no (by omega) z] at e
        have := c_32 h (ex_St (B := B) hpn) hK
        rw [← e] at this
        exact this
  intro v ev
  rw [ev, hp]
  exact ⟨_, main (n - p) p (by omega) rfl⟩
theorem c_stp {K : Sg → Prop} (h : ct σ B n s) (hK : ∀ υ : Sg, cst σ υ → ct υ B n (nx B n s) → K υ) : wp_X4_step σ K := c_step h.1 h.2.2.2.2 (en_b h.2.1.1).2.1 hK
theorem c_isAt {K : Int32 → Sg → Prop} {i : Nat} (h : ct σ B n s) (hi : i < 14) (hK : br (wm B n i s) (K 1 σ) (K 0 σ)) : wp_X4_isAt i σ K := by
  obtain ⟨h1, h2, h3, h4, h5⟩ := h
  have h6 := h1.1
  have eb := en_b (B := B) h2.1
  have hw := w_tab i hi
  have hsn := h2.1
  unfold wp_X4_isAt
  rw [h3, j_len hi, h4, h5, pk_sub eb.1, L2, br_iff (nI_eq (by have : kk B n s ≤ 4 := (by by_cases q : s < n; rw [kk_lt q]; exact (kd_r _).2; rw [kk_ge q]; omega); omega) (by decide)), br_iff (nI_eq (by omega) (by omega))]
  refine ⟨fun q1 => ⟨fun q2 => ?_, fun q2 => hK.2 (fun z => q2 z.2.1)⟩, fun q1 => hK.2 (fun z => q1 z.1)⟩
  have main : ∀ d y, y + d = wl i → (∀ j, j < y → B (s + j) = wc i j) → b_X4_isAt_28 i K (d + 1) (nI y) σ := by
    intro d
    induction d with
    | zero =>
      intro y hy hc
      have : y = wl i := by omega
      subst this
      show wp_J0_length_8abf5 i σ _
      rw [j_len hi]
      exact br_t (nI_le (Nat.le_refl _) (by omega)) (hK.1 ⟨q1, q2, hc⟩)
    | succ d ih =>
      intro y hy hc
      obtain ⟨b1, b2⟩ := h1.2.2 (s + y) (by omega)
      show wp_J0_length_8abf5 i σ _
      rw [j_len hi]
      refine br_f (nI_ge (by omega) (by omega)) ?_
      rw [h4, nI_add, vin_T (show s + y < 600 by omega) (by decide), cl_I (by omega), true_and]
      refine j_chr hi (by omega) ?_
      rw [b2, br_iff (nI_eq (by omega) (by have := (hw.2.2.2 y (by omega)).1; omega))]
      refine ⟨fun z v ev => ?_, fun z => hK.2 (fun y' => z (y'.2.2 y (by omega)))⟩
      rw [ev, nI_1]
      refine ih (y + 1) (by omega) (fun j hj => ?_)
      by_cases q : j = y
      · rw [q]; exact z
      · exact hc j (by omega)
  exact ⟨_, main (wl i) 0 (by omega) (fun j hj => by omega)⟩
theorem c_takeW {K : Int32 → Sg → Prop} {i : Nat} (h : ct σ B n s) (hi : i < 14) (h1 : wm B n i s → ∀ υ : Sg, cst σ υ → ct υ B n (nx B n s) → K 1 υ) (h0 : ¬ wm B n i s → K 0 σ) : wp_X4_takeWord i σ K := by
  unfold wp_X4_takeWord
  exact c_isAt h hi ⟨fun q => br_f (by decide) (c_stp h (h1 q)), fun q => br_t rfl (h0 q)⟩
theorem c_sep {K : Int32 → Sg → Prop} (h : ct σ B n s) (h1 : s < n ∧ B s = 59 → ∀ υ : Sg, cst σ υ → ct υ B n (nx B n s) → K 1 υ) (h0 : ¬ (s < n ∧ B s = 59) → K 0 σ) : wp_X4_takeSeparator σ K := by
  have h6 := h.1.1
  unfold wp_X4_takeSeparator
  rw [h.2.2.1, h.2.2.2.1]
  by_cases q : s < n
  · obtain ⟨b1, b2⟩ := h.1.2.2 s q
    rw [vin_T (show s < 600 by omega) (by decide), cl_I (by omega), true_and, b2, show (59 : Int32) = nI 59 from rfl, br_iff (nI_eq (by omega) (by decide)), kk_lt q, L4, br_iff (nI_eq (by have := kd_r (B s); omega) (by decide))]
    refine ⟨fun q4 => ⟨fun q5 => c_stp h (h1 ⟨q, q5⟩), fun q5 => h0 (fun z => q5 z.2)⟩, fun q4 => h0 (fun z => q4 (by rw [z.2]; decide))⟩
  · rw [kk_ge q]
    exact br_f (by decide) (h0 (fun z => q z.1))
theorem c_ref {K : Int32 → Sg → Prop} {f : Int32} (h3 : σ 1 3 = nI s) (hK : ∀ υ : Sg, (∀ k, k ≠ 1 → υ k = σ k) → (∀ j, j ≠ 5 → j ≠ 6 → υ 1 j = σ 1 j) → υ 1 5 = f → υ 1 6 = nI s → K 0 υ) : wp_X4_refuse f σ K := by
  intro τ e υ e2
  rw [e, up_j (by decide), h3] at e2
  refine hK υ (fun k hk => by rw [e2, up_o hk, up_o hk]) (fun j a b => by rw [e2, up_j b, up_j a]) (by rw [e2, up_j (by decide), up_s]) (by rw [e2, up_s])
theorem c_num {K : Int32 → Sg → Prop} {k1 n1 a lo hi : Nat} {x3 x4 : Int32} (h : ct σ B n s) (ha : a < n1) (hn1 : n1 < 1000) (hk1 : 27 ≤ k1) (hx3 : ∀ v, v < 100000 → (nI v < x3 ↔ v < lo)) (hx4 : ∀ v, v < 100000 → (nI v ≤ x4 ↔ v < hi)) (hy : nOk B n lo hi s → ∀ υ : Sg, cst (up σ k1 a (nI (dv B n s))) υ → ct υ B n (nx B n s) → K 1 υ) (hn : ¬ nOk B n lo hi s → ∀ υ : Sg, (∀ k, k ≠ 1 → υ k = σ k) → (∀ j, j ≠ 5 → j ≠ 6 → υ 1 j = σ 1 j) → υ 1 5 = nI (nF B n s) → υ 1 6 = nI s → K 0 υ) : wp_X4_takeNumber k1 n1 (nI a) x3 x4 σ K := by
  obtain ⟨h1, h2, h3, h4, h5⟩ := h
  have h6 := h1.1
  have hsn := h2.1
  have eb := en_b (B := B) h2.1
  have kle : kk B n s ≤ 4 := by
    by_cases q : s < n
    · rw [kk_lt q]; exact (kd_r _).2
    · rw [kk_ge q]; omega
  have nf : ∀ f : Int32, f = nI (nF B n s) → ¬ nOk B n lo hi s → wp_X4_refuse f σ (fun r υ => isZ r ∧ K r υ) := fun f ef q => c_ref h4 (fun υ a b c d => ⟨isZ_0, hn q υ a b (by rw [c, ef]) d⟩)
  unfold wp_X4_takeNumber
  rw [h3, h4, h5, pk_sub eb.1, L3, br_iff (nI_eq (by omega) (by decide)), L5, br_iff (nI_leI (by omega) (by decide))]
  refine ⟨fun q3 => ⟨fun q5 => ?_, fun q5 => nf 2 (by unfold nF; rw [if_pos q3]; rfl) (fun z => q5 z.2.1)⟩, fun q3 => nf 1 (by unfold nF; rw [if_neg q3]; rfl) (fun z => q3 z.1)⟩
  have e := en_k q3 (by decide) (by decide)
  have dl := dv_lt h2.1 q3 q5
  have dg : ∀ i, i < en B n s - s → 48 ≤ B (s + i) ∧ B (s + i) ≤ 57 := fun i hi' => kd_3.mp (ex_in (k := 3) h2.1 (s + i) (by omega) (by rw [← e]; omega))
  have main : ∀ d m, m + d = en B n s - s → b_X4_takeNumber_42 k1 n1 (nI a) x3 x4 K (d + 1) (nI (dig B s m)) (nI (s + m)) σ := by
    intro d
    induction d with
    | zero =>
      intro m hm
      have em : m = en B n s - s := by omega
      refine br_t (by rw [h5]; exact nI_le (by omega) (by omega)) ?_
      rw [em]
      show br (nI (dv B n s) < x3) _ (br (nI (dv B n s) ≤ x4) _ _)
      rw [br_iff (hx3 _ dl), br_iff (hx4 _ dl)]
      unfold b_X4_takeNumber_88
      refine ⟨fun z => nf 2 (by unfold nF; rw [if_pos q3]; rfl) (fun y => by have := y.2.2.1; omega), fun z => ⟨fun z2 => ?_, fun z2 => nf 2 (by unfold nF; rw [if_pos q3]; rfl) (fun y => z2 y.2.2.2)⟩⟩
      rw [vin_T ha (by omega), cl_I (by omega), true_and]
      intro τ et
      rw [et]
      have ht : tp (up σ k1 a (nI (dv B n s))) B n := ⟨h1.1, by rw [up_o (by omega)]; exact h1.2.1, by rw [up_o (by omega)]; exact h1.2.2⟩
      exact c_step ht (by rw [up_o (by omega)]; exact h5) eb.2.1 (fun υ c1 c2 => hy ⟨q3, q5, by omega, z2⟩ υ c1 c2)
    | succ d ih =>
      intro m hm
      obtain ⟨d1, d2⟩ := dg m (by omega)
      obtain ⟨b1, b2⟩ := h1.2.2 (s + m) (by omega)
      refine br_f (by rw [h5]; exact nI_ge (by omega) (by omega)) ?_
      rw [vin_T (show s + m < 600 by omega) (by decide), cl_I (by omega), true_and, b2]
      intro v ev w ew
      have ev : v = nI (dig B s (m + 1)) := by
        rw [ev, L10, pk_mul, nI_add, show (48 : Int32) = nI 48 from rfl, pk_sub (by omega)]
        congr 1
        show _ = dig B s m * 10 + (B (s + m) - 48)
        omega
      rw [ev, ew, nI_1]
      exact ih (m + 1) (by omega)
  intro v ev
  rw [ev]
  exact ⟨_, main (en B n s - s) 0 (by omega)⟩
end
