/-! THE REFERENCE'S READING -/
theorem wg {a l h : Int32} {σ : Sg} {K : Int32 → Sg → Prop} : wp_X10_within a.toInt64 l.toInt64 h.toInt64 σ K = br (l ≤ a ∧ a ≤ h) (K 1 σ) (K 0 σ) := by
  have c1 : lg_cmp a.toInt64 l.toInt64 < 0 ↔ ¬ l ≤ a := by
    have := lg_cmp_ge a.toInt64 l.toInt64
    rw [← Int32.not_le, this, Int64.le_iff_toInt_le, Int32.le_iff_toInt_le, Int32.toInt_toInt64, Int32.toInt_toInt64]
  have c2 : 0 < lg_cmp a.toInt64 h.toInt64 ↔ ¬ a ≤ h := by
    unfold lg_cmp
    have e1 : (a.toInt64 > h.toInt64) ↔ ¬ a ≤ h := by rw [gt_iff_lt, Int64.lt_iff_toInt_lt, Int32.le_iff_toInt_le, Int32.toInt_toInt64, Int32.toInt_toInt64]; omega
    by_cases q : a.toInt64 > h.toInt64
    · rw [if_pos q]
      exact ⟨fun _ => e1.mp q, fun _ => by decide⟩
    · rw [if_neg q]
      refine ⟨fun z => ?_, fun z => absurd (e1.mpr z) q⟩
      split at z
      · exact absurd z (by decide)
      · exact absurd z (by decide)
  unfold wp_X10_within
  rw [br_iff c1, br_iff c2, br_not, br_not]
  by_cases q1 : l ≤ a
  · rw [br_T q1]
    by_cases q2 : a ≤ h
    · rw [br_T q2, br_T ⟨q1, q2⟩]
    · rw [br_F q2, br_F (fun z => q2 z.2)]
  · rw [br_F q1, br_F (fun z => q1 z.1)]
theorem sb_tab : ∀ b, b < 256 → ((97 : Int32) ≤ sb_b b ∧ sb_b b ≤ (122 : Int32) ↔ kd b = 2) ∧ ((48 : Int32) ≤ sb_b b ∧ sb_b b ≤ (57 : Int32) ↔ kd b = 3) ∧ (sb_b b = 32 ↔ b = 32) ∧ (sb_b b = 10 ↔ b = 10) ∧ (sb_b b = 59 ↔ b = 59) ∧ (b < 128 → sb_b b = nI b) := by decide +kernel
/-- what reading leaves -/
def mr (σ τ : Sg) (s : Nat) : Prop := (∀ k, k ≠ 233 → τ k = σ k) ∧ (∀ j, j ≠ 10 → τ 233 j = σ 233 j) ∧ τ 233 10 = nI s
theorem mr.tr {σ τ υ : Sg} {s t : Nat} (h : mr σ τ s) (g : mr τ υ t) : mr σ υ t := ⟨fun k hk => (g.1 k hk).trans (h.1 k hk), fun j hj => (g.2.1 j hj).trans (h.2.1 j hj), g.2.2⟩
theorem mr.u {σ τ : Sg} {s t : Nat} {v : Int32} (h : mr σ τ s) (hv : v = nI t) : mr σ (up τ 233 10 v) t := ⟨fun k hk => (up_o hk).trans (h.1 k hk), fun j hj => (up_j hj).trans (h.2.1 j hj), by rw [up_s, hv]⟩
def mtp (σ : Sg) (B : Nat → Nat) (n : Nat) : Prop := n ≤ 600 ∧ σ 233 9 = nI n ∧ ∀ i, i < n → B i < 256 ∧ σ 240 i = sb_b (B i)
theorem mtp.r {σ τ : Sg} {B : Nat → Nat} {n s : Nat} (h : mtp σ B n) (g : mr σ τ s) : mtp τ B n := ⟨h.1, by rw [g.2.1 9 (by decide)]; exact h.2.1, by rw [g.1 240 (by decide)]; exact h.2.2⟩
section
variable {σ : Sg} {B : Nat → Nat} {n r : Nat}
theorem m_nxt {K : Int32 → Sg → Prop} (h : mtp σ B n) (hr : σ 233 10 = nI r) (hn : r ≤ n) (hK : ∀ τ v, mr σ τ (ex B n 1 r) → (ex B n 1 r < n → v = sb_b (B (ex B n 1 r))) → (n ≤ ex B n 1 r → v = 0) → K v τ) : wp_X10_next σ K := by
  have h6 := h.1
  have k52 : ∀ τ, mr σ τ (ex B n 1 r) → b_X10_next_52 K τ := by
    intro τ m
    have ht := h.r m
    have hl := ex_le (B := B) (k := 1) hn
    unfold b_X10_next_52
    rw [ht.2.1, m.2.2, br_iff (nI_leI (by omega) (by omega))]
    refine ⟨fun q => hK τ 0 m (fun z => by omega) (fun _ => rfl), fun q => ?_⟩
    rw [vin_T (show ex B n 1 r < 600 by omega) (by decide), cl_I (by omega), true_and]
    exact hK τ _ m (fun z => (ht.2.2 _ z).2) (fun z => by omega)
  have main : ∀ d q τ, q + d = n → mr σ τ q → ex B n 1 q = ex B n 1 r → b_X10_next_0 K (d + 1) τ := by
    intro d
    induction d with
    | zero =>
      intro q τ hq m e
      have : q = n := by omega
      subst this
      rw [ex_n (Nat.le_refl _)] at e
      have ht := h.r m
      exact br_t (by rw [ht.2.1, m.2.2]; exact nI_le (Nat.le_refl _) (by omega)) (k52 τ (by rw [← e]; exact m))
    | succ d ih =>
      intro q τ hq m e
      have ht := h.r m
      obtain ⟨b1, b2⟩ := ht.2.2 q (by omega)
      obtain ⟨-, -, t1, t2, -, -⟩ := sb_tab (B q) b1
      have nxt : kd (B q) = 1 → b_X10_next_39 (fun τ => b_X10_next_0 K (d + 1) τ) K τ := by
        intro z υ e2
        rw [e2]
        rw [ex_y (by omega) z] at e
        exact ih (q + 1) _ (by omega) (m.u (by rw [m.2.2, nI_1])) e
      have stop : kd (B q) ≠ 1 → b_X10_next_52 K τ := by
        intro z
        rw [ex_no (by omega) z] at e
        exact k52 τ (by rw [← e]; exact m)
      refine br_f (by rw [ht.2.1, m.2.2]; exact nI_ge (by omega) (by omega)) ?_
      rw [m.2.2, vin_T (show q < 600 by omega) (by decide), cl_I (by omega), true_and, true_and, b2, br_iff t1, br_iff t2]
      refine ⟨fun z => nxt (kd_1.mpr (Or.inl z)), fun z => ⟨fun z2 => nxt (kd_1.mpr (Or.inr z2)), fun z2 => stop (fun y => by rcases kd_1.mp y with a | a; exact z a; exact z2 a)⟩⟩
  exact ⟨_, main (n - r) r σ (by omega) ⟨fun _ _ => rfl, fun _ _ => rfl, hr⟩ rfl⟩
/-- is the word i there? -/
theorem m_isW {K : Int32 → Sg → Prop} {i : Nat} (h : mtp σ B n) (hr : σ 233 10 = nI r) (hn : r ≤ n) (hi : i < 14) (hg : isZ (σ 233 13)) (hK : ∀ τ, mr σ τ (ex B n 1 r) → br (σ 233 13 = 1 ∧ wm B n i (ex B n 1 r)) (K 1 τ) (K 0 τ)) : wp_X10_isWord i σ K := by
  have h6 := h.1
  have hw := w_tab i hi
  unfold wp_X10_isWord
  refine m_nxt h hr hn (fun τ v m _ _ => ?_)
  have hs := ex_St (B := B) hn
  have hK := hK τ m
  have ht := h.r m
  generalize ex B n 1 r = s at *
  have hsn := hs.1
  have el := ex_le (B := B) (k := 2) hsn
  have eg := ex_ge (B := B) (k := 2) hsn
  have e13 : τ 233 13 = σ 233 13 := m.2.1 13 (by decide)
  have no : ∀ d, ¬ (σ 233 13 = 1 ∧ wm B n i s) → b_X10_isWord_74 i K 1 0 d τ := by
    intro d q
    show wp_J0_length_8abf5 i τ _
    rw [j_len hi]
    exact ⟨fun _ => ⟨isZ_0, hK.2 q⟩, fun _ => br_t rfl ⟨isZ_0, hK.2 q⟩⟩
  have cmp : σ 233 13 = 1 → ex B n 2 s - s = wl i → ∀ d y, y + d = wl i → (∀ j, j < y → B (s + j) = wc i j) → b_X10_isWord_74 i K (d + 2) 1 (nI y) τ := by
    intro g1 el2 d
    have k2 : kk B n s = 2 := by
      apply Classical.byContradiction
      intro z
      have := ex_kk hsn z (by decide)
      omega
    have e2 : en B n s = ex B n 2 s := en_k k2 (by decide) (by decide)
    induction d with
    | zero =>
      intro y hy hc
      have : y = wl i := by omega
      subst this
      show wp_J0_length_8abf5 i τ _
      rw [j_len hi]
      exact br_t (nI_le (Nat.le_refl _) (by omega)) ⟨isZ_1, hK.1 ⟨g1, k2, by rw [e2]; exact el2, hc⟩⟩
    | succ d ih =>
      intro y hy hc
      obtain ⟨b1, b2⟩ := ht.2.2 (s + y) (by omega)
      have hk := ex_in (B := B) (n := n) (k := 2) hsn (s + y) (by omega) (by omega)
      have hb := kd_2.mp hk
      have c1 := (hw.2.2.2 y (by omega)).1
      have sbv := (sb_tab (B (s + y)) b1).2.2.2.2.2 (by omega)
      show wp_J0_length_8abf5 i τ _
      rw [j_len hi]
      refine br_f (nI_ge (by omega) (by omega)) (br_f (by decide) ?_)
      rw [m.2.2, nI_add, vin_T (show s + y < 600 by omega) (by decide), cl_I (by omega), true_and]
      refine j_chr hi (by omega) ?_
      rw [b2, sbv, br_iff (nI_eq (by omega) (by omega))]
      refine ⟨fun z v ev => ?_, fun z v ev => ?_⟩
      · rw [ev, nI_1]
        refine ih (y + 1) (by omega) (fun j hj => ?_)
        by_cases q : j = y
        · rw [q]; exact z
        · exact hc j (by omega)
      · show wp_J0_length_8abf5 i τ _
        rw [j_len hi]
        have q : ¬ (σ 233 13 = 1 ∧ wm B n i s) := fun y' => z (y'.2.2.2 y (by omega))
        exact ⟨fun _ => ⟨isZ_0, hK.2 q⟩, fun _ => br_t rfl ⟨isZ_0, hK.2 q⟩⟩
  have k50 : b_X10_isWord_50 i K (nI (ex B n 2 s - s)) τ := by
    unfold b_X10_isWord_50
    rw [e13, j_len hi, br_iff (nI_eq (by omega) (by omega))]
    refine ⟨fun q => ⟨1, no 0 (fun z => by rw [q] at z; exact absurd z.1 (by decide))⟩, fun q => ?_⟩
    have g1 : σ 233 13 = 1 := hg.resolve_left q
    refine ⟨fun z => ⟨_, cmp g1 z (wl i) 0 (by omega) (fun j hj => by omega)⟩, fun z => ⟨1, no 0 (fun y => ?_)⟩⟩
    have e2 : en B n s = ex B n 2 s := en_k y.2.1 (by decide) (by decide)
    have := y.2.2.1
    rw [e2] at this
    exact z this
  have main : ∀ d y, s + y + d = n → ex B n 2 (s + y) = ex B n 2 s → b_X10_isWord_7 i K (d + 1) (nI y) τ := by
    intro d
    induction d with
    | zero =>
      intro y hy e
      rw [ex_n (by omega)] at e
      rw [← e, show s + y - s = y by omega] at k50
      exact br_t (by rw [ht.2.1, m.2.2, nI_add]; exact nI_le (by omega) (by omega)) k50
    | succ d ih =>
      intro y hy e
      obtain ⟨b1, b2⟩ := ht.2.2 (s + y) (by omega)
      refine br_f (by rw [ht.2.1, m.2.2, nI_add]; exact nI_ge (by omega) (by omega)) ?_
      rw [m.2.2, nI_add, vin_T (show s + y < 600 by omega) (by decide), cl_I (by omega), true_and, b2, show (97 : Int64) = (97 : Int32).toInt64 from by decide, show (122 : Int64) = (122 : Int32).toInt64 from by decide, wg, br_iff (sb_tab (B (s + y)) b1).1]
      refine ⟨fun z => br_f (by decide) (fun v ev => ?_), fun z => br_t rfl ?_⟩
      · rw [ev, nI_1]
        rw [ex_y (by omega) z] at e
        exact ih (y + 1) (by omega) e
      · rw [ex_no (by omega) z] at e
        rw [← e, show s + y - s = y by omega] at k50
        exact k50
  exact ⟨_, main (n - s) 0 (by omega) rfl⟩
theorem m_takW {K : Int32 → Sg → Prop} {i : Nat} (h : mtp σ B n) (hr : σ 233 10 = nI r) (hn : r ≤ n) (hi : i < 14) (hg : isZ (σ 233 13)) (h1 : σ 233 13 = 1 → wm B n i (ex B n 1 r) → ∀ τ, mr σ τ (en B n (ex B n 1 r)) → K 1 τ) (h0 : ¬ (σ 233 13 = 1 ∧ wm B n i (ex B n 1 r)) → ∀ τ, mr σ τ (ex B n 1 r) → K 0 τ) : wp_X10_takesWord i σ K := by
  unfold wp_X10_takesWord
  refine m_isW h hr hn hi hg (fun τ m => ⟨fun q => br_f (by decide) ?_, fun q => br_t rfl ?_⟩)
  · rw [j_len hi]
    intro υ e
    have eb := en_b (B := B) (ex_le (B := B) (k := 1) hn)
    refine ⟨isZ_1, h1 q.1 q.2 υ ?_⟩
    rw [e]
    refine m.u ?_
    rw [m.2.2, nI_add]
    congr 1
    have := q.2.2.1
    omega
  · intro υ e
    refine ⟨isZ_0, h0 q υ ?_⟩
    rw [e]
    exact m.u (by rw [m.2.2, Int32.add_zero])
theorem m_take {K : Int32 → Sg → Prop} (h : mtp σ B n) (hr : σ 233 10 = nI r) (hn : r ≤ n) (hg : σ 233 13 = 1) (h1 : ex B n 1 r < n ∧ B (ex B n 1 r) = 59 → ∀ τ, mr σ τ (ex B n 1 r + 1) → K 1 τ) (h0 : ¬ (ex B n 1 r < n ∧ B (ex B n 1 r) = 59) → ∀ τ, mr σ τ (ex B n 1 r) → K 0 τ) : wp_X10_takes 59 σ K := by
  have h6 := h.1
  have no : ¬ (ex B n 1 r < n ∧ B (ex B n 1 r) = 59) → ∀ τ, mr σ τ (ex B n 1 r) → b_X10_takes_30 59 K τ := by
    intro q τ m
    refine br_t rfl (fun υ e => ⟨isZ_0, h0 q υ ?_⟩)
    rw [e]
    exact m.u (by rw [m.2.2, Int32.add_zero])
  unfold wp_X10_takes
  refine br_f (by rw [hg]; decide) (m_nxt h hr hn (fun τ v m v1 v2 => ?_))
  have ht := h.r m
  have hl := ex_le (B := B) (k := 1) hn
  rw [ht.2.1, m.2.2, br_iff (nI_leI (by omega) (by omega))]
  refine ⟨fun q => ⟨fun z => no (fun y => by omega) τ m, fun z => ?_⟩, fun q => no (fun y => ?_) τ m⟩
  · have hb := (sb_tab _ (ht.2.2 _ (show ex B n 1 r < n by omega)).1).2.2.2.2.1
    rw [v1 (by omega)] at q
    refine br_f (by decide) (fun υ e => ⟨isZ_1, h1 ⟨by omega, hb.mp q⟩ υ ?_⟩)
    rw [e]
    exact m.u (by rw [m.2.2, nI_1])
  · have hb := (sb_tab _ (ht.2.2 _ y.1).1).2.2.2.2.1
    rw [v1 y.1] at q
    exact q (hb.mpr y.2)
theorem m_takeB {K : Int32 → Sg → Prop} {x : Int32} (hr : σ 233 10 = nI r) (hg : σ 233 13 = 0) (h0 : ∀ τ, mr σ τ r → K 0 τ) : wp_X10_takes x σ K := by
  unfold wp_X10_takes
  refine br_t hg (br_t rfl (fun υ e => ⟨isZ_0, h0 υ ?_⟩))
  rw [e]
  exact mr.u ⟨fun _ _ => rfl, fun _ _ => rfl, hr⟩ (by rw [hr, Int32.add_zero])
theorem m_end {K : Int32 → Sg → Prop} (h : mtp σ B n) (hr : σ 233 10 = nI r) (hn : r ≤ n) (hK : ∀ τ, mr σ τ (ex B n 1 r) → br (ex B n 1 r < n) (K 0 τ) (K 1 τ)) : wp_X10_isEnd σ K := by
  have h6 := h.1
  unfold wp_X10_isEnd
  refine m_nxt h hr hn (fun τ v m v1 v2 => ?_)
  have ht := h.r m
  have hl := ex_le (B := B) (k := 1) hn
  have hk := hK τ m
  rw [ht.2.1, m.2.2, br_iff (nI_ltI (by omega) (by omega))]
  refine ⟨fun q => hk, fun q => hk.1 ?_⟩
  apply Classical.byContradiction
  intro z
  exact q (v2 (by omega))
/-- a number is read; the notes of a fault where it isn't good -/
def mw (σ τ : Sg) (f s : Nat) : Prop := (∀ k, k ≠ 233 → τ k = σ k) ∧ (∀ j, j ≠ 10 → j ≠ 11 → j ≠ 12 → j ≠ 13 → τ 233 j = σ 233 j) ∧ τ 233 11 = nI f ∧ τ 233 12 = nI s ∧ τ 233 13 = 0
theorem m_wr {K : Sg → Prop} {f : Int32} {s f' : Nat} {x : Int32} (hg : σ 233 13 = 1) (hf : f = nI f') (hx : x = nI s) (hK : ∀ τ, mw σ τ f' s → τ 233 10 = σ 233 10 → K τ) : wp_X10_wrong f x σ K := by
  refine br_f (by rw [hg]; decide) (fun τ1 e1 τ2 e2 τ3 e3 => hK τ3 ⟨fun k hk => by rw [e3, up_o hk, e2, up_o hk, e1, up_o hk], fun j a b c d => by rw [e3, up_j d, e2, up_j c, e1, up_j b], ?_, ?_, by rw [e3, up_s]⟩ ?_)
  · rw [e3, up_j (by decide), e2, up_j (by decide), e1, up_s, hf]
  · rw [e3, up_j (by decide), e2, up_s, hx]
  · rw [e3, up_j (by decide), e2, up_j (by decide), e1, up_j (by decide)]
/-- the run of digits -/
theorem m_dig {K : Int32 → Sg → Prop} {x1 x2 : Int32} {s : Nat} (h : mtp σ B n) (hs : s ≤ n) (hr : σ 233 10 = nI s) (hK : ∀ τ, mr σ τ (ex B n 3 s) → b_X10_number_95 x1 x2 K (nI s) (nI (dig B s (min (ex B n 3 s - s) 6))) τ) : ∃ nf, b_X10_number_13 x1 x2 K nf (nI s) 0 σ := by
  have h6 := h.1
  have main : ∀ d q τ, q + d = n → s ≤ q → mr σ τ q → ex B n 3 q = ex B n 3 s → b_X10_number_13 x1 x2 K (d + 1) (nI s) (nI (dig B s (min (q - s) 6))) τ := by
    intro d
    induction d with
    | zero =>
      intro q τ hq hsq m e
      have ht := h.r m
      have : q = n := by omega
      subst this
      rw [ex_n (Nat.le_refl _)] at e
      rw [← e] at hK
      exact br_t (by rw [ht.2.1, m.2.2]; exact nI_le (Nat.le_refl _) (by omega)) (hK τ m)
    | succ d ih =>
      intro q τ hq hsq m e
      have ht := h.r m
      obtain ⟨b1, b2⟩ := ht.2.2 q (by omega)
      refine br_f (by rw [ht.2.1, m.2.2]; exact nI_ge (by omega) (by omega)) ?_
      rw [m.2.2, vin_T (show q < 600 by omega) (by decide), cl_I (by omega), true_and, b2, show (48 : Int64) = (48 : Int32).toInt64 from by decide, show (57 : Int64) = (57 : Int32).toInt64 from by decide, wg, br_iff (sb_tab (B q) b1).2.1]
      refine ⟨fun z => br_f (by decide) ?_, fun z => br_t rfl ?_⟩
      · have hb := kd_3.mp z
        have sbv := (sb_tab (B q) b1).2.2.2.2.2 (by omega)
        rw [ex_y (by omega) z] at e
        rw [m.2.2, pk_sub hsq, L6, br_iff (nI_leI (by decide) (by omega)), vin_T (show q < 600 by omega) (by decide), cl_I (by omega), true_and, b2, sbv]
        have nx : ∀ v, v = nI (dig B s (min (q + 1 - s) 6)) → b_X10_number_80 x1 x2 (fun y3' y4' τ => b_X10_number_13 x1 x2 K (d + 1) y3' y4' τ) K (nI s) v τ := by
          intro v ev υ eu
          rw [ev, eu]
          exact ih (q + 1) _ (by omega) (by omega) (m.u (by rw [m.2.2, nI_1])) e
        refine ⟨fun q6 => nx _ ?_, fun q6 => nx _ ?_⟩
        · congr 2
          omega
        · rw [L10, pk_mul, nI_add, show (48 : Int32) = nI 48 from rfl, pk_sub (by omega)]
          congr 1
          rw [show min (q - s) 6 = q - s by omega, show min (q + 1 - s) 6 = (q - s) + 1 by omega]
          show _ = dig B s (q - s) * 10 + (B (s + (q - s)) - 48)
          rw [show s + (q - s) = q by omega]
          omega
      · rw [ex_no (by omega) z] at e
        rw [← e] at hK
        exact hK τ m
  have fin := main (n - s) s σ (by omega) (Nat.le_refl _) ⟨fun _ _ => rfl, fun _ _ => rfl, hr⟩ rfl
  rw [Nat.sub_self, Nat.zero_min] at fin
  exact ⟨_, fin⟩
theorem m_num {K : Int32 → Sg → Prop} {x1 x2 : Int32} {lo hi : Nat} (h : mtp σ B n) (hr : σ 233 10 = nI r) (hn : r ≤ n) (hg : σ 233 13 = 1) (hx : ∀ v, v < 100000 → (x1 ≤ nI v ∧ nI v ≤ x2 ↔ lo ≤ v ∧ v < hi)) (hy : nOk B n lo hi (ex B n 1 r) → ∀ τ, mr σ τ (en B n (ex B n 1 r)) → K (nI (dv B n (ex B n 1 r))) τ) (hno : ¬ nOk B n lo hi (ex B n 1 r) → ∀ τ, mw σ τ (nF B n (ex B n 1 r)) (ex B n 1 r) → (∃ q, q ≤ n ∧ τ 233 10 = nI q) → K 0 τ) : wp_X10_number x1 x2 σ K := by
  have h6 := h.1
  unfold wp_X10_number
  refine m_nxt h hr hn (fun τ v m _ _ => ?_)
  have ht := h.r m
  have hs := ex_St (B := B) hn
  generalize ex B n 1 r = s at *
  have hsn := hs.1
  intro w ew
  rw [ew, m.2.2]
  refine m_dig ht hsn m.2.2 (fun υ m2 => ?_)
  have m3 := m.tr m2
  have g3 : υ 233 13 = 1 := by rw [m3.2.1 13 (by decide)]; exact hg
  have el := ex_le (B := B) (k := 3) hsn
  have eg := ex_ge (B := B) (k := 3) hsn
  have bad : ∀ (f : Int32) (y4 : Int32), f = nI (nF B n s) → ¬ nOk B n lo hi s → wp_X10_wrong f (nI s) υ (fun τ138 => b_X10_number_141 x1 x2 K y4 τ138) := by
    intro f y4 ef q
    refine m_wr g3 ef rfl (fun ω w1 w2 => br_t w1.2.2.2.2 (hno q ω ⟨fun k hk => by rw [w1.1 k hk]; exact m3.1 k hk, fun j a b c d => by rw [w1.2.1 j a b c d]; exact m3.2.1 j a, w1.2.2⟩ ⟨ex B n 3 s, el, by rw [w2]; exact m3.2.2⟩))
  unfold b_X10_number_95
  rw [m3.2.2, br_iff (nI_eq (by omega) (by omega)), pk_sub eg, L5, br_iff (nI_ltI (by decide) (by omega))]
  refine ⟨fun q => bad 1 _ ?_ (fun z => ?_), fun q => ?_⟩
  · unfold nF
    rw [if_neg (fun z => ?_)]; rfl
    have hlt : s < n := by
      apply Classical.byContradiction
      intro y
      rw [kk_ge y] at z
      omega
    have := ex_y (B := B) (n := n) (k := 3) hlt (by rw [← kk_lt hlt]; exact z)
    have := ex_ge (B := B) (n := n) (k := 3) (p := s + 1) (by omega)
    omega
  · have hlt : s < n := by
      apply Classical.byContradiction
      intro y
      have := z.1
      rw [kk_ge y] at this
      omega
    have := ex_y (B := B) (n := n) (k := 3) hlt (by rw [← kk_lt hlt]; exact z.1)
    have := ex_ge (B := B) (n := n) (k := 3) (p := s + 1) (by omega)
    omega
  · have k3 : kk B n s = 3 := by
      apply Classical.byContradiction
      intro z
      exact q (ex_kk hsn z (by decide))
    have e3 : en B n s = ex B n 3 s := en_k k3 (by decide) (by decide)
    have f2 : (2 : Int32) = nI (nF B n s) := by unfold nF; rw [if_pos k3]; rfl
    refine ⟨fun z => bad 2 _ f2 (fun y => by have := y.2.1; omega), fun z => ?_⟩
    have dl := dv_lt hsn k3 (by omega)
    rw [show min (ex B n 3 s - s) 6 = en B n s - s by omega]
    show wp_X10_within (nI (dv B n s)).toInt64 x1.toInt64 x2.toInt64 υ _
    rw [wg, br_iff (hx _ dl)]
    refine ⟨fun y => br_f (by decide) (br_f (by rw [g3]; decide) (hy ⟨k3, by omega, y.1, y.2⟩ υ (by rw [e3]; exact m3))), fun y => br_t rfl (bad 2 _ f2 (fun y2 => y ⟨y2.2.2.1, y2.2.2.2⟩))⟩
/-- .. where all is bad already -/
theorem m_numB {K : Int32 → Sg → Prop} {x1 x2 : Int32} (h : mtp σ B n) (hr : σ 233 10 = nI r) (hn : r ≤ n) (hg : σ 233 13 = 0) (hK : ∀ τ q, q ≤ n → mr σ τ q → K 0 τ) : wp_X10_number x1 x2 σ K := by
  unfold wp_X10_number
  refine m_nxt h hr hn (fun τ v m _ _ => ?_)
  have ht := h.r m
  have hs := ex_le (B := B) (k := 1) hn
  generalize ex B n 1 r = s at *
  intro w ew
  rw [ew, m.2.2]
  refine m_dig ht hs m.2.2 (fun υ m2 => ?_)
  have m3 := m.tr m2
  have g3 : υ 233 13 = 0 := by rw [m3.2.1 13 (by decide)]; exact hg
  have fin : ∀ y4, b_X10_number_141 x1 x2 K y4 υ := fun y4 => br_t g3 (hK υ _ (ex_le (B := B) (k := 3) hs) m3)
  have wrg : ∀ (f x : Int32) y4, wp_X10_wrong f x υ (fun τ138 => b_X10_number_141 x1 x2 K y4 τ138) := fun f x y4 => br_t g3 (fin y4)
  unfold b_X10_number_95
  refine ⟨fun _ => wrg _ _ _, fun _ => ⟨fun _ => wrg _ _ _, fun _ => ?_⟩⟩
  rw [wg]
  exact ⟨fun _ => br_f (by decide) (fin _), fun _ => br_t rfl (wrg _ _ _)⟩
end
