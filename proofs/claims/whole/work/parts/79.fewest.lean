/-! FEWEST: both sides -/
theorem xor_I {a b : Nat} (ha : a < 2 ^ 32) (hb : b < 2 ^ 32) : nI a ^^^ nI b = nI (a ^^^ b) := by
  apply Int32.toBitVec_inj.mp
  apply BitVec.eq_of_toNat_eq
  rw [Int32.toBitVec_xor, BitVec.toNat_xor, pk_tn ha, pk_tn hb, pk_tn (Nat.xor_lt_two_pow ha hb)]
theorem shl_I : ∀ i, i < 31 → 1 <<< (nI i &&& 31) = nI (2 ^ i) := by decide +kernel
theorem bt_I {s j : Nat} (hs : s < 2 ^ 32) : bt (nI s) j = s.testBit j := by
  unfold bt
  show (nI s).toBitVec.toNat.testBit j = _
  rw [pk_tn hs]
theorem tst_I {s k : Nat} (hs : s < 2 ^ 32) (hk : k < 31) : ((nI s >>> (nI k &&& 31)) &&& 1 = 1) ↔ s.testBit k = true := by
  rw [bt_test (by omega), bt_I hs]
theorem pw13 {n : Nat} (h : n ≤ 13) : 2 ^ n ≤ 8192 := Nat.pow_le_pow_right (n := 2) (by decide) h
theorem pw12 {n : Nat} (h : n ≤ 12) : 2 ^ n ≤ 4096 := Nat.pow_le_pow_right (n := 2) (by decide) h
section
variable {σ : Sg} {e o : Nat → Int32} {N n : Nat}
theorem c_gath {K : Sg → Prop} (hN : N ≤ 13) (he : ∀ j, j < N → σ 225 j = e j) (hK : ∀ τ : Sg, (∀ k, k ≠ 227 → k ≠ 228 → τ k = σ k) → τ 227 0 = nI (uc e N) → (∀ i, i < uc e N → τ 228 i = ob e N i) → K τ) : wp_X7_gather 225 13 (nI N) σ K := by
  have main : ∀ d y τ, y + d = N → (∀ k, k ≠ 227 → k ≠ 228 → τ k = σ k) → τ 227 0 = nI (uc e y) → (∀ i, i < uc e y → τ 228 i = ob e y i) → b_X7_gather_7 225 13 (nI N) K (d + 1) (nI y) τ := by
    intro d
    induction d with
    | zero =>
      intro y τ hy f g1 g2
      have : y = N := by omega
      subst this
      exact br_t (nI_le (Nat.le_refl _) (by omega)) (hK τ f g1 g2)
    | succ d ih =>
      intro y τ hy f g1 g2
      have hu := uc_le e y
      refine br_f (nI_ge (by omega) (by omega)) ?_
      rw [vin_T (show y < 13 by omega) (by decide), cl_I (by omega), true_and, true_and, f 225 (by decide) (by decide), he y (by omega)]
      refine ⟨fun q v ev => ?_, fun q => ?_⟩
      · rw [ev, nI_1]
        have e1 : uc e (y + 1) = uc e y := if_pos q
        refine ih (y + 1) τ (by omega) f (by rw [e1]; exact g1) (fun i hi => ?_)
        rw [e1] at hi
        rw [g2 i hi]
        exact (if_pos q).symm
      · rw [g1, vin_T (show uc e y < 13 by omega) (by decide), cl_I (by omega), true_and]
        intro τ1 f1 τ2 f2 v ev
        rw [ev, nI_1]
        have e1 : uc e (y + 1) = uc e y + 1 := if_neg q
        have r1 : τ1 227 0 = nI (uc e y) := by rw [f1, up_o (by decide)]; exact g1
        rw [r1, nI_1] at f2
        refine ih (y + 1) τ2 (by omega) (fun k k1 k2 => by rw [f2, up_o k1, f1, up_o k2]; exact f k k1 k2) (by rw [f2, up_s, e1]) (fun i hi => ?_)
        rw [e1] at hi
        rw [f2, up_o (by decide), f1, up_r]
        show _ = if e y = 0 then ob e y i else if i = uc e y then e y else ob e y i
        rw [if_neg q]
        by_cases z : i = uc e y
        · rw [if_pos z, if_pos z]
        · rw [if_neg z, if_neg z]; exact g2 i (by omega)
  intro τ1 e1
  exact ⟨_, main N 0 τ1 (by omega) (fun k k1 _ => by rw [e1, up_o k1]) (by rw [e1, up_s]; rfl) (fun i hi => absurd hi (by show ¬ i < 0; omega))⟩
/-- the tables hold what is due for the sets below s -/
def tS (τ : Sg) (a b : Nat) (o : Nat → Int32) (n s : Nat) (g : Nat → Nat) : Prop := tb o n s g ∧ ∀ S, S < s → τ a S = sm o S n ∧ τ b S = nI (g S)
theorem tS_s {τ υ : Sg} {a b s bb : Nat} {g : Nat → Nat} (h : tS τ a b o n s g) (h0 : 0 < s) (hs : s < 2 ^ n) (hb : bst g s n bb) (f : ∀ S, S < s → υ a S = τ a S ∧ υ b S = τ b S) (u1 : υ a s = sm o s n) (u2 : υ b s = nI (bb + zz o n s)) : tS υ a b o n (s + 1) (tUp g s (bb + zz o n s)) := by
  refine ⟨tb_s h.1 h0 hs hb, fun S hS => ?_⟩
  by_cases q : S = s
  · subst q
    rw [tUp_s]
    exact ⟨u1, u2⟩
  · rw [tUp_n q, (f S (by omega)).1, (f S (by omega)).2]
    exact h.2 S (by omega)
/-- the class's table of groups, for the sets below s -/
def tG (τ : Sg) (b : Nat) (o : Nat → Int32) (n s : Nat) (g : Nat → Nat) : Prop := tb o n s g ∧ ∀ S, S < s → τ b S = nI (g S)
theorem tG_s {τ υ : Sg} {b s bb : Nat} {g : Nat → Nat} (h : tG τ b o n s g) (h0 : 0 < s) (hs : s < 2 ^ n) (hb : bst g s n bb) (f : ∀ S, S < s → υ b S = τ b S) (u2 : υ b s = nI (bb + zz o n s)) : tG υ b o n (s + 1) (tUp g s (bb + zz o n s)) := by
  refine ⟨tb_s h.1 h0 hs hb, fun S hS => ?_⟩
  by_cases q : S = s
  · subst q
    rw [tUp_s]
    exact u2
  · rw [tUp_n q, f S (by omega)]
    exact h.2 S (by omega)
theorem c_most {K : Int32 → Sg → Prop} (hn : n ≤ 12) (h27 : σ 227 0 = nI (n + 1)) (h28 : ∀ i, i < n → σ 228 i = o i) (z2 : σ 229 0 = 0) (hK : ∀ τ g, (∀ k, k ≠ 229 → τ k = σ k) → τ 229 0 = 0 → tb o n (2 ^ n) g → K (nI (g (2 ^ n - 1) + 1)) τ) : wp_X7_mostGroups σ K := by
  have p2 := pw12 hn
  have p1 : 0 < 2 ^ n := Nat.two_pow_pos _
  have main : ∀ d s τ g, s + d = 2 ^ n → 0 < s → (∀ k, k ≠ 229 → τ k = σ k) → tG τ 229 o n s g → b_X7_mostGroups_20 K (d + 1) (nI (2 ^ n)) (nI s) τ := by
    intro d
    induction d with
    | zero =>
      intro s τ g hs h0 f ht
      have : s = 2 ^ n := by omega
      subst this
      refine br_t (nI_le (Nat.le_refl _) (by omega)) ?_
      rw [show (1 : Int32) = nI 1 from rfl, pk_sub (by omega), vin_T (show 2 ^ n - 1 < 4096 by omega) (by decide), cl_I (by omega), true_and, ht.2 (2 ^ n - 1) (by omega), nI_add]
      have hz := ht.2 0 (by omega)
      rw [ht.1.1] at hz
      exact hK τ g f hz ht.1
    | succ d ih =>
      intro s τ g hs h0 f ht
      refine br_f (nI_ge (by omega) (by omega)) ?_
      have inner : ∀ d' i bb, i + d' = n → bst g s i bb → b_X7_mostGroups_33 (fun y1' y2' τ => b_X7_mostGroups_20 K (d + 1) y1' y2' τ) K (d' + 1) (nI (2 ^ n)) (nI s) (sm o s i) (nI bb) (nI i) τ := by
        intro d'
        induction d' with
        | zero =>
          intro i bb hi hb
          have : i = n := by omega
          subst this
          have bl := bst_le ht.1 hb
          refine br_t ?_ ?_
          · rw [f 227 (by decide), h27, nI_pred]
            exact nI_le (Nat.le_refl _) (by omega)
          · have fin : ∀ z0, z0 = nI (bb + zz o i s) → b_X7_mostGroups_106 (fun y1' y2' τ => b_X7_mostGroups_20 K (d + 1) y1' y2' τ) K (nI (2 ^ i)) (nI s) z0 (nI s) τ := by
              intro z0 ez
              unfold b_X7_mostGroups_106
              rw [vin_T (show s < 4096 by omega) (by decide), cl_I (by omega), true_and]
              intro τ2 e2 v ev
              rw [ev, nI_1]
              refine ih (s + 1) τ2 _ (by omega) (by omega) (fun k k1 => by rw [e2, up_o k1]; exact f k k1) (tG_s ht h0 (by omega) hb (fun S hS => ?_) ?_)
              · rw [e2, up_j (by omega)]
              · rw [e2, up_s]; exact ez
            refine ⟨fun q => fin _ ?_, fun q => fin _ ?_⟩
            · rw [nI_1, show zz o i s = 1 from if_pos q]
            · rw [show zz o i s = 0 from if_neg q, Nat.add_zero]
        | succ d' ih' =>
          intro i bb hi hb
          have bl := bst_le ht.1 hb
          refine br_f ?_ ?_
          · rw [f 227 (by decide), h27, nI_pred]
            exact nI_ge (by omega) (by omega)
          · rw [br_iff (tst_I (by omega) (by omega))]
            refine ⟨fun q => ?_, fun q v ev => ?_⟩
            · have hl := rm_lt q
              have gl := tb_le ht.1 _ hl
              rw [vin_T (show i < 13 by omega) (by decide), cl_I (by omega), true_and, f 228 (by decide), h28 i (by omega)]
              intro u eu
              rw [shl_I i (by omega), xor_I (by omega) (by have := Nat.ge_two_pow_of_testBit q; omega), vin_T (show s ^^^ 2 ^ i < 4096 by omega) (by decide), cl_I (by omega), true_and, ht.2 _ hl]
              intro v ev w ew
              have ev : v = nI (max bb (g (s ^^^ 2 ^ i))) := by
                rw [ev]
                by_cases z : bb < g (s ^^^ 2 ^ i)
                · rw [if_pos ((nI_ltI (by omega) (by omega)).mpr z), Nat.max_eq_right (by omega)]
                · rw [if_neg (fun y => z ((nI_ltI (by omega) (by omega)).mp y)), Nat.max_eq_left (by omega)]
              have eu : u = sm o s (i + 1) := by
                rw [eu]
                show _ = sm o s i + (if s.testBit i = true then o i else 0)
                rw [if_pos q]
              rw [ev, ew, nI_1, eu]
              exact ih' (i + 1) _ (by omega) (bst_y hb q)
            · have es : sm o s i = sm o s (i + 1) := by
                show _ = sm o s i + (if s.testBit i = true then o i else 0)
                rw [if_neg q, Int32.add_zero]
              rw [ev, nI_1, es]
              exact ih' (i + 1) _ (by omega) (bst_n hb q)
      exact ⟨_, inner n 0 0 (by omega) (bst_0 (fun i hi => absurd hi (by omega)))⟩
  unfold wp_X7_mostGroups
  rw [h27, nI_pred, shl_I n (by omega)]
  refine br_f (nI_ne0 (by omega) (by omega)) (fun v ev => ?_)
  rw [ev]
  refine ⟨_, main (2 ^ n - 1) 1 σ (fun _ => 0) (by omega) (by omega) (fun _ _ => rfl) ⟨⟨rfl, fun S S0 hS => by omega⟩, fun S hS => ?_⟩⟩
  rw [show S = 0 by omega]
  exact z2
theorem m_gath {K : Int32 → Sg → Prop} {x1 : Int32} (hN : N ≤ 13) (h0 : 0 < N) (h5 : σ 234 0 = nI (N - 1)) (he : ∀ j, j < N → σ 255 j = e j) (hK : ∀ τ : Sg, (∀ k, k ≠ 256 → k ≠ 257 → k ≠ 258 → τ k = σ k) → τ 257 0 = 0 → τ 258 0 = 0 → (∀ i, i < uc e N → τ 256 i = ob e N i) → ∃ nf, b_X10_fewest_86 x1 K nf (nI (uc e N)) 1 τ) : ∀ d y τ, y + d = N → (∀ k, k ≠ 256 → τ k = σ k) → (∀ i, i < uc e y → τ 256 i = ob e y i) → b_X10_fewest_32 x1 K (d + 1) (nI (uc e y)) (nI y) τ := by
  intro d
  induction d with
  | zero =>
    intro y τ hy f g2
    have : y = N := by omega
    subst this
    show br _ _ _
    rw [f 234 (by decide), h5]
    refine br_t (nI_lt (by omega) (by omega)) (fun τ1 e1 τ2 e2 => hK τ2 (fun k k1 k2 k3 => by rw [e2, up_o k3, e1, up_o k2]; exact f k k1) (by rw [e2, up_o (by decide), e1, up_s]) (by rw [e2, up_s]) (fun i hi => by rw [e2, up_o (by decide), e1, up_o (by decide)]; exact g2 i hi))
  | succ d ih =>
    intro y τ hy f g2
    have hu := uc_le e y
    show br _ _ _
    rw [f 234 (by decide), h5]
    refine br_f (nI_nlt (by omega) (by omega)) ?_
    rw [vin_T (show y < 13 by omega) (by decide), cl_I (by omega), true_and, true_and, f 255 (by decide), he y (by omega)]
    refine ⟨fun q v ev => ?_, fun q => ?_⟩
    · rw [ev, nI_1]
      have e1 : uc e (y + 1) = uc e y := if_pos q
      have := ih (y + 1) τ (by omega) f (fun i hi => by
        rw [e1] at hi
        rw [g2 i hi]
        exact (if_pos q).symm)
      rw [e1] at this
      exact this
    · rw [vin_T (show uc e y < 13 by omega) (by decide), cl_I (by omega), true_and]
      intro τ1 f1 v ev w ew
      rw [ev, ew, nI_1, nI_1]
      have e1 : uc e (y + 1) = uc e y + 1 := if_neg q
      have := ih (y + 1) τ1 (by omega) (fun k hk => by rw [f1, up_o hk]; exact f k hk) (fun i hi => by
        rw [e1] at hi
        rw [f1, up_r]
        show _ = if e y = 0 then ob e y i else if i = uc e y then e y else ob e y i
        rw [if_neg q]
        by_cases z : i = uc e y
        · rw [if_pos z, if_pos z]
        · rw [if_neg z, if_neg z]; exact g2 i (by omega))
      rw [e1] at this
      exact this
theorem m_most {K : Int32 → Sg → Prop} {x1 : Int32} (hn : n ≤ 13) (h28 : ∀ i, i < n → σ 256 i = o i) (z1 : σ 257 0 = 0) (z2 : σ 258 0 = 0) (hK : ∀ τ g, (∀ k, k ≠ 257 → k ≠ 258 → τ k = σ k) → tb o n (2 ^ n) g → br (x1 = 0) (K (nI n - nI (g (2 ^ n - 1))) τ) (K (nI (g (2 ^ n - 1))) τ)) : ∃ nf, b_X10_fewest_86 x1 K nf (nI n) 1 σ := by
  have p2 := pw13 hn
  have p1 : 0 < 2 ^ n := Nat.two_pow_pos _
  have main : ∀ d s τ g, s + d = 2 ^ n → 0 < s → (∀ k, k ≠ 257 → k ≠ 258 → τ k = σ k) → tS τ 257 258 o n s g → b_X10_fewest_86 x1 K (d + 1) (nI n) (nI s) τ := by
    intro d
    induction d with
    | zero =>
      intro s τ g hs h0 f ht
      have : s = 2 ^ n := by omega
      subst this
      show br _ _ _
      rw [shl_I n (by omega)]
      refine br_t (nI_le (Nat.le_refl _) (by omega)) ?_
      rw [show nI (2 ^ n) - 1 = nI (2 ^ n - 1) by rw [show (1 : Int32) = nI 1 from rfl, pk_sub (by omega)], vin_T (show 2 ^ n - 1 < 8192 by omega) (by decide), cl_I (by omega), true_and, true_and, (ht.2 (2 ^ n - 1) (by omega)).2]
      exact hK τ g f ht.1
    | succ d ih =>
      intro s τ g hs h0 f ht
      show br _ _ _
      rw [shl_I n (by omega)]
      refine br_f (nI_ge (by omega) (by omega)) ?_
      have inner : ∀ d' i bb υ, i + d' = n → bst g s i bb → (∀ k, k ≠ 257 → υ k = τ k) → (∀ S, S < s → υ 257 S = τ 257 S) → ((∃ j, j < i ∧ s.testBit j = true) → υ 257 s = sm o s n) → b_X10_fewest_99 x1 (fun y2' y3' τ => b_X10_fewest_86 x1 K (d + 1) y2' y3' τ) K (d' + 1) (nI n) (nI s) (nI bb) (nI i) υ := by
        intro d'
        induction d' with
        | zero =>
          intro i bb υ hi hb u1 u2 u3
          have : i = n := by omega
          subst this
          have bl := bst_le ht.1 hb
          have us := u3 (bit_ex h0 (by omega))
          refine br_t (nI_le (Nat.le_refl _) (by omega)) ?_
          have fin : ∀ z0, z0 = nI (zz o i s) → b_X10_fewest_201 x1 (fun y2' y3' τ => b_X10_fewest_86 x1 K (d + 1) y2' y3' τ) K (nI i) (nI s) z0 (nI bb) (nI s) υ := by
            intro z0 ez
            unfold b_X10_fewest_201
            rw [vin_T (show s < 8192 by omega) (by decide), cl_I (by omega), true_and, ez, nI_add]
            intro τ2 e2 v ev
            rw [ev, nI_1]
            refine ih (s + 1) τ2 _ (by omega) (by omega) (fun k k1 k2 => by rw [e2, up_o k2, u1 k k1]; exact f k k1 k2) (tS_s ht h0 (by omega) hb (fun S hS => ⟨?_, ?_⟩) ?_ ?_)
            · rw [e2, up_o (by decide), u2 S hS]
            · rw [e2, up_j (by omega), u1 258 (by decide)]
            · rw [e2, up_o (by decide)]; exact us
            · rw [e2, up_s]
          rw [vin_T (show s < 8192 by omega) (by decide), cl_I (by omega), true_and, us]
          refine ⟨fun q => fin _ ?_, fun q => fin _ ?_⟩
          · rw [show zz o i s = 1 from if_pos q]; rfl
          · rw [show zz o i s = 0 from if_neg q]; rfl
        | succ d' ih' =>
          intro i bb υ hi hb u1 u2 u3
          have bl := bst_le ht.1 hb
          refine br_f (nI_ge (by omega) (by omega)) ?_
          rw [br_iff (tst_I (by omega) (by omega))]
          refine ⟨fun q => ?_, fun q v ev => ?_⟩
          · have hl := rm_lt q
            have gl := tb_le ht.1 _ hl
            rw [shl_I i (by omega), xor_I (by omega) (by have := Nat.ge_two_pow_of_testBit q; omega), vin_T (show s ^^^ 2 ^ i < 8192 by omega) (by decide), vin_T (show i < 13 by omega) (by decide), vin_T (show s < 8192 by omega) (by decide), cl_I (by omega), cl_I (by omega), cl_I (by omega)]
            simp only [true_and]
            intro υ1 e1
            have e1 : υ1 = up υ 257 s (sm o s n) := by rw [e1, u2 _ hl, (ht.2 _ hl).1, u1 256 (by decide), f 256 (by decide) (by decide), h28 i (by omega), sm_rm q (by omega)]
            rw [e1, up_o (show 258 ≠ 257 by decide), u1 258 (by decide), (ht.2 _ hl).2, br_iff (nI_leI (by omega) (by omega))]
            have nx := ih' (i + 1) _ (up υ 257 s (sm o s n)) (by omega) (bst_y hb q) (fun k hk => by rw [up_o hk]; exact u1 k hk) (fun S hS => by rw [up_j (by omega)]; exact u2 S hS) (fun _ => up_s)
            refine ⟨fun z v ev => ?_, fun z v ev w ew => ?_⟩
            · rw [Nat.max_eq_left z] at nx
              rw [ev, nI_1]; exact nx
            · rw [Nat.max_eq_right (by omega)] at nx
              rw [ev, ew, nI_1]; exact nx
          · rw [ev, nI_1]
            refine ih' (i + 1) _ υ (by omega) (bst_n hb q) u1 u2 (fun ⟨j, j1, j2⟩ => u3 ⟨j, ?_, j2⟩)
            by_cases z : j = i
            · rw [z] at j2; exact absurd j2 q
            · omega
      exact ⟨_, inner n 0 0 τ (by omega) (bst_0 (fun i hi => by omega)) (fun _ _ => rfl) (fun _ _ => rfl) (fun ⟨j, j1, _⟩ => by omega)⟩
  refine ⟨_, main (2 ^ n - 1) 1 σ (fun _ => 0) (by omega) (by omega) (fun _ _ _ => rfl) ⟨⟨rfl, fun S S0 hS => by omega⟩, fun S hS => ?_⟩⟩
  rw [show S = 0 by omega, sm_0]
  exact ⟨z1, z2⟩
end
theorem op_fewest : Op_fewest Inv := by
  intro σ x h
  obtain ⟨n, B, T, R, m, nx, U, kb, V, h⟩ := h
  have h : In σ n B T R m nx U kb V := h
  obtain ⟨hT, hr, hR, hs, hB, e3, e31, e5, e51, e7, t12, t4, r30⟩ := h.e
  have no : ¬ (0 < T 0 ∧ vp_in x 2) → wp_X10_fewest x σ (fun r' υ => -1 = r' ∧ Inv υ) := by
    intro q υ e
    have h2 := h.qn (τ := υ) (by rw [e]; exact Qn.z)
    rw [m_has h2.e.2.2.2.2.2.2.2.1 (by omega), wi (n := 2) (by decide)]
    refine ⟨fun q1 => br_f (by decide) ?_, fun q1 => br_t rfl ⟨rfl, h2.inv⟩⟩
    rw [br_F (fun q2 => q ⟨q1, q2⟩), br_T rfl]
    exact ⟨rfl, h2.inv⟩
  unfold wp_X9_fewest
  rw [c_has e3 (by omega), show (1 : Int32) = nI 1 from rfl, br2L (by decide)]
  refine ⟨fun q => br_f (by decide) ⟨fun q2 => ?_, fun q2 => no (fun y => q2 y.2)⟩, fun q => br_t rfl (no (fun y => q y.1))⟩
  have iv := bal_iv hT hr
  have uN := uc_le (bal T R) (T 0 + 1)
  have oz := ob_zero iv
  refine c_rk h (fun τ f hτ hl => ?_)
  rw [hτ.e.2.2.2.2.2.1, nI_add]
  refine c_gath (e := bal T R) (by omega) (fun j hj => led_bal hT hr hl (by omega)) (fun τ1 f1 g1 g2 => ?_)
  -- the reference, from any store
  have go : ∀ (ω : Sg) (v : Int32), In ω n B T R m nx U kb V → (∀ g, tb (ob (bal T R) (T 0 + 1)) (uc (bal T R) (T 0 + 1)) (2 ^ uc (bal T R) (T 0 + 1)) g → v = if x = 0 then nI (uc (bal T R) (T 0 + 1)) - nI (g (2 ^ uc (bal T R) (T 0 + 1) - 1)) else nI (g (2 ^ uc (bal T R) (T 0 + 1) - 1))) → wp_X10_fewest x ω (fun r' υ => v = r' ∧ Inv υ) := by
    intro ω v hω hv υ e
    have h2 := hω.qn (τ := υ) (by rw [e]; exact Qn.z)
    rw [m_has h2.e.2.2.2.2.2.2.2.1 (by omega), br_T q, br_F (by decide), wi (n := 2) (by decide), br_T q2, br_F (by decide)]
    refine m_bal h2.2.2.1.m (fun υ1 u1 u2 lb => ?_)
    have h3 := h2.qn (bal_q u1 u2)
    refine ⟨_, m_gath (e := bal T R) (N := T 0 + 1) (by omega) (by omega) h3.e.2.2.2.2.2.2.2.1 (fun j hj => lb j (by omega)) (fun υ2 w1 w2 w3 w4 => ?_) (T 0 + 1) 0 υ1 (by omega) (fun _ _ => rfl) (fun i hi => absurd hi (by show ¬ i < 0; omega))⟩
    refine m_most (o := ob (bal T R) (T 0 + 1)) (by omega) w4 w2 w3 (fun υ3 g x1 x2 => ?_)
    have fo : ∀ k, k < 256 → υ3 k = υ1 k := fun k hk => by rw [x1 k (by omega) (by omega), w1 k (by omega) (by omega) (by omega)]
    have h4 := h3.qn (τ := υ3) ⟨⟨fun k hk => fo k (by omega), fun k a b c => fo k (by omega), by rw [fo 233 (by omega)], by rw [fo 233 (by omega)], by rw [fo 233 (by omega)], by rw [fo 233 (by omega)], by rw [fo 229 (by omega)], by rw [fo 229 (by omega)]⟩, fun k a b => fo k (by omega)⟩
    have hv' := hv g x2
    refine ⟨fun y => ⟨?_, h4.inv⟩, fun y => ⟨?_, h4.inv⟩⟩
    · rw [if_pos y] at hv'; exact hv'
    · rw [if_neg y] at hv'; exact hv'
  have qk : ∀ τ2 : Sg, (∀ k, ¬ (227 ≤ k ∧ k ≤ 229) → τ2 k = τ k) → τ2 229 0 = 0 → τ2 229 0 = 0 → In τ2 n B T R m nx U kb V := fun τ2 hk a b => hτ.qq ⟨fun k h => hk k (by omega), fun k h _ _ => hk k (by omega), by rw [hk 233 (by omega)], by rw [hk 233 (by omega)], by rw [hk 233 (by omega)], by rw [hk 233 (by omega)], a.trans hτ.2.2.2.2.2.2.1.symm, b.trans hτ.2.2.2.2.2.2.2.symm⟩ (fun k _ _ => hk k (by omega))
  have z9 : τ1 229 0 = 0 := by rw [f1 229 (by decide) (by decide)]; exact hτ.2.2.2.2.2.2.1
  have z0 : τ1 229 0 = 0 := by rw [f1 229 (by decide) (by decide)]; exact hτ.2.2.2.2.2.2.2
  obtain ⟨w, hw, hw2, rfl⟩ := vin_of (by decide) q2
  have w0 : nI w = nI 1 → ¬ nI w = 0 := fun y => by rw [y]; decide
  have w1 : ¬ nI w = nI 1 → nI w = 0 := fun y => by
    have : w ≠ 1 := fun z => y (by rw [z])
    rw [show w = 0 by omega]; rfl
  rcases Nat.eq_zero_or_pos (uc (bal T R) (T 0 + 1)) with u0 | u0
  · have hv : ∀ g, tb (ob (bal T R) (T 0 + 1)) (uc (bal T R) (T 0 + 1)) (2 ^ uc (bal T R) (T 0 + 1)) g → g (2 ^ uc (bal T R) (T 0 + 1) - 1) = 0 := fun g hg => by rw [u0]; exact hg.1
    have h1 := qk τ1 (fun k hk => f1 k (by omega) (by omega)) z9 z0
    refine br_t (by rw [g1, u0]; rfl) ⟨fun y => go τ1 0 h1 (fun g hg => ?_), fun y => go τ1 _ h1 (fun g hg => ?_)⟩
    · rw [hv g hg, if_neg (w0 y)]; rfl
    · rw [hv g hg, if_pos (w1 y), g1]; rfl
  · obtain ⟨n', hn'⟩ : ∃ n', uc (bal T R) (T 0 + 1) = n' + 1 := ⟨uc (bal T R) (T 0 + 1) - 1, by omega⟩
    rw [hn'] at g1 g2 oz go uN
    refine c_most (o := ob (bal T R) (T 0 + 1)) (n := n') (by omega) g1 (fun i hi => g2 i (by omega)) z0 (fun τ2 g k1 k2 k4 => ?_)
    have h1 := qk τ2 (fun k hk => by rw [k1 k (by omega), f1 k (by omega) (by omega)]) k2 k2
    refine ⟨fun y => go τ2 _ h1 (fun f hf => ?_), fun y => go τ2 _ h1 (fun f hf => ?_)⟩
    · rw [g_both hf k4 oz, if_neg (w0 y)]
    · rw [g_both hf k4 oz, if_pos (w1 y), k1 227 (by decide), g1]
