/-! PURE BASICS: branches, the store, numbers as nI, sums. -/
theorem br_T {c A B : Prop} (h : c) : br c A B = A := propext ⟨fun q => q.1 h, fun a => ⟨fun _ => a, fun n => absurd h n⟩⟩
theorem br_F {c A B : Prop} (h : ¬ c) : br c A B = B := propext ⟨fun q => q.2 h, fun a => ⟨fun n => absurd n h, fun _ => a⟩⟩
theorem br_True {A B : Prop} : br True A B = A := br_T trivial
theorem br_False {A B : Prop} : br False A B = B := br_F not_false
theorem br_iff {c d A B : Prop} (h : c ↔ d) : br c A B = br d A B := by rw [propext h]
theorem br_not {c A B : Prop} : br (¬ c) A B = br c B A := by
  unfold br
  refine propext ⟨fun h => ⟨fun q => h.2 (fun n => n q), h.1⟩, fun h => ⟨h.2, fun n => h.1 (Classical.byContradiction n)⟩⟩
theorem br_same {c A : Prop} : br c A A = A := propext ⟨fun h => (Classical.em c).elim h.1 h.2, fun a => ⟨fun _ => a, fun _ => a⟩⟩
theorem vin_I {n N : Nat} (hn : n < 2 ^ 31) : vp_in (nI n) N ↔ n < N := by
  rw [vp_in_iff, nI_toInt hn]
  omega
theorem vin_of {x : Int32} {n : Nat} (hn : n ≤ 2 ^ 30) (h : vp_in x n) : ∃ j : Nat, j < n ∧ j < 2 ^ 31 ∧ x = nI j := by
  obtain ⟨j, hj, e⟩ := vp_in_of h (by omega)
  exact ⟨j, hj, by omega, e⟩
/-- the two tests of a range -/
theorem br2 {x : Int32} {n : Nat} {A B : Prop} (hn : n < 2 ^ 31) : br (x < 0) B (br (nI n ≤ x) B A) = br (vp_in x n) A B := by
  have h0 : (0 : Int32).toInt = 0 := rfl
  have e1 : x < 0 ↔ x.toInt < 0 := by rw [Int32.lt_iff_toInt_lt, h0]
  have e2 : nI n ≤ x ↔ (n : Int) ≤ x.toInt := by rw [Int32.le_iff_toInt_le, nI_toInt hn]
  by_cases h : vp_in x n
  · have h' := vp_in_iff.mp h
    rw [br_T h, br_F (by rw [e1]; omega), br_F (by rw [e2]; omega)]
  · rw [br_F h]
    by_cases h1 : x < 0
    · rw [br_T h1]
    · rw [br_F h1, br_T]
      have : ¬ (0 ≤ x.toInt ∧ x.toInt < n) := fun q => h (vp_in_iff.mpr q)
      rw [e1] at h1
      rw [e2]
      omega
/-- .. with the second test the other way -/
theorem br2' {x : Int32} {n : Nat} {A B : Prop} (hn : n < 2 ^ 31) : br (x < 0) B (br (x < nI n) A B) = br (vp_in x n) A B := by
  rw [← br2 hn]
  congr 1
  rw [← br_not]
  congr 1
  exact propext Int32.not_lt
theorem br2l {x : Int32} {n : Nat} {A B : Prop} (hn : n < 2 ^ 30) : br (x < 0) B (br (nI n < x) B A) = br (vp_in x (n + 1)) A B := by
  rw [← br2 (by omega)]
  congr 2
  rw [Int32.lt_iff_toInt_lt, Int32.le_iff_toInt_le, nI_toInt (by omega), nI_toInt (by omega)]
  exact propext ⟨fun h => by omega, fun h => by omega⟩
theorem br2L {x : Int32} {n : Nat} {A B : Prop} (hn : n < 2 ^ 30) : br (x < 0) B (br (x ≤ nI n) A B) = br (vp_in x (n + 1)) A B := by
  rw [← br2l hn]
  congr 1
  rw [← br_not]
  congr 1
  exact propext Int32.not_le
theorem wi {x : Int32} {hi : Int64} {n : Nat} {σ : Sg} {K : Int32 → Sg → Prop} (h : hi.toInt = (n : Int) - 1) : wp_X10_within x.toInt64 0 hi σ K = br (vp_in x n) (K 1 σ) (K 0 σ) := by
  have h0 : (0 : Int64).toInt = 0 := rfl
  have c1 : lg_cmp x.toInt64 0 < 0 ↔ x.toInt < 0 := by
    have := lg_cmp_ge x.toInt64 0
    rw [← Int32.not_le, this, Int64.le_iff_toInt_le, h0, Int32.toInt_toInt64]
    omega
  have c2 : 0 < lg_cmp x.toInt64 hi ↔ (n : Int) ≤ x.toInt := by
    unfold lg_cmp
    have e1 : (x.toInt64 > hi) ↔ (n : Int) - 1 < x.toInt := by rw [gt_iff_lt, Int64.lt_iff_toInt_lt, h, Int32.toInt_toInt64]
    by_cases q : x.toInt64 > hi
    · rw [if_pos q]
      exact ⟨fun _ => by have := e1.mp q; omega, fun _ => by decide⟩
    · rw [if_neg q]
      have q' : ¬ ((n : Int) - 1 < x.toInt) := fun z => q (e1.mpr z)
      refine ⟨fun z => ?_, fun z => by omega⟩
      split at z
      · exact absurd z (by decide)
      · exact absurd z (by decide)
  unfold wp_X10_within
  by_cases hv : vp_in x n
  · have hv' := vp_in_iff.mp hv
    rw [br_T hv, br_F (by rw [c1]; omega), br_F (by rw [c2]; omega)]
  · rw [br_F hv]
    by_cases h1 : lg_cmp x.toInt64 0 < 0
    · rw [br_T h1]
    · rw [br_F h1, br_T]
      rw [c1] at h1
      rw [c2]
      have : ¬ (0 ≤ x.toInt ∧ x.toInt < n) := fun q => hv (vp_in_iff.mpr q)
      omega
theorem wi1 {n : Nat} (h : n < 2 ^ 31) : ((nI n).toInt64 - 1).toInt = (n : Int) - 1 := by
  have e1 : (nI n).toInt64.toInt = (n : Int) := by rw [Int32.toInt_toInt64, nI_toInt h]
  rw [Int64.toInt_sub, e1]
  have : (1 : Int64).toInt = 1 := rfl
  rw [this]
  exact Int.bmod_eq_of_le (by omega) (by omega)
theorem wi0 {n : Nat} (h : n < 2 ^ 30) : ((nI n).toInt64).toInt = ((n + 1 : Nat) : Int) - 1 := by
  rw [Int32.toInt_toInt64, nI_toInt (by omega)]
  omega
theorem isZ_0 : isZ 0 := Or.inl rfl
theorem isZ_1 : isZ 1 := Or.inr rfl
/-! the store -/
theorem up_o {σ : Sg} {k j a : Nat} {v : Int32} (h : a ≠ k) : up σ k j v a = σ a := if_neg h
theorem up_s {σ : Sg} {k j : Nat} {v : Int32} : up σ k j v k j = v := by rw [up_k]; exact pk_us
theorem up_j {σ : Sg} {k j b : Nat} {v : Int32} (h : b ≠ j) : up σ k j v k b = σ k b := by rw [up_k]; exact pk_un h
/-- the stores agree but at the objects of L -/
def Fr (L : List Nat) (σ τ : Sg) : Prop := ∀ k, k ∉ L → τ k = σ k
theorem Fr.rf {L : List Nat} {σ : Sg} : Fr L σ σ := fun _ _ => rfl
theorem Fr.tr {L : List Nat} {σ τ υ : Sg} (h : Fr L σ τ) (g : Fr L τ υ) : Fr L σ υ := fun k hk => (g k hk).trans (h k hk)
theorem Fr.up {L : List Nat} {σ τ : Sg} {k j : Nat} {v : Int32} (h : Fr L σ τ) (hk : k ∈ L) : Fr L σ (up τ k j v) := fun a ha => (up_o (fun e : a = k => ha (by rw [e]; exact hk))).trans (h a ha)
theorem Fr.upA {L : List Nat} {σ τ : Sg} {k : Nat} {f : Nat → Int32} (h : Fr L σ τ) (hk : k ∈ L) : Fr L σ (upA τ k f) := fun a ha => (upA_ne a (fun e : a = k => ha (by rw [e]; exact hk))).trans (h a ha)
theorem Fr.mono {L L' : List Nat} {σ τ : Sg} (h : Fr L σ τ) (hs : ∀ k ∈ L, k ∈ L') : Fr L' σ τ := fun k hk => h k (fun q => hk (hs k q))
theorem nI_m {a b : Nat} (h : nI a = nI b) (ha : a < 2 ^ 31) (hb : b < 2 ^ 31) : a = b := (nI_eq ha hb).mp h
/-! sums -/
def su (f : Nat → Nat) : Nat → Nat
  | 0 => 0
  | n + 1 => su f n + f n
theorem su_add (f g : Nat → Nat) : ∀ n, su (fun i => f i + g i) n = su f n + su g n
  | 0 => rfl
  | n + 1 => by simp only [su, su_add f g n]; omega
theorem su_congr {f g : Nat → Nat} : ∀ n, (∀ i, i < n → f i = g i) → su f n = su g n
  | 0, _ => rfl
  | n + 1, h => by simp only [su]; rw [su_congr n (fun i hi => h i (by omega)), h n (by omega)]
theorem su_le {f g : Nat → Nat} : ∀ n, (∀ i, i < n → f i ≤ g i) → su f n ≤ su g n
  | 0, _ => Nat.le_refl _
  | n + 1, h => by simp only [su]; exact Nat.add_le_add (su_le n (fun i hi => h i (by omega))) (h n (by omega))
theorem su_const (c : Nat) : ∀ n, su (fun _ => c) n = c * n
  | 0 => rfl
  | n + 1 => by simp only [su, su_const c n, Nat.mul_succ]
theorem su_bound {f : Nat → Nat} {c : Nat} (n : Nat) (h : ∀ i, i < n → f i ≤ c) : su f n ≤ c * n := by
  rw [← su_const c n]
  exact su_le n h
theorem su_zero {f : Nat → Nat} (n : Nat) (h : ∀ i, i < n → f i = 0) : su f n = 0 := by
  rw [su_congr n h, su_const, Nat.zero_mul]
theorem su_comm (f : Nat → Nat → Nat) (m : Nat) : ∀ n, su (fun i => su (f i) m) n = su (fun j => su (fun i => f i j) n) m
  | 0 => by simp only [su]; exact (su_zero m (fun _ _ => rfl)).symm
  | n + 1 => by simp only [su]; rw [su_add, su_comm f m n]
theorem su_mono (f : Nat → Nat) {m n : Nat} (h : m ≤ n) : su f m ≤ su f n := by
  induction n with
  | zero => rw [Nat.le_zero.mp h]; exact Nat.le_refl _
  | succ n ih =>
    rcases Nat.lt_or_ge m (n + 1) with q | q
    · exact Nat.le_trans (ih (by omega)) (by simp only [su]; omega)
    · rw [Nat.le_antisymm h q]; exact Nat.le_refl _
theorem su_at {f : Nat → Nat} {n i : Nat} (h : i < n) : f i ≤ su f n := Nat.le_trans (by simp only [su]; omega) (su_mono f (show i + 1 ≤ n from h))
/-- one of them alone -/
theorem su_one {a v : Nat} : ∀ n, su (fun i => if a = i then v else 0) n = if a < n then v else 0
  | 0 => by simp [su]
  | n + 1 => by
    simp only [su, su_one n]
    by_cases h : a < n
    · rw [if_pos h, if_neg (by omega), if_pos (by omega)]; rfl
    · by_cases e : a = n
      · rw [if_neg h, if_pos e, if_pos (by omega)]; omega
      · rw [if_neg h, if_neg e, if_neg (by omega)]
