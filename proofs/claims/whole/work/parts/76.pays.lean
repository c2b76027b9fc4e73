/-! PAYS: the lowest and the greatest; payments, as numbers -/
def si (f : Nat → Int) : Nat → Int
  | 0 => 0
  | n + 1 => si f n + f n
theorem si_add (f g : Nat → Int) : ∀ n, si (fun i => f i + g i) n = si f n + si g n
  | 0 => rfl
  | n + 1 => by simp only [si, si_add f g n]; omega
theorem si_congr {f g : Nat → Int} : ∀ n, (∀ i, i < n → f i = g i) → si f n = si g n
  | 0, _ => rfl
  | n + 1, h => by simp only [si]; rw [si_congr n (fun i hi => h i (by omega)), h n (by omega)]
theorem si_one {a : Nat} {v : Int} : ∀ n, si (fun i => if a = i then v else 0) n = if a < n then v else 0
  | 0 => by simp [si]
  | n + 1 => by
    simp only [si, si_one n]
    by_cases h : a < n
    · rw [if_pos h, if_neg (by omega), if_pos (by omega)]; omega
    · by_cases e : a = n
      · rw [if_neg h, if_pos e, if_pos (by omega)]; omega
      · rw [if_neg h, if_neg e, if_neg (by omega)]; rfl
theorem si_npos {f : Nat → Int} : ∀ n, (∀ i, i < n → f i ≤ 0) → si f n ≤ 0
  | 0, _ => by simp [si]
  | n + 1, h => by
    have h1 := si_npos n (fun i hi => h i (by omega))
    have h2 := h n (by omega)
    simp only [si]
    omega
theorem si_neg {f : Nat → Int} {l : Nat} : ∀ n, (∀ i, i < n → f i ≤ 0) → l < n → f l < 0 → si f n < 0
  | 0, _, h, _ => by omega
  | n + 1, h, hl, hf => by
    have h2 := h n (by omega)
    simp only [si]
    by_cases q : l = n
    · have h1 := si_npos n (fun i hi => h i (by omega))
      rw [q] at hf
      omega
    · have h1 := si_neg n (fun i hi => h i (by omega)) (by omega) hf
      omega
theorem si_nat {f : Nat → Nat} : ∀ n, si (fun i => (f i : Int)) n = (su f n : Int)
  | 0 => rfl
  | n + 1 => by simp only [si, su, si_nat n]; omega
theorem si_sub (f g : Nat → Int) : ∀ n, si (fun i => f i - g i) n = si f n - si g n
  | 0 => rfl
  | n + 1 => by simp only [si, si_sub f g n]; omega
def lo (e : Nat → Int32) : Nat → Nat
  | 0 => 0
  | n + 1 => if e n < e (lo e n) then n else lo e n
def hi (e : Nat → Int32) : Nat → Nat
  | 0 => 0
  | n + 1 => if e (hi e n) < e n then n else hi e n
theorem lo_1 (e : Nat → Int32) : lo e 1 = 0 := by simp [lo]
theorem hi_1 (e : Nat → Int32) : hi e 1 = 0 := by simp [hi]
theorem lo_lt (e : Nat → Int32) : ∀ n, 0 < n → lo e n < n
  | 0, h => by omega
  | n + 1, _ => by
    have := lo_lt e n
    simp only [lo]
    split
    · omega
    · by_cases q : n = 0
      · subst q; simp [lo]
      · have := this (by omega); omega
theorem hi_lt (e : Nat → Int32) : ∀ n, 0 < n → hi e n < n
  | 0, h => by omega
  | n + 1, _ => by
    have := hi_lt e n
    simp only [hi]
    split
    · omega
    · by_cases q : n = 0
      · subst q; simp [hi]
      · have := this (by omega); omega
theorem lo_min (e : Nat → Int32) : ∀ n i, i < n → (e (lo e n)).toInt ≤ (e i).toInt
  | 0, i, h => by omega
  | n + 1, i, h => by
    have ih := lo_min e n
    simp only [lo]
    by_cases q : e n < e (lo e n)
    · rw [if_pos q]
      rw [Int32.lt_iff_toInt_lt] at q
      by_cases z : i = n
      · rw [z]; exact Int.le_refl _
      · have := ih i (by omega); omega
    · rw [if_neg q]
      rw [Int32.lt_iff_toInt_lt] at q
      by_cases z : i = n
      · rw [z]; omega
      · exact ih i (by omega)
theorem hi_max (e : Nat → Int32) : ∀ n i, i < n → (e i).toInt ≤ (e (hi e n)).toInt
  | 0, i, h => by omega
  | n + 1, i, h => by
    have ih := hi_max e n
    simp only [hi]
    by_cases q : e (hi e n) < e n
    · rw [if_pos q]
      rw [Int32.lt_iff_toInt_lt] at q
      by_cases z : i = n
      · rw [z]; exact Int.le_refl _
      · have := ih i (by omega); omega
    · rw [if_neg q]
      rw [Int32.lt_iff_toInt_lt] at q
      by_cases z : i = n
      · rw [z]; omega
      · exact ih i (by omega)
/-- how much is paid -/
def am (e : Nat → Int32) (N : Nat) : Int32 := if e (hi e N) < 0 - e (lo e N) then e (hi e N) else 0 - e (lo e N)
def pay (e : Nat → Int32) (N : Nat) : Nat → Int32 := fun i => if i = hi e N then (if hi e N = lo e N then e (lo e N) + am e N else e (hi e N)) - am e N else if i = lo e N then e (lo e N) + am e N else e i
def gos (e : Nat → Int32) (N : Nat) : Prop := e (lo e N) < 0
/-- all come to 0, none is too large -/
def ivn (e : Nat → Int32) (N : Nat) : Prop := (∀ i, i < N → -400000000 ≤ (e i).toInt ∧ (e i).toInt ≤ 400000000) ∧ si (fun i => (e i).toInt) N = 0
def nz (e : Nat → Int32) (N : Nat) : Nat := su (fun i => if e i = 0 then 0 else 1) N
theorem t_add {a b : Int32} (h1 : -1000000000 ≤ a.toInt + b.toInt) (h2 : a.toInt + b.toInt ≤ 1000000000) : (a + b).toInt = a.toInt + b.toInt := by
  rw [Int32.toInt_add]
  exact Int.bmod_eq_of_le (by omega) (by omega)
theorem t_sub {a b : Int32} (h1 : -1000000000 ≤ a.toInt - b.toInt) (h2 : a.toInt - b.toInt ≤ 1000000000) : (a - b).toInt = a.toInt - b.toInt := by
  rw [Int32.toInt_sub]
  exact Int.bmod_eq_of_le (by omega) (by omega)
theorem t_0 : (0 : Int32).toInt = 0 := rfl
theorem pay_f {e : Nat → Int32} {N : Nat} (hN : 0 < N) (h : ivn e N) (hg : gos e N) : lo e N ≠ hi e N ∧ (pay e N (lo e N)).toInt + (pay e N (hi e N)).toInt = (e (lo e N)).toInt + (e (hi e N)).toInt ∧ (e (lo e N)).toInt < 0 ∧ 0 < (e (hi e N)).toInt ∧ (e (lo e N)).toInt ≤ (pay e N (lo e N)).toInt ∧ (pay e N (lo e N)).toInt ≤ 0 ∧ 0 ≤ (pay e N (hi e N)).toInt ∧ (pay e N (hi e N)).toInt ≤ (e (hi e N)).toInt ∧ ((pay e N (lo e N)).toInt = 0 ∨ (pay e N (hi e N)).toInt = 0) := by
  have hl := lo_lt e N hN
  have hh := hi_lt e N hN
  have bl := h.1 _ hl
  have bh := h.1 _ hh
  have a0 : (e (lo e N)).toInt < 0 := by
    unfold gos at hg
    rw [Int32.lt_iff_toInt_lt, t_0] at hg
    exact hg
  have b0 : 0 < (e (hi e N)).toInt := by
    apply Classical.byContradiction
    intro q
    have := si_neg (f := fun i => (e i).toInt) (l := lo e N) N (fun i hi' => by have := hi_max e N i hi'; show (e i).toInt ≤ 0; omega) hl a0
    have := h.2
    omega
  have ne : lo e N ≠ hi e N := fun z => by rw [z] at a0; omega
  have m1 : (0 - e (lo e N)).toInt = - (e (lo e N)).toInt := by rw [t_sub (by rw [t_0]; omega) (by rw [t_0]; omega), t_0]; omega
  have pl : pay e N (lo e N) = e (lo e N) + am e N := by unfold pay; rw [if_neg ne, if_pos rfl]
  have ph : pay e N (hi e N) = e (hi e N) - am e N := by unfold pay; rw [if_pos rfl, if_neg (fun z => ne z.symm)]
  have cs : ((am e N).toInt = (e (hi e N)).toInt ∧ (e (hi e N)).toInt < - (e (lo e N)).toInt) ∨ ((am e N).toInt = - (e (lo e N)).toInt ∧ - (e (lo e N)).toInt ≤ (e (hi e N)).toInt) := by
    unfold am
    by_cases q : e (hi e N) < 0 - e (lo e N)
    · rw [if_pos q]
      rw [Int32.lt_iff_toInt_lt, m1] at q
      exact Or.inl ⟨rfl, q⟩
    · rw [if_neg q]
      rw [Int32.lt_iff_toInt_lt, m1] at q
      exact Or.inr ⟨m1, by omega⟩
  have v1 : (pay e N (lo e N)).toInt = (e (lo e N)).toInt + (am e N).toInt := by rw [pl, t_add (by omega) (by omega)]
  have v2 : (pay e N (hi e N)).toInt = (e (hi e N)).toInt - (am e N).toInt := by rw [ph, t_sub (by omega) (by omega)]
  rw [v1, v2]
  refine ⟨ne, ?_, a0, b0, ?_, ?_, ?_, ?_, ?_⟩ <;> omega
theorem pay_o {e : Nat → Int32} {N i : Nat} (h1 : i ≠ lo e N) (h2 : i ≠ hi e N) : pay e N i = e i := by
  unfold pay
  rw [if_neg h2, if_neg h1]
theorem pay_iv {e : Nat → Int32} {N : Nat} (hN : 0 < N) (h : ivn e N) (hg : gos e N) : ivn (pay e N) N := by
  obtain ⟨ne, es, a0, b0, l1, l2, h1, h2, -⟩ := pay_f hN h hg
  have hl := lo_lt e N hN
  have hh := hi_lt e N hN
  have bl := h.1 _ hl
  have bh := h.1 _ hh
  refine ⟨fun i hi' => ?_, ?_⟩
  · by_cases q1 : i = lo e N
    · rw [q1]; omega
    · by_cases q2 : i = hi e N
      · rw [q2]; omega
      · rw [pay_o q1 q2]; exact h.1 i hi'
  · have e1 : si (fun i => (pay e N i).toInt) N = si (fun i => (e i).toInt + ((if lo e N = i then (pay e N (lo e N)).toInt - (e (lo e N)).toInt else 0) + (if hi e N = i then (pay e N (hi e N)).toInt - (e (hi e N)).toInt else 0))) N := by
      refine si_congr N (fun i _ => ?_)
      by_cases q1 : lo e N = i
      · rw [if_pos q1, if_neg (fun z => ne (q1.trans z.symm)), ← q1]; omega
      · by_cases q2 : hi e N = i
        · rw [if_neg q1, if_pos q2, ← q2]; omega
        · rw [if_neg q1, if_neg q2, pay_o (fun z => q1 z.symm) (fun z => q2 z.symm)]; omega
    rw [e1, si_add, si_add, si_one, si_one, if_pos hl, if_pos hh, h.2]
    omega
theorem z32 {x : Int32} : x.toInt = 0 ↔ x = 0 := by
  rw [← t_0, Int32.toInt_inj]
theorem pay_nz {e : Nat → Int32} {N : Nat} (hN : 0 < N) (h : ivn e N) (hg : gos e N) : nz (pay e N) N + 1 ≤ nz e N := by
  obtain ⟨ne, -, a0, b0, -, -, -, -, hz⟩ := pay_f hN h hg
  have hl := lo_lt e N hN
  have hh := hi_lt e N hN
  have nl : e (lo e N) ≠ 0 := fun z => by rw [z, t_0] at a0; omega
  have nh : e (hi e N) ≠ 0 := fun z => by rw [z, t_0] at b0; omega
  have key : ∀ z, (z = lo e N ∨ z = hi e N) → z < N → pay e N z = 0 → nz (pay e N) N + 1 ≤ nz e N := by
    intro z hz hzN h0
    have e1 : nz (pay e N) N + 1 = su (fun i => (if pay e N i = 0 then 0 else 1) + (if z = i then 1 else 0)) N := by
      rw [su_add, su_one, if_pos hzN]; rfl
    rw [e1]
    refine su_le N (fun i _ => ?_)
    by_cases q : z = i
    · have : e i ≠ 0 := by
        rcases hz with y | y
        · rw [← q, y]; exact nl
        · rw [← q, y]; exact nh
      rw [if_pos q, ← q, if_pos h0, q, if_neg this]
      exact Nat.le_refl _
    · rw [if_neg q, Nat.add_zero]
      by_cases q1 : i = lo e N
      · rw [q1, if_neg nl]; split <;> omega
      · by_cases q2 : i = hi e N
        · rw [q2, if_neg nh]; split <;> omega
        · rw [pay_o q1 q2]; exact Nat.le_refl _
  rcases hz with y | y
  · exact key _ (Or.inl rfl) hl (z32.mp y)
  · exact key _ (Or.inr rfl) hh (z32.mp y)
/-- the balances behind k payments -/
def stp (e : Nat → Int32) (N : Nat) : Nat → Nat → Int32
  | 0 => e
  | k + 1 => pay (stp e N k) N
theorem stp_end {e : Nat → Int32} {N : Nat} (hN : 0 < N) (h : ivn e N) : ∃ M, M ≤ N ∧ (∀ k, k < M → gos (stp e N k) N) ∧ ¬ gos (stp e N M) N := by
  have ex : ∃ k, k ≤ N ∧ ¬ gos (stp e N k) N := by
    apply Classical.byContradiction
    intro q
    have all : ∀ k, k ≤ N → gos (stp e N k) N := fun k hk => Classical.byContradiction (fun z => q ⟨k, hk, z⟩)
    have main : ∀ k, k ≤ N → ivn (stp e N k) N ∧ nz (stp e N k) N + k ≤ N := by
      intro k
      induction k with
      | zero =>
        intro _
        refine ⟨h, ?_⟩
        have := su_bound (f := fun i => if e i = 0 then 0 else 1) (c := 1) N (fun i _ => by show (if _ then 0 else 1) ≤ 1; split <;> omega)
        show su (fun i => if e i = 0 then 0 else 1) N + 0 ≤ N
        omega
      | succ k ih =>
        intro hk
        obtain ⟨i1, i2⟩ := ih (by omega)
        have := pay_nz hN i1 (all k (by omega))
        refine ⟨pay_iv hN i1 (all k (by omega)), ?_⟩
        show nz (pay (stp e N k) N) N + (k + 1) ≤ N
        omega
    obtain ⟨-, i2⟩ := main N (Nat.le_refl _)
    have g := all N (Nat.le_refl _)
    have hl := lo_lt (stp e N N) N hN
    have n0 : ¬ stp e N N (lo (stp e N N) N) = 0 := fun z => by
      unfold gos at g
      rw [z] at g
      exact absurd g (by decide)
    have := su_at (f := fun i => if stp e N N i = 0 then 0 else 1) hl
    rw [if_neg n0] at this
    have : 1 ≤ nz (stp e N N) N := this
    omega
  obtain ⟨M, ⟨m1, m2⟩, m3⟩ := pk_least (fun k => k ≤ N ∧ ¬ gos (stp e N k) N) ex
  exact ⟨M, m1, fun k hk => Classical.byContradiction (fun z => m3 k hk ⟨by omega, z⟩), m2⟩
theorem bal_iv {T R : Nat → Nat} (hT : toldOk T) (hr : rowOk T R) : ivn (bal T R) (T 0 + 1) := by
  have bG := b_All hT hr
  rw [← all_Got hT hr] at bG
  have bP := b_AP hT hr
  have v1 : ∀ i, i < T 0 → (bal T R i).toInt = (aHas T R i : Int) - (aGa R i : Int) := fun i hi => by
    have := b_Has hT hr i
    have := b_Ga hT hr i
    unfold bal
    rw [if_pos hi, pk_sub_toInt (by omega) (by omega)]
  have v2 : (bal T R (T 0)).toInt = (aAP T R : Int) - (su (fun b => aGot T R b) (T 0) : Int) := by
    unfold bal
    rw [if_neg (by omega), pk_sub_toInt (by omega) (by omega)]
  refine ⟨fun i hi => ?_, ?_⟩
  · by_cases q : i < T 0
    · have := b_Has hT hr i
      have := b_Ga hT hr i
      rw [v1 i q]; omega
    · rw [show i = T 0 by omega, v2]; omega
  · simp only [si]
    rw [si_congr (T 0) v1, v2, si_sub, si_nat, si_nat]
    have : su (aHas T R) (T 0) + aAP T R = su (aGa R) (T 0) + su (fun b => aGot T R b) (T 0) := all_even hT hr
    omega
