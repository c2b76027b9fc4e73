/-! FEWEST: sets as bits, the most groups -/
section
variable {o : Nat → Int32}
theorem rm_bit {S k j : Nat} (h : S.testBit k = true) : (S ^^^ 2 ^ k).testBit j = true ↔ S.testBit j = true ∧ j ≠ k := by
  rw [Nat.testBit_xor, Nat.testBit_two_pow]
  by_cases q : k = j
  · subst q
    rw [h]
    simp
  · simp [q]
    intro _ z
    exact q z.symm
theorem rm_lt {S k : Nat} (h : S.testBit k = true) : S ^^^ 2 ^ k < S := by
  have h1 : S ^^^ 2 ^ k ≤ S := Nat.le_of_testBit (fun i hi => ((rm_bit h).mp hi).1)
  have h2 : S ^^^ 2 ^ k ≠ S := fun z => by
    have := (rm_bit (j := k) h).mp (by rw [z]; exact h)
    exact this.2 rfl
  omega
/-- the sum of a set, of the first n -/
def sm (o : Nat → Int32) (S : Nat) : Nat → Int32
  | 0 => 0
  | n + 1 => sm o S n + (if S.testBit n = true then o n else 0)
theorem sm_0 : ∀ n, sm o 0 n = 0
  | 0 => rfl
  | n + 1 => by simp only [sm, sm_0 n, Nat.zero_testBit]; rfl
theorem sm_or {A B : Nat} (h : ∀ i, A.testBit i = true → ¬ B.testBit i = true) : ∀ n, sm o (A ||| B) n = sm o A n + sm o B n
  | 0 => rfl
  | n + 1 => by
    have hn := h n
    simp only [sm, sm_or h n, Nat.testBit_or]
    by_cases a : A.testBit n = true
    · have b : ¬ B.testBit n = true := hn a
      simp only [a, b, Bool.true_or, if_true, if_false, Int32.add_zero]
      ac_rfl
    · by_cases b : B.testBit n = true
      · simp only [a, b, Bool.or_true, if_true, if_false, Int32.add_zero]
        ac_rfl
      · have a' : A.testBit n = false := by simpa using a
        have b' : B.testBit n = false := by simpa using b
        simp only [a', b', Bool.or_false, Bool.false_eq_true, if_false, Int32.add_zero]
theorem sm_one {k : Nat} : ∀ n, sm o (2 ^ k) n = if k < n then o k else 0
  | 0 => by simp [sm]
  | n + 1 => by
    simp only [sm, sm_one n, Nat.testBit_two_pow]
    by_cases q : k < n
    · rw [if_pos q, if_neg (by simp; omega), if_pos (by omega), Int32.add_zero]
    · by_cases e : k = n
      · subst e
        rw [if_neg q, if_pos (by simp), if_pos (by omega), Int32.zero_add]
      · rw [if_neg q, if_neg (by simp; omega), if_neg (by omega)]; rfl
theorem sm_rm {S k n : Nat} (h : S.testBit k = true) (hk : k < n) : sm o (S ^^^ 2 ^ k) n + o k = sm o S n := by
  have e : (S ^^^ 2 ^ k) ||| 2 ^ k = S := by
    apply Nat.eq_of_testBit_eq
    intro j
    rw [Nat.testBit_or, Nat.testBit_xor, Nat.testBit_two_pow]
    by_cases q : k = j
    · subst q; rw [h]; simp
    · simp [q]
  have h1 := sm_or (o := o) (A := S ^^^ 2 ^ k) (B := 2 ^ k) (fun i hi z => by
    rw [Nat.testBit_two_pow] at z
    have := ((rm_bit h).mp hi).2
    simp at z
    omega) n
  rw [e, sm_one, if_pos hk] at h1
  exact h1.symm
theorem sm_lt {S n : Nat} (h : S < 2 ^ n) : sm o S (n + 1) = sm o S n := by
  simp only [sm]
  rw [Nat.testBit_lt_two_pow h]
  simp
def zz (o : Nat → Int32) (n S : Nat) : Nat := if sm o S n = 0 then 1 else 0
/-- a table of the most groups, of the sets below s -/
def tb (o : Nat → Int32) (n s : Nat) (g : Nat → Nat) : Prop := g 0 = 0 ∧ ∀ S, 0 < S → S < s → (∀ k, k < n → S.testBit k = true → g (S ^^^ 2 ^ k) + zz o n S ≤ g S) ∧ ∃ k, k < n ∧ S.testBit k = true ∧ g S = g (S ^^^ 2 ^ k) + zz o n S
theorem zz_le {n S : Nat} : zz o n S ≤ 1 := by unfold zz; split <;> omega
theorem tb_le {n s : Nat} {g : Nat → Nat} (h : tb o n s g) : ∀ S, S < s → g S ≤ S := by
  intro S
  induction S using Nat.strongRecOn with
  | ind S ih =>
    intro hS
    by_cases q : S = 0
    · rw [q, h.1]; exact Nat.le_refl _
    · obtain ⟨k, -, hb, e⟩ := (h.2 S (by omega) hS).2
      have hl := rm_lt hb
      have := ih _ hl (by omega)
      have := zz_le (o := o) (n := n) (S := S)
      omega
def bst (g : Nat → Nat) (s k b : Nat) : Prop := (∀ i, i < k → s.testBit i = true → g (s ^^^ 2 ^ i) ≤ b) ∧ (b = 0 ∨ ∃ i, i < k ∧ s.testBit i = true ∧ b = g (s ^^^ 2 ^ i))
theorem bst_0 {g : Nat → Nat} {s t : Nat} (h : ∀ i, i < t → ¬ s.testBit i = true) : bst g s t 0 := ⟨fun i hi z => absurd z (h i hi), Or.inl rfl⟩
theorem bst_y {g : Nat → Nat} {s k b : Nat} (h : bst g s k b) (hk : s.testBit k = true) : bst g s (k + 1) (max b (g (s ^^^ 2 ^ k))) := by
  refine ⟨fun i hi z => ?_, ?_⟩
  · by_cases q : i = k
    · rw [q]; exact Nat.le_max_right _ _
    · exact Nat.le_trans (h.1 i (by omega) z) (Nat.le_max_left _ _)
  · by_cases q : b ≤ g (s ^^^ 2 ^ k)
    · rw [Nat.max_eq_right q]
      exact Or.inr ⟨k, by omega, hk, rfl⟩
    · rw [Nat.max_eq_left (by omega)]
      rcases h.2 with z | ⟨i, a, b', c⟩
      · exact Or.inl z
      · exact Or.inr ⟨i, by omega, b', c⟩
theorem bst_n {g : Nat → Nat} {s k b : Nat} (h : bst g s k b) (hk : ¬ s.testBit k = true) : bst g s (k + 1) b := by
  refine ⟨fun i hi z => ?_, ?_⟩
  · by_cases q : i = k
    · rw [q] at z; exact absurd z hk
    · exact h.1 i (by omega) z
  · rcases h.2 with z | ⟨i, a, b', c⟩
    · exact Or.inl z
    · exact Or.inr ⟨i, by omega, b', c⟩
theorem bst_le {n s k b : Nat} {g : Nat → Nat} (h : tb o n s g) (hb : bst g s k b) : b ≤ s := by
  rcases hb.2 with z | ⟨i, -, b', c⟩
  · omega
  · have := rm_lt b'
    have := tb_le h _ this
    omega
theorem bit_ex {s n : Nat} (h0 : 0 < s) (hs : s < 2 ^ n) : ∃ i, i < n ∧ s.testBit i = true := by
  obtain ⟨i, hi⟩ := Nat.exists_testBit_of_ne_zero (x := s) (by omega)
  refine ⟨i, ?_, hi⟩
  apply Classical.byContradiction
  intro q
  have := Nat.ge_two_pow_of_testBit hi
  have : 2 ^ n ≤ 2 ^ i := Nat.pow_le_pow_right (by decide) (by omega)
  omega
theorem tUp_s {P : Nat → Nat} {k v : Nat} : tUp P k v k = v := if_pos rfl
theorem tUp_n {P : Nat → Nat} {k v i : Nat} (h : i ≠ k) : tUp P k v i = P i := if_neg h
theorem tb_s {n s b : Nat} {g : Nat → Nat} (h : tb o n s g) (h0 : 0 < s) (hs : s < 2 ^ n) (hb : bst g s n b) : tb o n (s + 1) (tUp g s (b + zz o n s)) := by
  refine ⟨?_, fun S S0 hS => ?_⟩
  · rw [tUp_n (by omega)]; exact h.1
  · by_cases q : S = s
    · subst q
      have ex := bit_ex S0 hs
      refine ⟨fun k hk hbk => ?_, ?_⟩
      · have := rm_lt hbk
        rw [tUp_n (by omega), tUp_s]
        have := hb.1 k hk hbk
        omega
      · rcases hb.2 with z | ⟨i, a, b', c⟩
        · obtain ⟨i, hi, hbi⟩ := ex
          have := rm_lt hbi
          refine ⟨i, hi, hbi, ?_⟩
          rw [tUp_s, tUp_n (by omega)]
          have := hb.1 i hi hbi
          omega
        · have := rm_lt b'
          refine ⟨i, a, b', ?_⟩
          rw [tUp_s, tUp_n (by omega), c]
    · obtain ⟨h1, k, a, b', c⟩ := h.2 S S0 (by omega)
      refine ⟨fun k hk hbk => ?_, k, a, b', ?_⟩
      · have := rm_lt hbk
        rw [tUp_n (by omega), tUp_n q]
        exact h1 k hk hbk
      · have := rm_lt b'
        rw [tUp_n q, tUp_n (by omega)]
        exact c
/-- two tables are alike -/
theorem tb_eq {n s : Nat} {g f : Nat → Nat} (h : tb o n s g) (h' : tb o n s f) : ∀ S, S < s → g S = f S := by
  intro S
  induction S using Nat.strongRecOn with
  | ind S ih =>
    intro hS
    by_cases q : S = 0
    · rw [q, h.1, h'.1]
    · obtain ⟨a1, k, a2, a3, a4⟩ := h.2 S (by omega) hS
      obtain ⟨b1, i, b2, b3, b4⟩ := h'.2 S (by omega) hS
      have e1 := ih _ (rm_lt a3) (by have := rm_lt a3; omega)
      have e2 := ih _ (rm_lt b3) (by have := rm_lt b3; omega)
      have c1 := b1 k a2 a3
      have c2 := a1 i b2 b3
      omega
theorem tb_n {n : Nat} {g : Nat → Nat} (h : tb o (n + 1) (2 ^ (n + 1)) g) : tb o n (2 ^ n) g := by
  have hp : 2 ^ n ≤ 2 ^ (n + 1) := Nat.pow_le_pow_right (by decide) (by omega)
  refine ⟨h.1, fun S S0 hS => ?_⟩
  obtain ⟨a1, k, a2, a3, a4⟩ := h.2 S S0 (by omega)
  have e : zz o (n + 1) S = zz o n S := by unfold zz; rw [sm_lt hS]
  rw [e] at a1 a4
  refine ⟨fun k hk hb => a1 k (by omega) hb, k, ?_, a3, a4⟩
  apply Classical.byContradiction
  intro q
  have := Nat.ge_two_pow_of_testBit a3
  have : 2 ^ n ≤ 2 ^ k := Nat.pow_le_pow_right (by decide) (by omega)
  omega
section
variable {n : Nat} {g : Nat → Nat}
theorem g_mono (h : tb o n (2 ^ n) g) {A : Nat} : ∀ B, B < 2 ^ n → (∀ i, A.testBit i = true → B.testBit i = true) → g A ≤ g B := by
  intro B
  induction B using Nat.strongRecOn with
  | ind B ih =>
    intro hB hs
    by_cases q : A = B
    · rw [q]; exact Nat.le_refl _
    · obtain ⟨k, hk⟩ := Nat.exists_testBit_ne_of_ne q
      have hk2 : B.testBit k = true ∧ ¬ A.testBit k = true := by
        by_cases a : A.testBit k = true
        · exact absurd (a.trans (hs k a).symm) hk
        · refine ⟨?_, a⟩
          apply Classical.byContradiction
          intro b
          apply hk
          have a' : A.testBit k = false := by simpa using a
          have b' : B.testBit k = false := by simpa using b
          rw [a', b']
      have hl := rm_lt hk2.1
      have h1 := ih _ hl (by omega) (fun i hi => (rm_bit hk2.1).mpr ⟨hs i hi, fun z => by rw [z] at hi; exact hk2.2 hi⟩)
      have hkn : k < n := by
        apply Classical.byContradiction
        intro q2
        have := Nat.ge_two_pow_of_testBit hk2.1
        have : 2 ^ n ≤ 2 ^ k := Nat.pow_le_pow_right (by decide) (by omega)
        omega
      have h2 := (h.2 B (by omega) hB).1 k hkn hk2.1
      omega
theorem g_add (h : tb o n (2 ^ n) g) {A : Nat} (hA : sm o A n = 0) : ∀ B, A ||| B < 2 ^ n → (∀ i, A.testBit i = true → ¬ B.testBit i = true) → g A + g B ≤ g (A ||| B) := by
  intro B
  induction B using Nat.strongRecOn with
  | ind B ih =>
    intro hB hd
    by_cases q : B = 0
    · rw [q, h.1, Nat.or_zero]; exact Nat.le_refl _
    · have hBl : B ≤ A ||| B := Nat.right_le_or
      obtain ⟨a1, k, a2, a3, a4⟩ := h.2 B (by omega) (by omega)
      have hl := rm_lt a3
      have hkA : ¬ A.testBit k = true := fun z => hd k z a3
      have hkU : (A ||| B).testBit k = true := by rw [Nat.testBit_or, a3, Bool.or_true]
      have e : A ||| (B ^^^ 2 ^ k) = (A ||| B) ^^^ 2 ^ k := by
        apply Nat.eq_of_testBit_eq
        intro j
        rw [Nat.testBit_or, Nat.testBit_xor, Nat.testBit_xor, Nat.testBit_or, Nat.testBit_two_pow]
        by_cases y : k = j
        · subst y
          have a' : A.testBit k = false := by simpa using hkA
          rw [a', a3]; rfl
        · simp [y]
      have hlU := rm_lt hkU
      have h1 := ih _ hl (by rw [e]; omega) (fun i hi z => hd i hi ((rm_bit a3).mp z).1)
      rw [e] at h1
      have h2 := (h.2 (A ||| B) (by omega) hB).1 k a2 hkU
      have e2 : zz o n (A ||| B) = zz o n B := by unfold zz; rw [sm_or hd, hA, Int32.zero_add]
      omega
theorem g_zero (h : tb o n (2 ^ n) g) : ∀ S, S < 2 ^ n → ∃ Z, (∀ i, Z.testBit i = true → S.testBit i = true) ∧ sm o Z n = 0 ∧ g S = g Z := by
  intro S
  induction S using Nat.strongRecOn with
  | ind S ih =>
    intro hS
    by_cases q : sm o S n = 0
    · exact ⟨S, fun _ z => z, q, rfl⟩
    · by_cases q0 : S = 0
      · rw [q0] at q; exact absurd (sm_0 n) q
      · obtain ⟨a1, k, a2, a3, a4⟩ := h.2 S (by omega) hS
        have hl := rm_lt a3
        obtain ⟨Z, z1, z2, z3⟩ := ih _ hl (by omega)
        refine ⟨Z, fun i hi => ((rm_bit a3).mp (z1 i hi)).1, z2, ?_⟩
        have : zz o n S = 0 := if_neg q
        omega
/-- of a set that comes to 0 each can stand last -/
theorem g_last (h : tb o n (2 ^ n) g) : ∀ F, F < 2 ^ n → sm o F n = 0 → ∀ m, F.testBit m = true → g F = g (F ^^^ 2 ^ m) + 1 := by
  intro F
  induction F using Nat.strongRecOn with
  | ind F ih =>
    intro hF hz m hm
    have F0 : 0 < F := by have := rm_lt hm; omega
    obtain ⟨a1, k, a2, a3, a4⟩ := h.2 F F0 hF
    have zF : zz o n F = 1 := if_pos hz
    rw [zF] at a1 a4
    have bn : ∀ i, F.testBit i = true → i < n := fun i hi => by
      apply Classical.byContradiction
      intro q2
      have := Nat.ge_two_pow_of_testBit hi
      have : 2 ^ n ≤ 2 ^ i := Nat.pow_le_pow_right (by decide) (by omega)
      omega
    have ge := a1 m (bn m hm) hm
    have hlk := rm_lt a3
    obtain ⟨Z, z1, z2, z3⟩ := g_zero h (F ^^^ 2 ^ k) (by omega)
    have zF' : ∀ i, Z.testBit i = true → F.testBit i = true := fun i hi => ((rm_bit a3).mp (z1 i hi)).1
    have hkZ : ¬ Z.testBit k = true := fun z => ((rm_bit a3).mp (z1 k z)).2 rfl
    have hlm := rm_lt hm
    by_cases q : Z.testBit m = true
    · have ZF : Z < F := by
        have h1 : Z ≤ F := Nat.le_of_testBit zF'
        have h2 : Z ≠ F := fun z => hkZ (by rw [z]; exact a3)
        omega
      have e1 := ih Z ZF (by omega) z2 m q
      -- the rest
      have Lb : ∀ i, (F ^^^ Z).testBit i = true ↔ F.testBit i = true ∧ ¬ Z.testBit i = true := fun i => by
        rw [Nat.testBit_xor]
        have := zF' i
        cases hF' : F.testBit i <;> cases hZ' : Z.testBit i <;> simp_all
      have eU : Z ||| (F ^^^ Z) = F := by
        apply Nat.eq_of_testBit_eq
        intro i
        rw [Nat.testBit_or, Nat.testBit_xor]
        have := zF' i
        cases hF' : F.testBit i <;> cases hZ' : Z.testBit i <;> simp_all
      have sL : sm o (F ^^^ Z) n = 0 := by
        have := sm_or (o := o) (A := Z) (B := F ^^^ Z) (fun i hi z => ((Lb i).mp z).2 hi) n
        rw [eU, hz, z2, Int32.zero_add] at this
        exact this.symm
      have kL : (F ^^^ Z).testBit k = true := (Lb k).mpr ⟨a3, hkZ⟩
      have LF : F ^^^ Z ≤ F := Nat.le_of_testBit (fun i hi => ((Lb i).mp hi).1)
      have gL : 1 ≤ g (F ^^^ Z) := by
        have := rm_lt kL
        have := (h.2 (F ^^^ Z) (by omega) (by omega)).1 k a2 kL
        have zL : zz o n (F ^^^ Z) = 1 := if_pos sL
        omega
      have hmL : ¬ (F ^^^ Z).testBit m = true := fun z => ((Lb m).mp z).2 q
      have eM : (F ^^^ Z) ||| (Z ^^^ 2 ^ m) = F ^^^ 2 ^ m := by
        apply Nat.eq_of_testBit_eq
        intro i
        rw [Nat.testBit_or, Nat.testBit_xor, Nat.testBit_xor, Nat.testBit_xor, Nat.testBit_two_pow]
        have := zF' i
        by_cases y : m = i
        · subst y
          rw [q, hm]; simp
        · cases hF' : F.testBit i <;> cases hZ' : Z.testBit i <;> simp_all
      have sup := g_add h sL (Z ^^^ 2 ^ m) (by rw [eM]; omega) (fun i hi z => ((Lb i).mp hi).2 ((rm_bit q).mp z).1)
      rw [eM] at sup
      omega
    · have := g_mono h (A := Z) (F ^^^ 2 ^ m) (by omega) (fun i hi => (rm_bit hm).mpr ⟨zF' i hi, fun z => by rw [z] at hi; exact q hi⟩)
      omega
end
theorem full_rm {n : Nat} : (2 ^ (n + 1) - 1) ^^^ 2 ^ n = 2 ^ n - 1 := by
  apply Nat.eq_of_testBit_eq
  intro i
  rw [Nat.testBit_xor, Nat.testBit_two_pow_sub_one, Nat.testBit_two_pow, Nat.testBit_two_pow_sub_one]
  by_cases q : n = i
  · subst q; simp
  · by_cases q2 : i < n
    · simp [q, q2]; omega
    · simp [q, q2]; omega
def s32 (o : Nat → Int32) : Nat → Int32
  | 0 => 0
  | n + 1 => s32 o n + o n
theorem sm_full {n : Nat} : ∀ k, k ≤ n → sm o (2 ^ n - 1) k = s32 o k
  | 0, _ => rfl
  | k + 1, h => by
    have ih := sm_full (n := n) k (by omega)
    simp only [sm, s32, Nat.testBit_two_pow_sub_one]
    rw [ih, if_pos (by simp; omega)]
/-- the two answers -/
theorem g_both {n : Nat} {g f : Nat → Nat} (h : tb o (n + 1) (2 ^ (n + 1)) g) (h' : tb o n (2 ^ n) f) (hz : s32 o (n + 1) = 0) : g (2 ^ (n + 1) - 1) = f (2 ^ n - 1) + 1 := by
  have p1 : 0 < 2 ^ (n + 1) := Nat.two_pow_pos _
  have p2 : 0 < 2 ^ n := Nat.two_pow_pos _
  have e := g_last h (2 ^ (n + 1) - 1) (by omega) (by rw [sm_full (n + 1) (Nat.le_refl _)]; exact hz) n (by rw [Nat.testBit_two_pow_sub_one]; simp)
  rw [full_rm] at e
  rw [e, tb_eq (tb_n h) h' (2 ^ n - 1) (by omega)]
theorem s32_si : ∀ n, s32 o n = Int32.ofInt (si (fun i => (o i).toInt) n)
  | 0 => rfl
  | n + 1 => by simp only [s32, si, Int32.ofInt_add, Int32.ofInt_toInt, s32_si n]
end
/-! the uneven ones in a row -/
def uc (e : Nat → Int32) : Nat → Nat
  | 0 => 0
  | k + 1 => if e k = 0 then uc e k else uc e k + 1
def ob (e : Nat → Int32) : Nat → Nat → Int32
  | 0 => fun _ => 0
  | k + 1 => fun i => if e k = 0 then ob e k i else if i = uc e k then e k else ob e k i
theorem uc_le (e : Nat → Int32) : ∀ k, uc e k ≤ k
  | 0 => Nat.le_refl _
  | k + 1 => by
    have := uc_le e k
    simp only [uc]
    split <;> omega
theorem s32_congr {f g : Nat → Int32} : ∀ n, (∀ i, i < n → f i = g i) → s32 f n = s32 g n
  | 0, _ => rfl
  | n + 1, h => by simp only [s32]; rw [s32_congr n (fun i hi => h i (by omega)), h n (by omega)]
theorem ob_sum (e : Nat → Int32) : ∀ k, s32 (ob e k) (uc e k) = s32 e k
  | 0 => rfl
  | k + 1 => by
    have ih := ob_sum e k
    by_cases q : e k = 0
    · have e1 : uc e (k + 1) = uc e k := if_pos q
      rw [e1]
      simp only [s32]
      rw [q, Int32.add_zero, ← ih]
      exact s32_congr _ (fun i _ => if_pos q)
    · have e1 : uc e (k + 1) = uc e k + 1 := if_neg q
      rw [e1]
      simp only [s32]
      rw [← ih]
      congr 1
      · refine s32_congr _ (fun i hi => ?_)
        simp only [ob]
        rw [if_neg q, if_neg (by omega)]
      · simp only [ob]
        rw [if_neg q, if_pos trivial]
theorem ob_zero {e : Nat → Int32} {N : Nat} (h : ivn e N) : s32 (ob e N) (uc e N) = 0 := by
  rw [ob_sum, s32_si, h.2]
  rfl
