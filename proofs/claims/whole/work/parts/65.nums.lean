/-! NUMBERS: what the sums come to at most -/
theorem q_sm5 {T R : Nat → Nat} {c t g v : Nat} (h : cupOk T c) : qEh T R c t g v + qEg T R c t g v + qSh T R c t g v + qSg T R c t g v + qSp T R c t g v = v := by
  have h1 : qEh T R c t g v + qEg T R c t g v ≤ v := s_le
  have h2 : qSh T R c t g v + qSg T R c t g v + qSp T R c t g v = qRe T R c t g v := s_sum h
  have h3 : qRe T R c t g v = v - qEh T R c t g v - qEg T R c t g v := rfl
  omega
theorem ac_le {R : Nat → Nat} {f : Nat → Nat → Nat} {t B : Nat} (h4 : ∀ i, i < t → rT R i 4 ≤ 4) (h : ∀ i, i < t → ∀ g, g < rT R i 4 → f i g ≤ B) : ac R f t 0 ≤ 4 * B * t := by
  show su (fun i => su (f i) (rT R i 4)) t + 0 ≤ _
  rw [Nat.add_zero]
  refine su_bound t (fun i hi => ?_)
  refine Nat.le_trans (su_bound _ (h i hi)) ?_
  rw [Nat.mul_comm 4 B]
  exact Nat.mul_le_mul_left B (h4 i hi)
theorem su_mul {f : Nat → Nat} {k : Nat} : ∀ n, su (fun t => k * f t) n = k * su f n
  | 0 => rfl
  | n + 1 => by simp only [su, su_mul n, Nat.mul_add]
theorem su_ifk {p : Nat → Prop} [DecidablePred p] {k : Nat} (n : Nat) : su (fun t => if p t then k else 0) n = k * su (fun t => if p t then 1 else 0) n := by
  rw [← su_mul]
  refine su_congr n (fun i _ => ?_)
  by_cases h : p i
  · rw [if_pos h, if_pos h, Nat.mul_one]
  · rw [if_neg h, if_neg h, Nat.mul_zero]
section
variable {T R : Nat → Nat}
theorem q_at {t : Nat} (g : Nat) (hT : toldOk T) (hr : rowOk T R) (ht : t < R 0) : qEh T R (rT R t 0) t g (ga R t g) + qEg T R (rT R t 0) t g (ga R t g) + qSh T R (rT R t 0) t g (ga R t g) + qSg T R (rT R t 0) t g (ga R t g) + qSp T R (rT R t 0) t g (ga R t g) = ga R t g ∧ ga R t g ≤ 99999 := by
  have h1 := q_sm5 (T := T) (R := R) (t := t) (g := g) (v := ga R t g) (hT.2.2.2.2 _ (hr.2.2.1 t ht).1)
  have h2 : ga R t g < 100000 := hr.2.1 _
  exact ⟨h1, by omega⟩
theorem ac_big {f : Nat → Nat → Nat} (hr : rowOk T R) (h : ∀ i, i < R 0 → ∀ g, g < rT R i 4 → f i g ≤ 99999) : ac R f (R 0) 0 ≤ 12000000 := by
  have h1 := ac_le (f := f) (t := R 0) (row4 hr) h
  have h2 := hr.1
  omega
theorem b_Po (hT : toldOk T) (hr : rowOk T R) (k : Nat) : ac R (fPo T R k) (R 0) 0 ≤ 12000000 := ac_big hr (fun i hi g _ => by have := q_at g hT hr hi; unfold fPo; split <;> omega)
theorem b_Ex (hT : toldOk T) (hr : rowOk T R) (b : Nat) : aEx T R b ≤ 12000000 := ac_big hr (fun i hi g _ => by have := q_at g hT hr hi; unfold fEx; split <;> split <;> omega)
theorem b_Ah (hT : toldOk T) (hr : rowOk T R) (b : Nat) : aAh T R b ≤ 12000000 := ac_big hr (fun i hi g _ => by have := q_at g hT hr hi; unfold fAh; split <;> omega)
theorem b_Ag (hT : toldOk T) (hr : rowOk T R) (b : Nat) : aAg T R b ≤ 12000000 := ac_big hr (fun i hi g _ => by have := q_at g hT hr hi; unfold fAg; split <;> omega)
theorem b_Ga (hT : toldOk T) (hr : rowOk T R) (b : Nat) : aGa R b ≤ 12000000 := ac_big hr (fun i hi g _ => by have := q_at g hT hr hi; unfold fGa; split <;> omega)
theorem b_AP (hT : toldOk T) (hr : rowOk T R) : aAP T R ≤ 12000000 := ac_big hr (fun i hi g _ => by have := q_at g hT hr hi; unfold fAP; omega)
theorem b_nOf (hr : rowOk T R) (c r : Nat) : nOf R c r (R 0) ≤ 30 := by
  have h := su_bound (f := fun t => if rT R t 0 = c ∧ rT R t 1 = r then 1 else 0) (c := 1) (R 0) (fun i _ => by show (if _ then 1 else 0) ≤ 1; split <;> omega)
  have := hr.1
  unfold nOf
  omega
theorem b_many (hr : rowOk T R) (c r : Nat) : pMany T R c r ≤ 60 := by
  have := b_nOf hr c r
  unfold pMany
  split
  · omega
  · split <;> omega
theorem p_each (c r x : Nat) : pEach T R c r x * pMany T R c r ≤ x := by
  unfold pEach
  split
  · omega
  · exact Nat.div_mul_le_self _ _
theorem p_step (c r : Nat) : pE T R c r * pM T R c r + pOn T R c (r + 1) ≤ pTot T R c r := by
  have h := p_each (T := T) (R := R) c r (pTot T R c r)
  show (if cd R c r = 1 then pEach T R c r (pTot T R c r) else 0) * (if cd R c r = 1 then pMany T R c r else 0) + (if cd R c r = 1 then pTot T R c r - pEach T R c r (pTot T R c r) * pMany T R c r else 0) ≤ _
  by_cases q : cd R c r = 1
  · simp only [if_pos q]; omega
  · simp only [if_neg q]; omega
theorem p_sum (c : Nat) : ∀ n, su (fun r => pE T R c r * pM T R c r) n + pOn T R c n ≤ su (fun r => pOwn T R c r) n
  | 0 => Nat.le_refl _
  | n + 1 => by
    have h1 := p_sum c n
    have h2 := p_step (T := T) (R := R) c n
    have h3 : pTot T R c n = pOwn T R c n + pOn T R c n := rfl
    simp only [su]
    omega
theorem b_own (hT : toldOk T) (hr : rowOk T R) (c : Nat) {n : Nat} (hn : n ≤ 6) : su (fun r => pOwn T R c r) n ≤ 72000000 := by
  have := su_bound (f := fun r => pOwn T R c r) (c := 12000000) n (fun i _ => b_Po hT hr _)
  omega
theorem b_On (hT : toldOk T) (hr : rowOk T R) (c : Nat) {n : Nat} (hn : n ≤ 6) : pOn T R c n ≤ 72000000 := by
  have h1 := p_sum (T := T) (R := R) c n
  have h2 := b_own hT hr c hn
  omega
theorem b_Tot (hT : toldOk T) (hr : rowOk T R) (c : Nat) {r : Nat} (hn : r < 6) : pTot T R c r ≤ 72000000 := by
  have h1 := p_sum (T := T) (R := R) c r
  have h2 := b_own hT hr c (n := r + 1) (by omega)
  have h3 : pTot T R c r = pOwn T R c r + pOn T R c r := rfl
  simp only [su] at h2
  omega
theorem b_EM (hT : toldOk T) (hr : rowOk T R) (c : Nat) : su (fun r => pE T R c r * pM T R c r) 6 ≤ 72000000 := by
  have h1 := p_sum (T := T) (R := R) c 6
  have h2 := b_own hT hr c (n := 6) (by omega)
  omega
theorem g_R (b c r : Nat) : gR T R b c r (R 0) ≤ pE T R c r * pM T R c r := by
  unfold gR pM
  by_cases q : cd R c r = 1
  · rw [if_pos q, if_pos q]
    have key : ∀ m : Nat, (∀ t, gG T R b c r t ≤ if rT R t 0 = c ∧ rT R t 1 = r then m * pE T R c r else 0) → su (gG T R b c r) (R 0) ≤ pE T R c r * (m * nOf R c r (R 0)) := by
      intro m hm
      refine Nat.le_trans (su_le (R 0) (fun t _ => hm t)) ?_
      rw [su_ifk, Nat.mul_comm m (pE T R c r), Nat.mul_assoc]
      exact Nat.le_refl _
    unfold pMany
    by_cases w3 : tC T c (11 + r) = 3
    · rw [if_pos w3]
      have := key 0 (fun t => by unfold gG; rw [if_neg (show ¬ (wnr R t = b ∧ tC T c (11 + r) < 2) by omega), if_neg (show ¬ (lsr R t = b ∧ (tC T c (11 + r) = 1 ∨ tC T c (11 + r) = 2)) by omega)]; split <;> omega)
      rw [Nat.zero_mul] at this
      exact this
    · rw [if_neg w3]
      by_cases w1 : tC T c (11 + r) = 1
      · rw [if_pos w1]
        exact key 2 (fun t => by
          unfold gG
          by_cases o : rT R t 0 = c ∧ rT R t 1 = r
          · rw [if_pos o, if_pos o]
            split <;> split <;> omega
          · rw [if_neg o, if_neg o]; exact Nat.le_refl _)
      · rw [if_neg w1]
        have := key 1 (fun t => by
          unfold gG
          by_cases o : rT R t 0 = c ∧ rT R t 1 = r
          · rw [if_pos o, if_pos o]
            by_cases w0 : tC T c (11 + r) < 2
            · rw [if_neg (show ¬ (lsr R t = b ∧ (tC T c (11 + r) = 1 ∨ tC T c (11 + r) = 2)) by omega)]
              split <;> omega
            · rw [if_neg (show ¬ (wnr R t = b ∧ tC T c (11 + r) < 2) by omega)]
              split <;> omega
          · rw [if_neg o, if_neg o]; exact Nat.le_refl _)
        rw [Nat.one_mul] at this
        exact this
  · rw [if_neg q]; exact Nat.zero_le _
theorem b_Got (hT : toldOk T) (hr : rowOk T R) (b : Nat) : aGot T R b ≤ 288000000 := by
  have h1 : ∀ c, gC T R b c 6 ≤ 72000000 := fun c => Nat.le_trans (su_le 6 (fun r _ => g_R b c r)) (b_EM hT hr c)
  have h2 := su_bound (f := fun c => gC T R b c 6) (c := 72000000) (T 1) (fun c _ => h1 c)
  have := hT.2.1
  unfold aGot
  omega
theorem b_Has (hT : toldOk T) (hr : rowOk T R) (b : Nat) : aHas T R b ≤ 324000000 := by
  have h1 := b_Ex hT hr b
  have h2 := b_Ah hT hr b
  have h3 := b_Ag hT hr b
  have h4 := b_Got hT hr b
  unfold aHas
  omega
theorem b_La (hT : toldOk T) (b : Nat) : aLa T R b < 100000 := by
  have : tB T b 2 < 100000 := hT.2.2.1 _
  unfold aLa
  omega
theorem b_Ke (hT : toldOk T) (hr : rowOk T R) : aKe T R ≤ 288000000 := by
  have h2 := su_bound (f := fun c => pOn T R c 6) (c := 72000000) (T 1) (fun c _ => b_On hT hr c (by omega))
  have := hT.2.1
  unfold aKe
  omega
theorem b_All (hT : toldOk T) (hr : rowOk T R) : su (fun c => su (fun r => pE T R c r * pM T R c r) 6) (T 1) ≤ 288000000 := by
  have h2 := su_bound (f := fun c => su (fun r => pE T R c r * pM T R c r) 6) (c := 72000000) (T 1) (fun c _ => b_EM hT hr c)
  have := hT.2.1
  omega
theorem nK_nOf (hr : rowOk T R) {c r : Nat} (hr6 : r < 6) : ∀ n, n ≤ R 0 → nK R (6 * c + r) n = nOf R c r n := by
  intro n hn
  refine su_congr n (fun t ht => ?_)
  have := (hr.2.2.1 t (by omega)).2.1
  by_cases q : rT R t 0 = c ∧ rT R t 1 = r
  · rw [if_pos (by omega), if_pos q]
  · rw [if_neg (by omega), if_neg q]
end
