/-! ACTS: who plays, who has won; tie, play -/
def plN (R : Nat → Nat) (c r a n : Nat) : Prop := ∃ t, t < n ∧ isO R t c r ∧ (rT R t 2 = a ∨ rT R t 3 = a)
def wnN (R : Nat → Nat) (c r a n : Nat) : Prop := ∃ t, t < n ∧ isO R t c r ∧ de R t ∧ wnr R t = a
theorem plN_s {R : Nat → Nat} {c r a n : Nat} : plN R c r a (n + 1) ↔ plN R c r a n ∨ (isO R n c r ∧ (rT R n 2 = a ∨ rT R n 3 = a)) := by
  constructor
  · rintro ⟨t, ht, q⟩
    by_cases e : t = n
    · subst e; exact Or.inr q
    · exact Or.inl ⟨t, by omega, q⟩
  · rintro (⟨t, ht, q⟩ | q)
    · exact ⟨t, by omega, q⟩
    · exact ⟨n, by omega, q⟩
theorem wnN_s {R : Nat → Nat} {c r a n : Nat} : wnN R c r a (n + 1) ↔ wnN R c r a n ∨ (isO R n c r ∧ de R n ∧ wnr R n = a) := by
  constructor
  · rintro ⟨t, ht, q⟩
    by_cases e : t = n
    · subst e; exact Or.inr q
    · exact Or.inl ⟨t, by omega, q⟩
  · rintro (⟨t, ht, q⟩ | q)
    · exact ⟨t, by omega, q⟩
    · exact ⟨n, by omega, q⟩
theorem nm2 {n : Nat} (h : n < 2 ^ 31) : ¬ -2 = nI n := fun e => by
  have := congrArg Int32.toInt e
  rw [nI_toInt h] at this
  have h1 : (-2 : Int32).toInt = -2 := rfl
  rw [h1] at this
  omega
theorem nm1' {n : Nat} (h : n < 2 ^ 31) : ¬ -1 = nI n := fun e => nm1 h e.symm
theorem wnr_lt {T R : Nat → Nat} {t : Nat} (hr : rowOk T R) (ht : t < R 0) (hd : de R t) : wnr R t < T 0 ∧ lsr R t < T 0 := by
  obtain ⟨-, -, k2, k3, -, -, k6, -⟩ := hr.2.2.1 t ht
  have h1 := hd.1
  have h2 := hd.2
  have h3 := k6 (rT R t 4 - 1) (by omega)
  unfold wnr lsr
  have : wo R t (rT R t 4 - 1) = 0 ∨ wo R t (rT R t 4 - 1) = 1 := by omega
  rcases this with e | e
  · rw [e]; exact ⟨k2, k3⟩
  · rw [e]; exact ⟨k3, k2⟩
section
variable {σ : Sg} {T R : Nat → Nat} {c r a : Nat} {K : Int32 → Sg → Prop}
theorem c_isIn (hs : sea σ 55 R) (hr : rowOk T R) (hc : c < 2 ^ 31) (hr' : r < 2 ^ 31) (ha : a < 2 ^ 31) (hK : br (plN R c r a (R 0)) (K 1 σ) (K 0 σ)) : wp_X6_isIn 55 (nI c) (nI r) (nI a) σ K := by
  have h30 := hr.1
  have main : ∀ d t, t + d = R 0 → ¬ plN R c r a t → b_X6_isIn_3 55 (nI c) (nI r) (nI a) K (d + 1) (nI t) σ := by
    intro d
    induction d with
    | zero =>
      intro t ht hn
      have : t = R 0 := by omega
      subst this
      refine br_t ?_ (hK.2 hn)
      rw [hs.1]
      exact nI_le (Nat.le_refl _) (by omega)
    | succ d ih =>
      intro t ht hn
      obtain ⟨-, -, e3, e4, -, -⟩ := hs.2.2 t (by omega)
      have b2 : rT R t 2 < 100000 := hr.2.1 _
      have b3 : rT R t 3 < 100000 := hr.2.1 _
      refine br_f ?_ ?_
      · rw [hs.1]
        exact nI_ge (by omega) (by omega)
      · rw [c_isOf hs hr (by omega) hc hr']
        by_cases q : isO R t c r
        · rw [br_T q, br_F (by decide)]
          simp (disch := omega) only [vin_T, cl_I, true_and, e3, e4, nI_eq, forall_eq, nI_1]
          have yes : (rT R t 2 = a ∨ rT R t 3 = a) → K 1 σ := fun z => hK.1 ⟨t, by omega, q, z⟩
          refine ⟨fun z => yes (Or.inl z), fun z => ⟨fun z2 => yes (Or.inr z2), fun z2 => ih (t + 1) (by omega) ?_⟩⟩
          rw [plN_s]
          rintro (y | ⟨-, y⟩)
          · exact hn y
          · omega
        · rw [br_F q, br_T rfl]
          intro v ev
          rw [ev, nI_1]
          refine ih (t + 1) (by omega) ?_
          rw [plN_s]
          rintro (y | ⟨y, -⟩)
          · exact hn y
          · exact q y
  exact ⟨_, main (R 0) 0 (by omega) (by rintro ⟨t, ht, -⟩; omega)⟩
theorem c_hasWon (hs : sea σ 55 R) (hr : rowOk T R) (hT : T 0 ≤ 12) (hc : c < 2 ^ 31) (hr' : r < 2 ^ 31) (ha : a < 2 ^ 31) (hK : br (wnN R c r a (R 0)) (K 1 σ) (K 0 σ)) : wp_X6_hasWonIn 55 (nI c) (nI r) (nI a) σ K := by
  have h30 := hr.1
  have main : ∀ d t, t + d = R 0 → ¬ wnN R c r a t → b_X6_hasWonIn_3 55 (nI c) (nI r) (nI a) K (d + 1) (nI t) σ := by
    intro d
    induction d with
    | zero =>
      intro t ht hn
      have : t = R 0 := by omega
      subst this
      refine br_t ?_ (hK.2 hn)
      rw [hs.1]
      exact nI_le (Nat.le_refl _) (by omega)
    | succ d ih =>
      intro t ht hn
      have step : ¬ (isO R t c r ∧ de R t ∧ wnr R t = a) → ∀ v : Int32, v = nI t + 1 → b_X6_hasWonIn_3 55 (nI c) (nI r) (nI a) K (d + 1) v σ := by
        intro z v ev
        rw [ev, nI_1]
        refine ih (t + 1) (by omega) ?_
        rw [wnN_s]
        rintro (y | y)
        · exact hn y
        · exact z y
      refine br_f ?_ ?_
      · rw [hs.1]
        exact nI_ge (by omega) (by omega)
      · rw [c_isOf hs hr (by omega) hc hr']
        by_cases q : isO R t c r
        · rw [br_T q, br_F (by decide), c_win hs hr (by omega)]
          by_cases q2 : de R t
          · have hw := (wnr_lt hr (show t < R 0 by omega) q2).1
            rw [br_T q2, br_iff (nI_eq (by omega) ha)]
            exact ⟨fun z => hK.1 ⟨t, by omega, q, q2, z⟩, fun z => step (fun y => z y.2.2)⟩
          · rw [br_F q2, br_F (nm2 ha)]
            exact step (fun y => q2 y.2.1)
        · rw [br_F q, br_T rfl]
          exact step (fun y => q y.1)
  exact ⟨_, main (R 0) 0 (by omega) (by rintro ⟨t, ht, -⟩; omega)⟩
theorem m_plays (hR : rowR (σ 236) R) (hr : rowOk T R) (hc : c < 2 ^ 31) (hr' : r < 2 ^ 31) (ha : a < 2 ^ 31) (hK : br (plN R c r a (R 0)) (K 1 σ) (K 0 σ)) : wp_X10_plays (nI a) (nI c) (nI r) σ K := by
  have h30 := hr.1
  have e0 := hR 0 (by omega)
  have main : ∀ d t (y : Int32), t + d = R 0 → ((y = 1 ∧ plN R c r a t) ∨ (y = 0 ∧ ¬ plN R c r a t)) → b_X10_plays_6 (nI a) (nI c) (nI r) K (d + 1) y (nI t) σ := by
    intro d
    induction d with
    | zero =>
      intro t y ht hn
      have : t = R 0 := by omega
      subst this
      refine br_t ?_ ?_
      · rw [e0]
        exact nI_le (Nat.le_refl _) (by omega)
      · rcases hn with ⟨e, z⟩ | ⟨e, z⟩
        · rw [e]; exact ⟨isZ_1, hK.1 z⟩
        · rw [e]; exact ⟨isZ_0, hK.2 z⟩
    | succ d ih =>
      intro t y ht hn
      have b2 : rT R t 2 < 100000 := hr.2.1 _
      have b3 : rT R t 3 < 100000 := hr.2.1 _
      refine br_f ?_ ?_
      · rw [e0]
        exact nI_ge (by omega) (by omega)
      · have one : plN R c r a (t + 1) → ∀ v : Int32, v = nI t + 1 → b_X10_plays_6 (nI a) (nI c) (nI r) K (d + 1) 1 v σ := by
          intro z v ev
          rw [ev, nI_1]
          exact ih (t + 1) 1 (by omega) (Or.inl ⟨rfl, z⟩)
        have zero : ¬ plN R c r a (t + 1) → ∀ v : Int32, v = nI t + 1 → b_X10_plays_6 (nI a) (nI c) (nI r) K (d + 1) 0 v σ := by
          intro z v ev
          rw [ev, nI_1]
          exact ih (t + 1) 0 (by omega) (Or.inr ⟨rfl, z⟩)
        rcases hn with ⟨e, z⟩ | ⟨e, z⟩
        · rw [br_F (by rw [e]; decide)]
          exact one (plN_s.mpr (Or.inl z))
        · rw [br_T e, m_isOf hR hr (by omega) hc hr']
          by_cases q : isO R t c r
          · rw [br_T q, br_F (by decide), L2, m_tie hR (by omega), br_iff (nI_eq (by omega) ha)]
            refine ⟨fun q2 => one (plN_s.mpr (Or.inr ⟨q, Or.inl q2⟩)), fun q2 => ?_⟩
            rw [L3, m_tie hR (by omega), br_iff (nI_eq (by omega) ha)]
            refine ⟨fun q3 => one (plN_s.mpr (Or.inr ⟨q, Or.inr q3⟩)), fun q3 => zero ?_⟩
            rw [plN_s]
            rintro (y | ⟨-, y⟩)
            · exact z y
            · omega
          · rw [br_F q, br_T rfl]
            refine zero ?_
            rw [plN_s]
            rintro (y | ⟨y, -⟩)
            · exact z y
            · exact q y
  exact ⟨_, main (R 0) 0 0 (by omega) (Or.inr ⟨rfl, by rintro ⟨t, ht, -⟩; omega⟩)⟩
theorem m_hasWon (hR : rowR (σ 236) R) (hr : rowOk T R) (hT : T 0 ≤ 12) (hc : c < 2 ^ 31) (hr' : r < 2 ^ 31) (ha : a < 2 ^ 31) (hK : br (wnN R c r a (R 0)) (K 1 σ) (K 0 σ)) : wp_X10_hasWon (nI a) (nI c) (nI r) σ K := by
  have h30 := hr.1
  have e0 := hR 0 (by omega)
  have main : ∀ d t (y : Int32), t + d = R 0 → ((y = 1 ∧ wnN R c r a t) ∨ (y = 0 ∧ ¬ wnN R c r a t)) → b_X10_hasWon_6 (nI a) (nI c) (nI r) K (d + 1) y (nI t) σ := by
    intro d
    induction d with
    | zero =>
      intro t y ht hn
      have : t = R 0 := by omega
      subst this
      refine br_t ?_ ?_
      · rw [e0]
        exact nI_le (Nat.le_refl _) (by omega)
      · rcases hn with ⟨e, z⟩ | ⟨e, z⟩
        · rw [e]; exact ⟨isZ_1, hK.1 z⟩
        · rw [e]; exact ⟨isZ_0, hK.2 z⟩
    | succ d ih =>
      intro t y ht hn
      refine br_f ?_ ?_
      · rw [e0]
        exact nI_ge (by omega) (by omega)
      · have one : wnN R c r a (t + 1) → ∀ v : Int32, v = nI t + 1 → b_X10_hasWon_6 (nI a) (nI c) (nI r) K (d + 1) 1 v σ := by
          intro z v ev
          rw [ev, nI_1]
          exact ih (t + 1) 1 (by omega) (Or.inl ⟨rfl, z⟩)
        have zero : ¬ wnN R c r a (t + 1) → ∀ v : Int32, v = nI t + 1 → b_X10_hasWon_6 (nI a) (nI c) (nI r) K (d + 1) 0 v σ := by
          intro z v ev
          rw [ev, nI_1]
          exact ih (t + 1) 0 (by omega) (Or.inr ⟨rfl, z⟩)
        rcases hn with ⟨e, z⟩ | ⟨e, z⟩
        · rw [br_F (by rw [e]; decide)]
          exact one (wnN_s.mpr (Or.inl z))
        · rw [br_T e, m_isOf hR hr (by omega) hc hr']
          have no : ¬ (isO R t c r ∧ de R t ∧ wnr R t = a) → ¬ wnN R c r a (t + 1) := by
            intro y
            rw [wnN_s]
            rintro (x | x)
            · exact z x
            · exact y x
          by_cases q : isO R t c r
          · rw [br_T q, br_F (by decide), m_win hR hr (by omega)]
            by_cases q2 : de R t
            · have hw := (wnr_lt hr (show t < R 0 by omega) q2).1
              rw [br_T q2, br_iff (nI_eq (by omega) ha)]
              exact ⟨fun y => one (wnN_s.mpr (Or.inr ⟨q, q2, y⟩)), fun y => zero (no (fun x => y x.2.2))⟩
            · rw [br_F q2, br_F (nm1' ha)]
              exact zero (no (fun x => q2 x.2.1))
          · rw [br_F q, br_T rfl]
            exact zero (no (fun x => q x.1))
  exact ⟨_, main (R 0) 0 0 (by omega) (Or.inr ⟨rfl, by rintro ⟨t, ht, -⟩; omega⟩)⟩
end
