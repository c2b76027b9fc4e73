/-! THE REFERENCE'S reckoning: the whole; what it comes to -/
/-- the reference's rows hold the sums -/
def lyd (σ : Sg) (T R : Nat → Nat) : Prop := (∀ b, b < T 0 → mC σ T R b ∧ σ 247 b = nI (aGa R b) ∧ σ 248 b = nI (aPl R b) ∧ σ 254 b = nI (aTop T R b)) ∧ (∀ c, c < T 1 → ∀ s, s < 6 → mPo σ T R c s) ∧ (∀ c, c < T 1 → σ 253 c = nI (pOn T R c 6)) ∧ σ 233 40 = nI (aAP T R)
def mAl (σ τ : Sg) (T R : Nat → Nat) (c : Nat) : Prop := (∀ k, k ≠ 246 → ¬ (249 ≤ k ∧ k ≤ 253) → τ k = σ k) ∧ (∀ k, 6 * c ≤ k → τ 249 k = σ 249 k ∧ τ 251 k = σ 251 k ∧ τ 252 k = σ 252 k) ∧ (∀ d, d < c → ∀ s, s < 6 → mPo τ T R d s) ∧ (∀ b, b < 12 → τ 246 b = nI (su (fun d => gC T R b d 6) c)) ∧ ∀ d, d < c → τ 253 d = nI (pOn T R d 6)
section
variable {σ : Sg} {T R : Nat → Nat} {K : Sg → Prop}
theorem m_cups (h : mcore σ T R) (hl : mgA σ T R (R 0) 0) (hK : ∀ τ : Sg, MF σ τ → lyd τ T R → K τ) : ∀ d c τ, c + d = T 1 → mAl σ τ T R c → b_X10_layAll_29 K (d + 1) (nI c) τ := by
  have h12 := h.1.1
  have h4 := h.1.2.1
  intro d
  induction d with
  | zero =>
    intro c τ hc hs
    have : c = T 1 := by omega
    subst this
    obtain ⟨a1, a2, a3, a4, a5⟩ := hs
    have hm : mcore τ T R := h.of (a1 234 (by omega) (by omega)) (a1 236 (by omega) (by omega))
    refine br_t (by rw [hm.2.2.1 1 (by omega)]; exact nI_le (Nat.le_refl _) (by omega)) ?_
    have hC : ∀ b, b < T 0 → mC τ T R b := fun b hb => by
      obtain ⟨b1, b2, b3, -⟩ := hl.1 b (by omega)
      exact ⟨by rw [a1 243 (by omega) (by omega)]; exact b1, by rw [a1 244 (by omega) (by omega)]; exact b2, by rw [a1 245 (by omega) (by omega)]; exact b3, a4 b (by omega)⟩
    refine m_top hm hC a5 (fun b hb => by rw [a1 254 (by omega) (by omega)]; exact (hl.1 b hb).2.2.2.2.2.2) (fun υ u1 u2 => hK υ ⟨fun k hk => ?_, fun j j1 j2 => ?_⟩ ⟨fun b hb => ⟨?_, ?_, ?_, u2 b (by omega)⟩, fun c hc s hs => ?_, fun c hc => ?_, ?_⟩)
    · rw [u1 k (by omega)]; exact a1 k (by omega) (by omega)
    · rw [u1 233 (by omega), a1 233 (by omega) (by omega)]
    · have := hC b hb
      unfold mC at this ⊢
      rw [u1 243 (by decide), u1 244 (by decide), u1 245 (by decide), u1 246 (by decide)]
      exact this
    · rw [u1 247 (by decide), a1 247 (by omega) (by omega)]; exact (hl.1 b (by omega)).2.2.2.1
    · rw [u1 248 (by decide), a1 248 (by omega) (by omega)]; exact (hl.1 b (by omega)).2.2.2.2.1
    · have := a3 c hc s hs
      unfold mPo at this ⊢
      rw [u1 249 (by decide), u1 250 (by decide), u1 251 (by decide), u1 252 (by decide)]
      exact this
    · rw [u1 253 (by decide)]; exact a5 c hc
    · rw [u1 233 (by decide), a1 233 (by omega) (by omega)]; exact hl.2.2
  | succ d ih =>
    intro c τ hc hs
    obtain ⟨a1, a2, a3, a4, a5⟩ := hs
    have hm : mcore τ T R := h.of (a1 234 (by omega) (by omega)) (a1 236 (by omega) (by omega))
    refine br_f (by rw [hm.2.2.1 1 (by omega)]; exact nI_ge (by omega) (by omega)) ?_
    refine m_pools (G0 := fun b => su (fun d => gC T R b d 6) c) hm (by omega) (fun k k1 k2 => ?_) a4 (fun υ u1 u2 u3 u4 u5 u6 v ev => ?_)
    · obtain ⟨b1, b2, b3⟩ := a2 k k1
      have := hl.2.1 k (by omega)
      unfold mgP at this ⊢
      rw [b1, b2, b3]
      exact this
    · rw [ev, nI_1]
      refine ih (c + 1) υ (by omega) ⟨fun k p q => by rw [u1 k p q]; exact a1 k p q, fun k hk => ?_, fun d hd s hs => ?_, u4, fun d hd => ?_⟩
      · obtain ⟨b1, -, b2, b3⟩ := u2 k (by omega)
        rw [b1, b2, b3]
        exact a2 k (by omega)
      · by_cases q : d = c
        · subst q; exact u3 s hs
        · obtain ⟨b1, b2, b3, b4⟩ := u2 (6 * d + s) (by omega)
          have := a3 d (by omega) s hs
          unfold mPo at this ⊢
          rw [b1, b2, b3, b4]
          exact this
      · by_cases q : d = c
        · subst q; exact u6
        · rw [u5 d q]; exact a5 d (by omega)
theorem m_all (h : mcore σ T R) (hK : ∀ τ : Sg, MF σ τ → lyd τ T R → K τ) : wp_X10_layAll σ K := by
  unfold wp_X10_layAll
  refine m_begin (T := T) (R := R) (fun τ0 f0 l0 => ⟨_, m_ties (h.f f0) (fun τ1 f1 l1 => ⟨_, m_cups ((h.f f0).f f1) l1 (fun τ2 f2 l2 => hK τ2 ((f0.tr f1).tr f2) l2) (T 1) 0 τ1 (by omega) ⟨fun _ _ _ => rfl, fun _ _ => ⟨rfl, rfl, rfl⟩, fun d hd => by omega, fun b hb => (l1.1 b hb).2.2.2.2.2.1, fun d hd => by omega⟩⟩) (R 0) 0 τ0 (by omega) (MF.rf τ0) l0⟩)
end
/-! sums over all clubs -/
section
variable {T R : Nat → Nat}
theorem su_if2 {p q : Prop} [Decidable p] [Decidable q] {v : Nat} (h : p ↔ q) : (if p then v else 0) = if q then v else 0 := by
  by_cases z : p
  · rw [if_pos z, if_pos (h.mp z)]
  · rw [if_neg z, if_neg (fun y => z (h.mpr y))]
theorem ac_su {n : Nat} {f : Nat → Nat → Nat → Nat} (t : Nat) : su (fun b => ac R (f b) t 0) n = ac R (fun t g => su (fun b => f b t g) n) t 0 := by
  show su (fun b => su (fun i => su (f b i) (rT R i 4)) t + 0) n = su (fun i => su (fun g => su (fun b => f b i g) n) (rT R i 4)) t + 0
  rw [Nat.add_zero, su_congr n (fun b _ => Nat.add_zero _), su_comm]
  exact su_congr t (fun i _ => su_comm _ _ _)
theorem ac_congr {f g : Nat → Nat → Nat} {t : Nat} (h : ∀ i, i < t → ∀ j, j < rT R i 4 → f i j = g i j) : ac R f t 0 = ac R g t 0 := by
  show su (fun i => su (f i) (rT R i 4)) t + 0 = su (fun i => su (g i) (rT R i 4)) t + 0
  rw [Nat.add_zero, Nat.add_zero]
  exact su_congr t (fun i hi => su_congr _ (fun j hj => h i hi j hj))
theorem ac_add {f g : Nat → Nat → Nat} {t : Nat} : ac R (fun i j => f i j + g i j) t 0 = ac R f t 0 + ac R g t 0 := by
  show su (fun i => su (fun j => f i j + g i j) (rT R i 4)) t + 0 = (su (fun i => su (f i) (rT R i 4)) t + 0) + (su (fun i => su (g i) (rT R i 4)) t + 0)
  rw [Nat.add_zero, Nat.add_zero, Nat.add_zero, ← su_add]
  exact su_congr t (fun i _ => su_add _ _ _)
theorem all_Ga (hT : toldOk T) (hr : rowOk T R) : su (fun b => aGa R b) (T 0) = ac R (fAG R) (R 0) 0 := by
  refine (ac_su (f := fGa R) (R 0)).trans (ac_congr (fun i hi j _ => ?_))
  have := gHU hT hr hi j
  exact (su_one (T 0)).trans (if_pos this.1)
theorem all_Ex (hT : toldOk T) (hr : rowOk T R) : su (fun b => aEx T R b) (T 0) = ac R (fAE T R) (R 0) 0 := by
  refine (ac_su (f := fEx T R) (R 0)).trans (ac_congr (fun i hi j _ => ?_))
  have := gHU hT hr hi j
  refine (su_add _ _ (T 0)).trans ?_
  rw [su_one, su_one, if_pos this.1, if_pos this.2]
  rfl
theorem all_Ah (hT : toldOk T) (hr : rowOk T R) : su (fun b => aAh T R b) (T 0) = ac R (fun t g => qSh T R (rT R t 0) t g (ga R t g)) (R 0) 0 := by
  refine (ac_su (f := fAh T R) (R 0)).trans (ac_congr (fun i hi j _ => ?_))
  have := gHU hT hr hi j
  exact (su_one (T 0)).trans (if_pos this.1)
theorem all_Ag (hT : toldOk T) (hr : rowOk T R) : su (fun b => aAg T R b) (T 0) = ac R (fun t g => qSg T R (rT R t 0) t g (ga R t g)) (R 0) 0 := by
  refine (ac_su (f := fAg T R) (R 0)).trans (ac_congr (fun i hi j _ => ?_))
  have := gHU hT hr hi j
  exact (su_one (T 0)).trans (if_pos this.2)
theorem all_Sh (hT : toldOk T) (hr : rowOk T R) : su (fun b => aAh T R b + aAg T R b) (T 0) = ac R (fAS T R) (R 0) 0 := by
  rw [su_add, all_Ah hT hr, all_Ag hT hr, ← ac_add]
  rfl
/-- what all clubs get by a tie -/
theorem all_gG {c r t : Nat} (hT : toldOk T) (hr : rowOk T R) (hc : c < T 1) (hr6 : r < 6) (hcd : cd R c r = 1) (ht : t < R 0) : su (fun b => gG T R b c r t) (T 0) = if rT R t 0 = c ∧ rT R t 1 = r then (if tC T c (11 + r) = 3 then 0 else if tC T c (11 + r) = 1 then 2 else 1) * pE T R c r else 0 := by
  have hw3 := (hT.2.2.2.2 c hc).2.2.2.2.2.2.2.2 r hr6
  by_cases q : rT R t 0 = c ∧ rT R t 1 = r
  · have hd := closed_de hr ht q hcd
    have hwl := wnr_lt hr ht hd
    rw [if_pos q]
    have e : su (fun b => gG T R b c r t) (T 0) = su (fun b => (if wnr R t = b then (if tC T c (11 + r) < 2 then pE T R c r else 0) else 0) + (if lsr R t = b then (if tC T c (11 + r) = 1 ∨ tC T c (11 + r) = 2 then pE T R c r else 0) else 0)) (T 0) := by
      refine su_congr (T 0) (fun b _ => ?_)
      show (if rT R t 0 = c ∧ rT R t 1 = r then _ else 0) = _
      rw [if_pos q]
      congr 1
      · by_cases z : wnr R t = b
        · rw [if_pos z]; exact su_if2 ⟨fun y => y.2, fun y => ⟨z, y⟩⟩
        · rw [if_neg z, if_neg (fun y => z y.1)]
      · by_cases z : lsr R t = b
        · rw [if_pos z]; exact su_if2 ⟨fun y => y.2, fun y => ⟨z, y⟩⟩
        · rw [if_neg z, if_neg (fun y => z y.1)]
    rw [e, su_add, su_one, su_one, if_pos hwl.1, if_pos hwl.2]
    rcases (show tC T c (11 + r) = 0 ∨ tC T c (11 + r) = 1 ∨ tC T c (11 + r) = 2 ∨ tC T c (11 + r) = 3 by omega) with w | w | w | w <;> simp [w] <;> omega
  · rw [if_neg q]
    exact su_zero (T 0) (fun b _ => if_neg q)
theorem all_gR {c r : Nat} (hT : toldOk T) (hr : rowOk T R) (hc : c < T 1) (hr6 : r < 6) : su (fun b => gR T R b c r (R 0)) (T 0) = pE T R c r * pM T R c r := by
  unfold gR pM
  by_cases q : cd R c r = 1
  · simp only [if_pos q]
    rw [su_comm, su_congr (R 0) (fun t ht => all_gG hT hr hc hr6 q ht), su_ifk]
    show _ * nOf R c r (R 0) = _
    unfold pMany
    by_cases z3 : tC T c (11 + r) = 3
    · rw [if_pos z3, if_pos z3]; simp
    · rw [if_neg z3, if_neg z3]
      by_cases z1 : tC T c (11 + r) = 1
      · rw [if_pos z1, if_pos z1, Nat.mul_comm 2 (pE T R c r), Nat.mul_assoc]
      · rw [if_neg z1, if_neg z1, Nat.one_mul]
  · simp only [if_neg q]
    rw [su_zero (T 0) (fun _ _ => rfl)]; rfl
theorem all_Got (hT : toldOk T) (hr : rowOk T R) : su (fun b => aGot T R b) (T 0) = su (fun c => su (fun r => pE T R c r * pM T R c r) 6) (T 1) := by
  show su (fun b => su (fun c => su (fun r => gR T R b c r (R 0)) 6) (T 1)) (T 0) = _
  rw [su_comm]
  refine su_congr (T 1) (fun c hc => ?_)
  rw [su_comm]
  exact su_congr 6 (fun r hr6 => all_gR hT hr hc hr6)
/-- all that is taken goes somewhere -/
theorem all_even (hT : toldOk T) (hr : rowOk T R) : su (fun b => aHas T R b) (T 0) + aAP T R = su (fun b => aGa R b) (T 0) + su (fun b => aGot T R b) (T 0) := by
  have e1 : su (fun b => aHas T R b) (T 0) = su (fun b => aEx T R b) (T 0) + su (fun b => aAh T R b + aAg T R b) (T 0) + su (fun b => aGot T R b) (T 0) := by
    rw [← su_add, ← su_add]
    exact su_congr (T 0) (fun b _ => by show aEx T R b + aAh T R b + aAg T R b + aGot T R b = _; omega)
  have e2 : ac R (fAE T R) (R 0) 0 + ac R (fAS T R) (R 0) 0 + aAP T R = ac R (fAG R) (R 0) 0 := by
    unfold aAP
    rw [← ac_add, ← ac_add]
    refine ac_congr (fun i hi j _ => ?_)
    have := (q_at j hT hr hi).1
    show (qEh T R (rT R i 0) i j (ga R i j) + qEg T R (rT R i 0) i j (ga R i j)) + (qSh T R (rT R i 0) i j (ga R i j) + qSg T R (rT R i 0) i j (ga R i j)) + qSp T R (rT R i 0) i j (ga R i j) = ga R i j
    omega
  rw [e1, all_Ex hT hr, all_Sh hT hr, all_Ga hT hr]
  omega
end
/-! balances of both -/
section
variable {σ : Sg} {T R : Nat → Nat} {K : Sg → Prop}
/-- the balance of each, THE POT behind the last club -/
def bal (T R : Nat → Nat) (b : Nat) : Int32 := if b < T 0 then nI (aHas T R b) - nI (aGa R b) else nI (aAP T R) - nI (su (fun b => aGot T R b) (T 0))
theorem led_bal (hT : toldOk T) (hr : rowOk T R) (h : led σ T R) {b : Nat} (hb : b ≤ T 0) : σ 225 b = bal T R b := by
  unfold bal
  by_cases q : b < T 0
  · rw [if_pos q]; exact (h.1 b q).2.2.2.2.2.2.2.2.2
  · rw [if_neg q, show b = T 0 by omega, all_Got hT hr]; exact h.2.2.2.2.2.2.2.2.2
theorem m_bal (h : mcore σ T R) (hK : ∀ τ : Sg, (∀ k, ¬ (k = 233 ∨ (243 ≤ k ∧ k ≤ 255)) → τ k = σ k) → (∀ j, j ≠ 40 → (j < 18 ∨ 27 < j) → τ 233 j = σ 233 j) → (∀ b, b ≤ T 0 → τ 255 b = bal T R b) → K τ) : wp_X10_layBalances σ K := by
  have h12 := h.1.1
  unfold wp_X10_layBalances
  refine m_all h (fun τ0 f0 l0 => ?_)
  have main : ∀ d n τ, n + d = T 0 → (∀ k, k ≠ 255 → τ k = τ0 k) → (∀ b, b < n → τ 255 b = bal T R b) → b_X10_layBalances_11 K (d + 1) (nI (aAP T R) - nI (su (fun b => aGot T R b) n)) (nI n) τ := by
    intro d
    induction d with
    | zero =>
      intro n τ hn f g
      have : n = T 0 := by omega
      subst this
      have e : τ 234 0 = nI (T 0) := by rw [f 234 (by decide)]; exact (h.f f0).2.2.1 0 (by omega)
      show br _ _ _
      rw [e]
      refine br_t (nI_le (Nat.le_refl _) (by omega)) ?_
      show vp_in (τ 234 0) 13 ∧ _
      rw [e, vin_T (by omega) (by decide), cl_I (by omega), true_and]
      intro υ eu
      refine hK υ (fun k hk => ?_) (fun j j1 j2 => ?_) (fun b hb => ?_)
      · rw [eu, up_o (by omega), f k (by omega)]; exact f0.1 k (by omega)
      · rw [eu, up_o (by omega), f 233 (by omega)]; exact f0.2 j j1 j2
      · by_cases q : b = T 0
        · subst q; rw [eu, up_s]; unfold bal; rw [if_neg (by omega)]
        · rw [eu, up_j q]; exact g b (by omega)
    | succ d ih =>
      intro n τ hn f g
      have e : τ 234 0 = nI (T 0) := by rw [f 234 (by decide)]; exact (h.f f0).2.2.1 0 (by omega)
      obtain ⟨c1, c2, -, -⟩ := l0.1 n (by omega)
      have hC : mC τ T R n := by
        unfold mC at c1 ⊢
        rw [f 243 (by decide), f 244 (by decide), f 245 (by decide), f 246 (by decide)]; exact c1
      show br _ _ _
      rw [e]
      refine br_f (nI_ge (by omega) (by omega)) ?_
      rw [m_hasK (by omega) hC, vin_T (show n < 12 by omega) (by decide), vin_T (show n < 13 by omega) (by decide), cl_I (by omega), true_and, true_and, f 247 (by decide), c2]
      intro υ eu
      rw [true_and, eu, up_o (show 246 ≠ 255 by decide), hC.2.2.2]
      intro v ev w ew
      rw [ev, ew, nI_1]
      have e3 : nI (aAP T R) - nI (su (fun b => aGot T R b) n) - nI (aGot T R n) = nI (aAP T R) - nI (su (fun b => aGot T R b) (n + 1)) := by
        show _ = _ - nI (su (fun b => aGot T R b) n + aGot T R n)
        rw [← nI_add, Int32.sub_sub]
      rw [e3]
      refine ih (n + 1) _ (by omega) (fun k hk => by rw [up_o hk]; exact f k hk) (fun b hb => ?_)
      by_cases q : b = n
      · subst q; rw [up_s]; unfold bal; rw [if_pos (by omega)]
      · rw [up_j q]; exact g b (by omega)
  intro v ev
  rw [ev, l0.2.2.2]
  have := main (T 0) 0 τ0 (by omega) (fun _ _ => rfl) (fun b hb => by omega)
  rw [show nI (su (fun b => aGot T R b) 0) = 0 from rfl, Int32.sub_zero] at this
  exact ⟨_, this⟩
end
