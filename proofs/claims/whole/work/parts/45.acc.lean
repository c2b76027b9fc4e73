/-! ACCESSORS, of both sides -/
theorem vin_T {n N : Nat} (h : n < N) (hN : N < 2 ^ 31) : vp_in (nI n) N = True := eq_true ((vin_I (by omega)).mpr h)
theorem cl_I {n : Nat} (h : n < 2 ^ 31) : (nI n).toNatClampNeg = n := nI_clamp h
def rs (R : Nat → Nat) (t : Nat) : Nat := if rT R t 4 = 0 then 2 else wo R t (rT R t 4 - 1)
theorem de_rs {R : Nat → Nat} {t : Nat} : de R t ↔ rs R t ≠ 2 := by
  unfold de rs
  by_cases h : rT R t 4 = 0
  · rw [if_pos h]; simp [h]
  · rw [if_neg h]; exact ⟨fun q => q.2, fun q => ⟨by omega, q⟩⟩
theorem rs_le {T R : Nat → Nat} {t : Nat} (h : tieOk T R t) : rs R t ≤ 2 := by
  unfold rs
  by_cases q : rT R t 4 = 0
  · rw [if_pos q]; exact Nat.le_refl _
  · rw [if_neg q]; exact h.2.2.2.2.2.2.1 _ (by omega)
theorem rs_wo {R : Nat → Nat} {t : Nat} (h : de R t) : rs R t = wo R t (rT R t 4 - 1) := if_neg (by have := h.1; omega)
theorem sub1 {n : Nat} (h : 0 < n) : nI n - nI 1 = nI (n - 1) := pk_sub h
section
variable {σ : Sg} {s : Nat} {T R : Nat → Nat} {t : Nat} {K : Int32 → Sg → Prop}
theorem c_res (hs : sea σ s R) (hr : rowOk T R) (ht : t < R 0) : wp_X6_resultOf s (nI t) σ K = K (nI (rs R t)) σ := by
  have h30 := hr.1
  have hok := hr.2.2.1 t ht
  obtain ⟨-, -, -, -, -, g4, -, -⟩ := hok
  obtain ⟨-, -, -, -, e5, eg⟩ := hs.2.2 t ht
  unfold wp_X6_resultOf rs
  simp (disch := omega) only [L0, L1, L2, L3, L4, L5, L6, L7, L8, L9, L10, L11, L12, L13, L17, L24, L30, L31, L32, L38, L67, L100, L120, L335, L391, L415, L500, L600, L830, L4096, L4564, L4980, L8192, L9999, L99999, L100000, cl_I, vin_T, true_and, e5, pk_mul, nI_add, nI_leI]
  by_cases q : rT R t 4 = 0
  · rw [br_T (by omega), if_pos q]
  · rw [br_F (by omega), if_neg q, sub1 (by omega), vin_T (by omega) (by omega), cl_I (by omega), true_and]
    rw [show t * 4 + rT R t 4 - 1 = 4 * t + (rT R t 4 - 1) by omega, (eg (rT R t 4 - 1) (by omega)).2]
theorem c_dec (hs : sea σ s R) (hr : rowOk T R) (ht : t < R 0) : wp_X6_isDecided s (nI t) σ K = br (de R t) (K 1 σ) (K 0 σ) := by
  have h2 := rs_le (hr.2.2.1 t ht)
  unfold wp_X6_isDecided
  rw [c_res hs hr ht]
  simp only [L2]
  rw [br_iff (nI_eq (by omega) (by omega)), ← br_not]
  exact (br_iff (by rw [de_rs])).symm
theorem c_win (hs : sea σ s R) (hr : rowOk T R) (ht : t < R 0) : wp_X6_winnerOf s (nI t) σ K = br (de R t) (K (nI (wnr R t)) σ) (K (-2) σ) := by
  have h30 := hr.1
  have h2 := rs_le (hr.2.2.1 t ht)
  obtain ⟨-, -, e3, e4, -, -⟩ := hs.2.2 t ht
  unfold wp_X6_winnerOf
  rw [c_dec hs hr ht]
  by_cases q : de R t
  · rw [br_T q, br_T q, br_F (by decide), c_res hs hr ht]
    simp (disch := omega) only [L0, nI_eq, cl_I, vin_T, true_and, e3, e4]
    have := de_rs.mp q
    unfold wnr
    rw [← rs_wo q]
    by_cases z : rs R t = 0
    · rw [br_T z, z]
    · have : rs R t = 1 := by omega
      rw [br_F z, this]
  · rw [br_F q, br_F q, br_T rfl]
theorem c_los (hs : sea σ s R) (hr : rowOk T R) (ht : t < R 0) : wp_X6_loserOf s (nI t) σ K = br (de R t) (K (nI (lsr R t)) σ) (K (-2) σ) := by
  have h30 := hr.1
  have h2 := rs_le (hr.2.2.1 t ht)
  obtain ⟨-, -, e3, e4, -, -⟩ := hs.2.2 t ht
  unfold wp_X6_loserOf
  rw [c_dec hs hr ht]
  by_cases q : de R t
  · rw [br_T q, br_T q, br_F (by decide), c_res hs hr ht]
    simp (disch := omega) only [L0, nI_eq, cl_I, vin_T, true_and, e3, e4]
    have := de_rs.mp q
    unfold lsr
    rw [← rs_wo q]
    by_cases z : rs R t = 0
    · rw [br_T z, z]
    · have : rs R t = 1 := by omega
      rw [br_F z, this]
  · rw [br_F q, br_F q, br_T rfl]
theorem c_isOf (hs : sea σ s R) (hr : rowOk T R) (ht : t < R 0) {c r : Nat} (hc : c < 2 ^ 31) (hr' : r < 2 ^ 31) : wp_X6_isOf s (nI t) (nI c) (nI r) σ K = br (isO R t c r) (K 1 σ) (K 0 σ) := by
  have h30 := hr.1
  have hb := hr.2.1
  obtain ⟨e1, e2, -, -, -, -⟩ := hs.2.2 t ht
  have b1 : rT R t 0 < 2 ^ 31 := Nat.lt_trans (hb _) (by decide)
  have b2 : rT R t 1 < 2 ^ 31 := Nat.lt_trans (hb _) (by decide)
  unfold wp_X6_isOf isO
  simp (disch := omega) only [cl_I, vin_T, true_and, e1, e2, nI_eq]
  by_cases q : rT R t 0 = c
  · by_cases q2 : rT R t 1 = r
    · rw [br_T q, br_T q2, br_T ⟨q, q2⟩]
    · rw [br_T q, br_F q2, br_F (fun z => q2 z.2)]
  · rw [br_F q, br_F (fun z => q z.1)]
theorem rem2 {g : Nat} (h : g < 2 ^ 31) : nI g - nI g / nI 2 * nI 2 = nI (g % 2) := pk_rem h (by decide) (by decide)
theorem c_host (hs : sea σ s R) (hr : rowOk T R) (ht : t < R 0) {g : Nat} (hg : g < 2 ^ 31) : wp_X6_hostOf s (nI t) (nI g) σ K = K (nI (gH R t g)) σ := by
  have h30 := hr.1
  obtain ⟨-, -, e3, e4, -, -⟩ := hs.2.2 t ht
  unfold wp_X6_hostOf gH
  simp (disch := omega) only [L2, L0, rem2, cl_I, vin_T, true_and, e3, e4, nI_eq]
  by_cases q : g % 2 = 0
  · rw [br_T q, q]
  · rw [br_F q, show g % 2 = 1 by omega]
theorem c_guest (hs : sea σ s R) (hr : rowOk T R) (ht : t < R 0) {g : Nat} (hg : g < 2 ^ 31) : wp_X6_guestOf s (nI t) (nI g) σ K = K (nI (gU R t g)) σ := by
  have h30 := hr.1
  obtain ⟨-, -, e3, e4, -, -⟩ := hs.2.2 t ht
  unfold wp_X6_guestOf gU
  simp (disch := omega) only [L2, L0, rem2, cl_I, vin_T, true_and, e3, e4, nI_eq]
  by_cases q : g % 2 = 0
  · rw [br_T q, q]
  · rw [br_F q, show g % 2 = 1 by omega]
theorem c_closed (hs : sea σ s R) {c r : Nat} (hc : c < 4) (hr' : r < 6) : wp_X6_isClosed s (nI c) (nI r) σ K = br (cd R c r = 1) (K 1 σ) (K 0 σ) := by
  have h := hs.2.1 (6 * c + r) (by omega)
  have h24 : (6 * c + r) < 24 := by omega
  unfold wp_X6_isClosed
  rw [show nI c * 6 + nI r = nI (6 * c + r) by rw [L6, pk_mul, nI_add, Nat.mul_comm], br_iff (bt_test (by omega)), h]
  apply br_iff
  unfold cd
  rw [show 391 + (6 * c + r) = 391 + 6 * c + r by omega]
  simp [h24]
theorem m_tie (hR : rowR (σ 236) R) {w : Nat} (h : 1 + 13 * t + w < 415) : wp_X10_ofTie (nI t) (nI w) σ K = K (nI (rT R t w)) σ := by
  unfold wp_X10_ofTie rT
  simp (disch := omega) only [L0, L1, L2, L3, L4, L5, L6, L7, L8, L9, L10, L11, L12, L13, L17, L24, L30, L31, L32, L38, L67, L100, L120, L335, L391, L415, L500, L600, L830, L4096, L4564, L4980, L8192, L9999, L99999, L100000, pk_mul, nI_add, vin_T, cl_I, true_and, hR _ h]
theorem m_games (hR : rowR (σ 236) R) (h : t < 30) : wp_X10_games (nI t) σ K = K (nI (rT R t 4)) σ := by
  unfold wp_X10_games
  rw [L4, m_tie hR (by omega)]
theorem m_gate (hR : rowR (σ 236) R) (h : t < 30) {g : Nat} (hg : g < 4) : wp_X10_gateOf (nI t) (nI g) σ K = K (nI (ga R t g)) σ := by
  unfold wp_X10_gateOf ga
  simp only [L0, L1, L2, L3, L4, L5, L6, L7, L8, L9, L10, L11, L12, L13, L17, L24, L30, L31, L32, L38, L67, L100, L120, L335, L391, L415, L500, L600, L830, L4096, L4564, L4980, L8192, L9999, L99999, L100000, pk_mul, nI_add]
  rw [m_tie hR (by omega)]
theorem m_won (hR : rowR (σ 236) R) (h : t < 30) {g : Nat} (hg : g < 4) : wp_X10_wonOf (nI t) (nI g) σ K = K (nI (wo R t g)) σ := by
  unfold wp_X10_wonOf wo
  simp only [L0, L1, L2, L3, L4, L5, L6, L7, L8, L9, L10, L11, L12, L13, L17, L24, L30, L31, L32, L38, L67, L100, L120, L335, L391, L415, L500, L600, L830, L4096, L4564, L4980, L8192, L9999, L99999, L100000, pk_mul, nI_add]
  rw [m_tie hR (by omega)]
theorem m_dec (hR : rowR (σ 236) R) (hr : rowOk T R) (ht : t < R 0) : wp_X10_isDecided (nI t) σ K = br (de R t) (K 1 σ) (K 0 σ) := by
  have h30 := hr.1
  obtain ⟨-, -, -, -, -, g4, g5, -⟩ := hr.2.2.1 t ht
  unfold wp_X10_isDecided
  rw [m_games hR (by omega)]
  simp (disch := omega) only [L0, nI_leI]
  by_cases q : rT R t 4 = 0
  · rw [br_T (by omega), br_F (fun z => by have := z.1; omega)]
  · rw [br_F (by omega), m_games hR (by omega)]
    simp (disch := omega) only [L1, sub1]
    rw [m_won hR (by omega) (by omega)]
    have := g5 (rT R t 4 - 1) (by omega)
    simp (disch := omega) only [L2, nI_eq]
    unfold de
    by_cases z : wo R t (rT R t 4 - 1) = 2
    · rw [br_T z, br_F (fun y => y.2 z)]
    · rw [br_F z, br_T ⟨by omega, z⟩]
theorem m_win (hR : rowR (σ 236) R) (hr : rowOk T R) (ht : t < R 0) : wp_X10_winner (nI t) σ K = br (de R t) (K (nI (wnr R t)) σ) (K (-1) σ) := by
  have h30 := hr.1
  obtain ⟨-, -, -, -, -, g4, g5, -⟩ := hr.2.2.1 t ht
  unfold wp_X10_winner
  rw [m_dec hR hr ht]
  by_cases q : de R t
  · have := q.1
    have := g5 (rT R t 4 - 1) (by omega)
    rw [br_T q, br_T q, br_F (by decide), m_games hR (by omega)]
    simp (disch := omega) only [L1, sub1]
    rw [m_won hR (by omega) (by omega)]
    simp only [L2, nI_add]
    rw [m_tie hR (by omega)]
    rfl
  · rw [br_F q, br_F q, br_T rfl]
theorem m_los (hR : rowR (σ 236) R) (hr : rowOk T R) (ht : t < R 0) : wp_X10_loser (nI t) σ K = br (de R t) (K (nI (lsr R t)) σ) (K (-1) σ) := by
  have h30 := hr.1
  obtain ⟨-, -, -, -, -, g4, g5, -⟩ := hr.2.2.1 t ht
  unfold wp_X10_loser
  rw [m_dec hR hr ht]
  by_cases q : de R t
  · have := q.1
    have := g5 (rT R t 4 - 1) (by omega)
    rw [br_T q, br_T q, br_F (by decide), m_games hR (by omega)]
    simp (disch := omega) only [L1, sub1]
    rw [m_won hR (by omega) (by omega)]
    rw [L3, pk_sub (by omega), m_tie hR (by omega)]
    rfl
  · rw [br_F q, br_F q, br_T rfl]
theorem m_isOf (hR : rowR (σ 236) R) (hr : rowOk T R) (ht : t < R 0) {c r : Nat} (hc : c < 2 ^ 31) (hr' : r < 2 ^ 31) : wp_X10_isOf (nI t) (nI c) (nI r) σ K = br (isO R t c r) (K 1 σ) (K 0 σ) := by
  have h30 := hr.1
  have hb := hr.2.1
  have b1 : rT R t 0 < 2 ^ 31 := Nat.lt_trans (hb _) (by decide)
  have b2 : rT R t 1 < 2 ^ 31 := Nat.lt_trans (hb _) (by decide)
  unfold wp_X10_isOf isO
  rw [L0, m_tie hR (by omega)]
  rw [br_iff (nI_eq b1 hc)]
  by_cases q : rT R t 0 = c
  · rw [br_T q, L1, m_tie hR (by omega), br_iff (nI_eq b2 hr')]
    by_cases q2 : rT R t 1 = r
    · rw [br_T q2, br_T ⟨q, q2⟩]
    · rw [br_F q2, br_F (fun z => q2 z.2)]
  · rw [br_F q, br_F (fun z => q z.1)]
theorem m_closed (hR : rowR (σ 236) R) (hr : rowOk T R) {c r : Nat} (hc : c < 4) (hr' : r < 6) : wp_X10_isClosed (nI c) (nI r) σ K = br (cd R c r = 1) (K 1 σ) (K 0 σ) := by
  have hb := hr.2.1 (391 + 6 * c + r)
  unfold wp_X10_isClosed
  simp (disch := omega) only [L391, L6, pk_mul, nI_add, vin_T, cl_I, true_and, hR (391 + 6 * c + r) (by omega)]
  rw [L1, br_iff (nI_eq (by omega) (by omega))]
  rfl
theorem m_cup (hB : ∀ k, k < 106 → σ 234 k = nI (T k)) {c w : Nat} (hc : c < 4) (hw : w < 17) : wp_X10_ofCup (nI c) (nI w) σ K = K (nI (tC T c w)) σ := by
  unfold wp_X10_ofCup tC
  simp (disch := omega) only [L0, L1, L2, L3, L4, L5, L6, L7, L8, L9, L10, L11, L12, L13, L17, L24, L30, L31, L32, L38, L67, L100, L120, L335, L391, L415, L500, L600, L830, L4096, L4564, L4980, L8192, L9999, L99999, L100000, pk_mul, nI_add, vin_T, cl_I, true_and, hB (38 + 17 * c + w) (by omega)]
theorem m_club (hB : ∀ k, k < 106 → σ 234 k = nI (T k)) {c w : Nat} (hc : c < 12) (hw : w < 3) : wp_X10_ofClub (nI c) (nI w) σ K = K (nI (tB T c w)) σ := by
  unfold wp_X10_ofClub tB
  simp (disch := omega) only [L0, L1, L2, L3, L4, L5, L6, L7, L8, L9, L10, L11, L12, L13, L17, L24, L30, L31, L32, L38, L67, L100, L120, L335, L391, L415, L500, L600, L830, L4096, L4564, L4980, L8192, L9999, L99999, L100000, pk_mul, nI_add, vin_T, cl_I, true_and, hB (2 + 3 * c + w) (by omega)]
/-! ranges -/
theorem c_isClub {n : Nat} {x : Int32} (h : σ 3 0 = nI n) (hn : n < 2 ^ 31) : wp_X9_isClub x σ K = br (vp_in x n) (K 1 σ) (K 0 σ) := by
  unfold wp_X9_isClub
  rw [h, br2 hn]
theorem c_isCup {n : Nat} {x : Int32} (h : σ 3 1 = nI n) (hn : n < 2 ^ 31) : wp_X9_isCup x σ K = br (vp_in x n) (K 1 σ) (K 0 σ) := by
  unfold wp_X9_isCup
  rw [h, br2 hn]
theorem c_isTie {n : Nat} {x : Int32} (h : σ 55 0 = nI n) (hn : n < 2 ^ 31) : wp_X9_isTie x σ K = br (vp_in x n) (K 1 σ) (K 0 σ) := by
  unfold wp_X9_isTie
  rw [h, br2 hn]
theorem c_isGate {x : Int32} : wp_X9_isGate x σ K = br (vp_in x 100000) (K 1 σ) (K 0 σ) := by
  unfold wp_X9_isGate
  rw [L99999, br2l (by decide)]
theorem c_isPool {n : Nat} {x y : Int32} (h : σ 3 1 = nI n) (hn : n < 2 ^ 31) : wp_X9_isPool x y σ K = br (vp_in x n ∧ vp_in y 6) (K 1 σ) (K 0 σ) := by
  unfold wp_X9_isPool
  rw [c_isCup h hn, L6, br2 (by decide)]
  by_cases q : vp_in x n
  · by_cases q2 : vp_in y 6
    · rw [br_T q, br_F (by decide), br_T q2, br_T ⟨q, q2⟩]
    · rw [br_T q, br_F (by decide), br_F q2, br_F (fun z => q2 z.2)]
  · rw [br_F q, br_T rfl, br_F (fun z => q z.1)]
theorem c_has {n : Nat} (h : σ 3 0 = nI n) (hn : n < 2 ^ 31) : wp_X9_hasBook σ K = br (0 < n) (K 1 σ) (K 0 σ) := by
  unfold wp_X9_hasBook
  rw [h, L0, br_iff (nI_leI hn (by decide)), ← br_not]
  exact br_iff (by omega)
theorem m_has {n : Nat} (h : σ 234 0 = nI n) (hn : n < 2 ^ 31) : wp_X10_isTold σ K = br (0 < n) (K 1 σ) (K 0 σ) := by
  unfold wp_X10_isTold
  rw [h, L0, br_iff (nI_leI hn (by decide)), ← br_not]
  exact br_iff (by omega)
theorem m_isClub {n : Nat} {x : Int32} (h : σ 234 0 = nI n) (hn : n < 2 ^ 31) : wp_X10_isClub x σ K = br (vp_in x n) (K 1 σ) (K 0 σ) := by
  unfold wp_X10_isClub
  rw [h, wi (wi1 hn)]
  simp only [isZ_0, isZ_1, true_and]
theorem m_isCup {n : Nat} {x : Int32} (h : σ 234 1 = nI n) (hn : n < 2 ^ 31) : wp_X10_isCup x σ K = br (vp_in x n) (K 1 σ) (K 0 σ) := by
  unfold wp_X10_isCup
  rw [h, wi (wi1 hn)]
  simp only [isZ_0, isZ_1, true_and]
theorem m_isTie {n : Nat} {x : Int32} (h : σ 236 0 = nI n) (hn : n < 2 ^ 31) : wp_X10_isTie x σ K = br (vp_in x n) (K 1 σ) (K 0 σ) := by
  unfold wp_X10_isTie
  rw [h, wi (wi1 hn)]
  simp only [isZ_0, isZ_1, true_and]
theorem m_isRound {x : Int32} : wp_X10_isRound x σ K = br (vp_in x 6) (K 1 σ) (K 0 σ) := by
  unfold wp_X10_isRound
  rw [wi (n := 6) (by decide)]
  simp only [isZ_0, isZ_1, true_and]
theorem m_wi {x : Int32} {n : Nat} {hi : Int64} (h : hi.toInt = (n : Int) - 1) : wp_X10_within x.toInt64 0 hi σ K = br (vp_in x n) (K 1 σ) (K 0 σ) := wi h
end
