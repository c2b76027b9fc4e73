/-! READING: the steps of both, as states (fault, place) -/
noncomputable def ic {α : Type} (c : Prop) (a b : α) : α := @ite α c (Classical.propDecidable c) a b
theorem ic_t {α : Type} {c : Prop} {a b : α} (h : c) : ic c a b = a := @if_pos c (Classical.propDecidable c) h α a b
theorem ic_f {α : Type} {c : Prop} {a b : α} (h : ¬ c) : ic c a b = b := @if_neg c (Classical.propDecidable c) h α a b
noncomputable def nS (B : Nat → Nat) (n lo hi : Nat) (p : Nat × Nat) : Nat × Nat := ic (p.1 = 0) (ic (nOk B n lo hi p.2) (0, nx B n p.2) (nF B n p.2, p.2)) p
noncomputable def nV (B : Nat → Nat) (n lo hi : Nat) (p : Nat × Nat) : Nat := ic (p.1 = 0 ∧ nOk B n lo hi p.2) (dv B n p.2) 0
def wB (B : Nat → Nat) (n i : Nat) (p : Nat × Nat) : Prop := p.1 = 0 ∧ wm B n i p.2
noncomputable def wS (B : Nat → Nat) (n i : Nat) (p : Nat × Nat) : Nat × Nat := ic (wB B n i p) (0, nx B n p.2) p
section
variable {B : Nat → Nat} {n lo hi i s : Nat} {p : Nat × Nat}
theorem nF_0 : nF B n s ≠ 0 := by unfold nF; split <;> decide
theorem nS_bad (h : p.1 ≠ 0) : nS B n lo hi p = p := ic_f h
theorem nS_ok (h : nOk B n lo hi s) : nS B n lo hi (0, s) = (0, nx B n s) := by
  unfold nS
  rw [ic_t rfl]
  exact ic_t h
theorem nS_no (h : ¬ nOk B n lo hi s) : nS B n lo hi (0, s) = (nF B n s, s) := by
  unfold nS
  rw [ic_t rfl]
  exact ic_f h
theorem nV_ok (h : nOk B n lo hi s) : nV B n lo hi (0, s) = dv B n s := ic_t ⟨rfl, h⟩
theorem wS_t (h : wm B n i s) : wS B n i (0, s) = (0, nx B n s) := ic_t ⟨rfl, h⟩
theorem nS_p (h : (nS B n lo hi p).1 = 0) : p.1 = 0 ∧ nOk B n lo hi p.2 ∧ nS B n lo hi p = (0, nx B n p.2) ∧ nV B n lo hi p = dv B n p.2 := by
  by_cases q : p.1 = 0
  · obtain ⟨f, s⟩ := p
    have q : f = 0 := q
    subst q
    by_cases z : nOk B n lo hi s
    · exact ⟨rfl, z, nS_ok z, nV_ok z⟩
    · rw [nS_no z] at h
      exact absurd h nF_0
  · rw [nS_bad q] at h
    exact absurd h q
end
/-! the class's states -/
def cfr (σ τ : Sg) : Prop := (∀ k, ¬ (k = 1 ∨ (27 ≤ k ∧ k ≤ 54)) → τ k = σ k) ∧ τ 1 1 = σ 1 1
def cgood (σ τ : Sg) (B : Nat → Nat) (n s : Nat) : Prop := cfr σ τ ∧ ct τ B n s ∧ τ 1 5 = 0 ∧ τ 1 6 = -1
def cbad (σ τ : Sg) (p : Nat × Nat) : Prop := cfr σ τ ∧ τ 1 5 = nI p.1 ∧ τ 1 6 = nI p.2
section
variable {σ τ : Sg} {B : Nat → Nat} {n s : Nat} {Q : Int32 → Sg → Prop}
theorem cgood.c {υ : Sg} {s' : Nat} (h : cgood σ τ B n s) (c : cst τ υ) (h' : ct υ B n s') : cgood σ υ B n s' := ⟨⟨fun k hk => by rw [c.1 k (by omega)]; exact h.1.1 k hk, by rw [c.2 1 (by decide) (by decide) (by decide)]; exact h.1.2⟩, h', by rw [c.2 5 (by decide) (by decide) (by decide)]; exact h.2.2.1, by rw [c.2 6 (by decide) (by decide) (by decide)]; exact h.2.2.2⟩
theorem cgood.u {k j : Nat} {v : Int32} (h : cgood σ τ B n s) (hk : 27 ≤ k ∧ k ≤ 54) : cgood σ (up τ k j v) B n s := by
  have o : (up τ k j v) 1 = τ 1 := up_o (by omega)
  refine ⟨⟨fun a ha => by rw [up_o (by omega)]; exact h.1.1 a ha, by rw [o]; exact h.1.2⟩, ⟨⟨h.2.1.1.1, by rw [o]; exact h.2.1.1.2.1, by rw [up_o (by omega)]; exact h.2.1.1.2.2⟩, h.2.1.2.1, by rw [o]; exact h.2.1.2.2.1, by rw [o]; exact h.2.1.2.2.2.1, by rw [o]; exact h.2.1.2.2.2.2⟩, by rw [o]; exact h.2.2.1, by rw [o]; exact h.2.2.2⟩
theorem c_N {k1 n1 a lo hi : Nat} {x3 x4 : Int32} (h : cgood σ τ B n s) (ha : a < n1) (hn1 : n1 < 1000) (hk1 : 27 ≤ k1 ∧ k1 ≤ 54) (hx3 : ∀ v, v < 100000 → (nI v < x3 ↔ v < lo)) (hx4 : ∀ v, v < 100000 → (nI v ≤ x4 ↔ v < hi)) (hy : nOk B n lo hi s → ∀ υ : Sg, cgood σ υ B n (nx B n s) → (∀ k, k ≠ 1 → k ≠ k1 → υ k = τ k) → (∀ j, υ k1 j = if j = a then nI (dv B n s) else τ k1 j) → Q 1 υ) (hn : ¬ nOk B n lo hi s → ∀ υ : Sg, cbad σ υ (nF B n s, s) → Q 0 υ) : wp_X4_takeNumber k1 n1 (nI a) x3 x4 τ Q := by
  refine c_num h.2.1 ha hn1 hk1.1 hx3 hx4 (fun q υ c1 c2 => hy q υ ((h.u hk1).c c1 c2) (fun k k1' k2' => by rw [c1.1 k k1', up_o k2']) (fun j => by rw [c1.1 k1 (by omega), up_r])) (fun q υ a1 a2 a3 a4 => hn q υ ⟨⟨fun k hk => by rw [a1 k (by omega)]; exact h.1.1 k hk, by rw [a2 1 (by decide) (by decide)]; exact h.1.2⟩, a3, a4⟩)
theorem c_W {i : Nat} (h : cgood σ τ B n s) (hi : i < 14) (hy : wm B n i s → ∀ υ : Sg, cgood σ υ B n (nx B n s) → (∀ k, k ≠ 1 → υ k = τ k) → Q 1 υ) (hn : ¬ wm B n i s → Q 0 τ) : wp_X4_takeWord i τ Q := c_takeW h.2.1 hi (fun q υ c1 c2 => hy q υ (h.c c1 c2) c1.1) hn
theorem c_R {f : Int32} {f' : Nat} (h : cgood σ τ B n s) (hf : f = nI f') (hn : ∀ υ : Sg, cbad σ υ (f', s) → Q 0 υ) : wp_X4_refuse f τ Q := c_ref h.2.1.2.2.2.1 (fun υ a1 a2 a3 a4 => hn υ ⟨⟨fun k hk => by rw [a1 k (by omega)]; exact h.1.1 k hk, by rw [a2 1 (by decide) (by decide)]; exact h.1.2⟩, by rw [a3, hf], a4⟩)
end
/-- bounds told as words -/
theorem bd_0 {v : Nat} (h : v < 100000) : nI v < 0 ↔ v < 0 := by
  rw [L0, nI_ltI (by omega) (by decide)]
theorem bd_3 {v a : Nat} (h : v < 100000) (ha : a < 2 ^ 31) : nI v < nI a ↔ v < a := nI_ltI (by omega) ha
theorem bd_4 {v a : Nat} (h : v < 100000) (ha : a < 2 ^ 30) : nI v ≤ nI a ↔ v < a + 1 := by
  rw [nI_leI (by omega) (by omega)]
  omega
/-! the reference's states -/
def mfr (σ τ : Sg) : Prop := (∀ k, k ≠ 233 → k ≠ 235 → k ≠ 241 → τ k = σ k) ∧ ∀ j, ¬ (10 ≤ j ∧ j ≤ 15) → τ 233 j = σ 233 j
def mst (σ τ : Sg) (B : Nat → Nat) (n : Nat) (p : Nat × Nat) : Prop := mfr σ τ ∧ (∃ rd, rd ≤ n ∧ τ 233 10 = nI rd ∧ (p.1 = 0 → ex B n 1 rd = p.2)) ∧ (p.1 = 0 → τ 233 13 = 1 ∧ τ 233 11 = 0 ∧ τ 233 12 = -1) ∧ (p.1 ≠ 0 → τ 233 13 = 0 ∧ τ 233 11 = nI p.1 ∧ τ 233 12 = nI p.2)
/-- what the reference's reading leaves of the drafts -/
def mk2 (τ υ : Sg) : Prop := (∀ k, k ≠ 233 → υ k = τ k) ∧ υ 233 15 = τ 233 15
section
variable {σ τ : Sg} {B : Nat → Nat} {n : Nat} {p : Nat × Nat} {Q : Int32 → Sg → Prop}
theorem mst.tp (h : mst σ τ B n p) (ht : mtp σ B n) : mtp τ B n := ⟨ht.1, by rw [h.1.2 9 (by omega)]; exact ht.2.1, by rw [h.1.1 240 (by decide) (by decide) (by decide)]; exact ht.2.2⟩
theorem mst.z (h : mst σ τ B n p) : isZ (τ 233 13) := by
  by_cases q : p.1 = 0
  · exact Or.inr (h.2.2.1 q).1
  · exact Or.inl (h.2.2.2 q).1
theorem mfr.r {υ : Sg} {s : Nat} (h : mfr σ τ) (m : mr τ υ s) : mfr σ υ := ⟨fun k a b c => by rw [m.1 k a]; exact h.1 k a b c, fun j hj => by rw [m.2.1 j (by omega)]; exact h.2 j hj⟩
theorem mr.k {υ : Sg} {s : Nat} (m : mr τ υ s) : mk2 τ υ := ⟨m.1, m.2.1 15 (by decide)⟩
theorem mst.g {υ : Sg} {s t : Nat} (h : mst σ τ B n (0, s)) (m : mr τ υ t) (ht : t ≤ n) {s' : Nat} (e : ex B n 1 t = s') : mst σ υ B n (0, s') := ⟨h.1.r m, ⟨t, ht, m.2.2, fun _ => e⟩, fun _ => by rw [m.2.1 13 (by decide), m.2.1 11 (by decide), m.2.1 12 (by decide)]; exact h.2.2.1 rfl, fun z => absurd rfl z⟩
theorem mst.b {υ : Sg} {t : Nat} (h : mst σ τ B n p) (hp : p.1 ≠ 0) (m : mr τ υ t) (ht : t ≤ n) : mst σ υ B n p := ⟨h.1.r m, ⟨t, ht, m.2.2, fun z => absurd z hp⟩, fun z => absurd z hp, fun _ => by rw [m.2.1 13 (by decide), m.2.1 11 (by decide), m.2.1 12 (by decide)]; exact h.2.2.2 hp⟩
theorem mst.w {υ : Sg} {s f s' : Nat} (h : mst σ τ B n (0, s)) (hf : f ≠ 0) (m : mw τ υ f s') (ht : ∃ q, q ≤ n ∧ υ 233 10 = nI q) : mst σ υ B n (f, s') := by
  obtain ⟨q, q1, q2⟩ := ht
  exact ⟨⟨fun k a b c => by rw [m.1 k a]; exact h.1.1 k a b c, fun j hj => by rw [m.2.1 j (by omega) (by omega) (by omega) (by omega)]; exact h.1.2 j hj⟩, ⟨q, q1, q2, fun z => absurd z hf⟩, fun z => absurd z hf, fun _ => ⟨m.2.2.2.2, m.2.2.1, m.2.2.2.1⟩⟩
theorem mst.u {k j : Nat} {v : Int32} (h : mst σ τ B n p) (hk : k = 235 ∨ k = 241) : mst σ (up τ k j v) B n p := by
  have o : (up τ k j v) 233 = τ 233 := up_o (by omega)
  refine ⟨⟨fun a b c d => by rw [up_o (by omega)]; exact h.1.1 a b c d, fun i hi => by rw [o]; exact h.1.2 i hi⟩, ?_, ?_, ?_⟩
  · rw [o]; exact h.2.1
  · rw [o]; exact h.2.2.1
  · rw [o]; exact h.2.2.2
theorem m_N {x1 x2 : Int32} {lo hi : Nat} (ht : mtp σ B n) (h : mst σ τ B n p) (hx : ∀ v, v < 100000 → (x1 ≤ nI v ∧ nI v ≤ x2 ↔ lo ≤ v ∧ v < hi)) (hK : ∀ υ : Sg, mst σ υ B n (nS B n lo hi p) → mk2 τ υ → Q (nI (nV B n lo hi p)) υ) : wp_X10_number x1 x2 τ Q := by
  obtain ⟨rd, r1, r2, r3⟩ := h.2.1
  have ht' := h.tp ht
  by_cases q : p.1 = 0
  · obtain ⟨f, s⟩ := p
    have q : f = 0 := q
    subst q
    have r3 : ex B n 1 rd = s := r3 rfl
    have hsn := ex_le (B := B) (k := 1) r1
    refine m_num ht' r2 r1 (h.2.2.1 rfl).1 hx (fun o υ m => ?_) (fun o υ m ex => ?_)
    · rw [r3] at o m ⊢
      have := hK υ (by rw [nS_ok o]; exact h.g m (en_b (B := B) (by omega)).2.1 rfl) m.k
      rw [nV_ok o] at this
      exact this
    · rw [r3] at o m
      have := hK υ (by rw [nS_no o]; exact h.w nF_0 m ex) ⟨m.1, m.2.1 15 (by decide) (by decide) (by decide) (by decide)⟩
      rw [show nV B n lo hi (0, s) = 0 from ic_f (fun z => o z.2)] at this
      exact this
  · refine m_numB ht' r2 r1 (h.2.2.2 q).1 (fun υ t ht m => ?_)
    have := hK υ (by rw [nS_bad q]; exact h.b q m ht) m.k
    rw [show nV B n lo hi p = 0 from ic_f (fun z => q z.1)] at this
    exact this
theorem m_W {i : Nat} (ht : mtp σ B n) (h : mst σ τ B n p) (hi : i < 14) (hy : wB B n i p → ∀ υ : Sg, mst σ υ B n (wS B n i p) → mk2 τ υ → υ 233 10 = nI (p.2 + wl i) → Q 1 υ) (hn : ¬ wB B n i p → ∀ υ : Sg, mst σ υ B n p → mk2 τ υ → (p.1 = 0 → υ 233 10 = nI p.2) → Q 0 υ) : wp_X10_takesWord i τ Q := by
  obtain ⟨rd, r1, r2, r3⟩ := h.2.1
  have ht' := h.tp ht
  have hsn := ex_le (B := B) (k := 1) r1
  by_cases q : p.1 = 0
  · obtain ⟨f, s⟩ := p
    have q : f = 0 := q
    subst q
    have r3 : ex B n 1 rd = s := r3 rfl
    refine m_takW ht' r2 r1 hi h.z (fun o1 o2 υ m => ?_) (fun o υ m => ?_)
    · rw [r3] at o2 m
      have eb := en_b (B := B) (n := n) (s := s) (by omega)
      refine hy ⟨rfl, o2⟩ υ (by rw [wS_t o2]; exact h.g m eb.2.1 rfl) m.k ?_
      rw [m.2.2]
      congr 1
      have := o2.2.1
      show en B n s = s + wl i
      omega
    · rw [r3] at o m
      refine hn (fun z => o ⟨(h.2.2.1 rfl).1, z.2⟩) υ (h.g m (by omega) ?_) m.k (fun _ => m.2.2)
      rw [← r3]
      exact St_ex (ex_St r1)
  · refine m_takW ht' r2 r1 hi h.z (fun o1 => ?_) (fun o υ m => hn (fun z => q z.1) υ (h.b q m (by omega)) m.k (fun z => absurd z q))
    rw [(h.2.2.2 q).1] at o1
    exact absurd o1 (by decide)
theorem m_T (ht : mtp σ B n) (h : mst σ τ B n p) (hy : p.1 = 0 ∧ p.2 < n ∧ B p.2 = 59 → ∀ υ : Sg, mst σ υ B n (0, nx B n p.2) → mk2 τ υ → Q 1 υ) (hn : ¬ (p.1 = 0 ∧ p.2 < n ∧ B p.2 = 59) → ∀ υ : Sg, mst σ υ B n p → mk2 τ υ → Q 0 υ) : wp_X10_takes 59 τ Q := by
  obtain ⟨rd, r1, r2, r3⟩ := h.2.1
  have ht' := h.tp ht
  have hsn := ex_le (B := B) (k := 1) r1
  by_cases q : p.1 = 0
  · obtain ⟨f, s⟩ := p
    have q : f = 0 := q
    subst q
    have r3 : ex B n 1 rd = s := r3 rfl
    refine m_take ht' r2 r1 (h.2.2.1 rfl).1 (fun o υ m => ?_) (fun o υ m => ?_)
    · rw [r3] at o m
      refine hy ⟨rfl, o.1, o.2⟩ υ (h.g m (by omega) ?_) m.k
      show ex B n 1 (s + 1) = nx B n s
      unfold nx en
      rw [kk_lt o.1, o.2, if_neg (by decide), if_pos (by decide)]
    · rw [r3] at o m
      refine hn (fun z => o ⟨z.2.1, z.2.2⟩) υ (h.g m (by omega) ?_) m.k
      rw [← r3]
      exact St_ex (ex_St r1)
  · refine m_takeB r2 (h.2.2.2 q).1 (fun υ m => hn (fun z => q z.1) υ (h.b q m r1) m.k)
theorem m_E {s : Nat} (ht : mtp σ B n) (h : mst σ τ B n (0, s)) (hy : s < n → ∀ υ : Sg, mst σ υ B n (0, s) → mk2 τ υ → υ 233 10 = nI s → Q 0 υ) (hn : ¬ s < n → ∀ υ : Sg, mst σ υ B n (0, s) → mk2 τ υ → υ 233 10 = nI s → Q 1 υ) : wp_X10_isEnd τ Q := by
  obtain ⟨rd, r1, r2, r3⟩ := h.2.1
  have r3 : ex B n 1 rd = s := r3 rfl
  have ht' := h.tp ht
  have hsn := ex_le (B := B) (k := 1) r1
  refine m_end ht' r2 r1 (fun υ m => ?_)
  rw [r3] at m ⊢
  have hm : mst σ υ B n (0, s) := h.g m (by omega) (by rw [← r3]; exact St_ex (ex_St r1))
  exact ⟨fun z => hy z υ hm m.k m.2.2, fun z => hn z υ hm m.k m.2.2⟩
theorem m_X {s f' s' : Nat} {K : Sg → Prop} {f x : Int32} (h : mst σ τ B n (0, s)) (hf : f = nI f') (h0 : f' ≠ 0) (hx : x = nI s') (hK : ∀ υ : Sg, mst σ υ B n (f', s') → mk2 τ υ → K υ) : wp_X10_wrong f x τ K := by
  obtain ⟨rd, r1, r2, -⟩ := h.2.1
  exact m_wr (h.2.2.1 rfl).1 hf hx (fun υ m e => hK υ (h.w h0 m ⟨rd, r1, by rw [e]; exact r2⟩) ⟨m.1, m.2.1 15 (by decide) (by decide) (by decide) (by decide)⟩)
theorem m_XB {K : Sg → Prop} {f x : Int32} (h : mst σ τ B n p) (hp : p.1 ≠ 0) (hK : K τ) : wp_X10_wrong f x τ K := br_t (h.2.2.2 hp).1 hK
end
theorem bx_0 {v a : Nat} (h : v < 100000) (ha : a < 2 ^ 30) : 0 ≤ nI v ∧ nI v ≤ nI a ↔ 0 ≤ v ∧ v < a + 1 := by
  rw [bd_4 h ha]
  exact ⟨fun z => ⟨by omega, z.2⟩, fun z => ⟨nI_pos' (by omega), z.2⟩⟩
/-! THE BOOK's parts -/
noncomputable def clubS (B : Nat → Nat) (n : Nat) (p : Nat × Nat) (D : Nat → Nat) : (Nat × Nat) × (Nat → Nat) :=
  (nS B n 0 100000 (nS B n 0 10000 (nS B n 0 10000 p)), tUp (tUp (tUp (tUp D (2 + 3 * D 0) (nV B n 0 10000 p)) (2 + 3 * D 0 + 1) (nV B n 0 10000 (nS B n 0 10000 p))) (2 + 3 * D 0 + 2) (nV B n 0 100000 (nS B n 0 10000 (nS B n 0 10000 p)))) 0 (D 0 + 1))
noncomputable def oS (B : Nat → Nat) (n i at' lo hi : Nat) (q : (Nat × Nat) × (Nat → Nat)) : (Nat × Nat) × (Nat → Nat) := ic (wB B n i q.1) (nS B n lo hi (wS B n i q.1), tUp q.2 at' (nV B n lo hi (wS B n i q.1))) q
noncomputable def pS (B : Nat → Nat) (n at' : Nat) (q : (Nat × Nat) × (Nat → Nat)) : (Nat × Nat) × (Nat → Nat) :=
  (nS B n (100 - nV B n 0 101 q.1 - nV B n 0 101 (nS B n 0 101 q.1)) (101 - nV B n 0 101 q.1 - nV B n 0 101 (nS B n 0 101 q.1)) (nS B n 0 101 (nS B n 0 101 q.1)), tUp (tUp (tUp q.2 at' (nV B n 0 101 q.1)) (at' + 1) (nV B n 0 101 (nS B n 0 101 q.1))) (at' + 2) (nV B n (100 - nV B n 0 101 q.1 - nV B n 0 101 (nS B n 0 101 q.1)) (101 - nV B n 0 101 q.1 - nV B n 0 101 (nS B n 0 101 q.1)) (nS B n 0 101 (nS B n 0 101 q.1))))
def cp3 (D : Nat → Nat) (at' : Nat) : Nat → Nat := tUp (tUp (tUp D (at' + 6) (D at')) (at' + 6 + 1) (D (at' + 1))) (at' + 6 + 2) (D (at' + 2))
noncomputable def tl2 (B : Nat → Nat) (n at' : Nat) (q : (Nat × Nat) × (Nat → Nat)) : (Nat × Nat) × (Nat → Nat) := ((oS B n 7 (at' + 10) 0 3 (oS B n 6 (at' + 9) 1 7 q)).1, tUp (oS B n 7 (at' + 10) 0 3 (oS B n 6 (at' + 9) 1 7 q)).2 1 ((oS B n 7 (at' + 10) 0 3 (oS B n 6 (at' + 9) 1 7 q)).2 1 + 1))
noncomputable def tl1 (B : Nat → Nat) (n at' : Nat) (q : (Nat × Nat) × (Nat → Nat)) : (Nat × Nat) × (Nat → Nat) := tl2 B n at' (ic (wB B n 5 q.1) (pS B n (at' + 6) (wS B n 5 q.1, q.2)) (q.1, cp3 q.2 at'))
noncomputable def tl0 (B : Nat → Nat) (n at' : Nat) (q : (Nat × Nat) × (Nat → Nat)) : (Nat × Nat) × (Nat → Nat) := tl1 B n at' (oS B n 4 (at' + 5) 0 4 (oS B n 3 (at' + 4) 0 100000 (oS B n 2 (at' + 3) 0 3 q)))
noncomputable def cupS (B : Nat → Nat) (n : Nat) (p : Nat × Nat) (D : Nat → Nat) : (Nat × Nat) × (Nat → Nat) := tl0 B n (38 + 17 * D 1) (pS B n (38 + 17 * D 1) (p, tUp (tUp D (38 + 17 * D 1 + 5) 1) (38 + 17 * D 1 + 9) 6))
noncomputable def wayS (B : Nat → Nat) (n : Nat) (p : Nat × Nat) (D : Nat → Nat) : (Nat × Nat) × (Nat → Nat) := (nS B n 0 4 (nS B n 0 6 (nS B n 0 (D 1) p)), tUp D (38 + 17 * nV B n 0 (D 1) p + 11 + nV B n 0 6 (nS B n 0 (D 1) p)) (nV B n 0 4 (nS B n 0 6 (nS B n 0 (D 1) p))))
noncomputable def lineS (B : Nat → Nat) (n s : Nat) (D : Nat → Nat) : (Nat × Nat) × (Nat → Nat) :=
  ic (wm B n 0 s) (ic (D 0 = 12) ((3, s), D) (clubS B n (0, nx B n s) D)) (ic (wm B n 1 s) (ic (D 1 = 4) ((3, s), D) (cupS B n (0, nx B n s) D)) (ic (wm B n 8 s) (wayS B n (0, nx B n s) D) ((1, s), D)))
section
variable {B : Nat → Nat} {n at' : Nat} {q : (Nat × Nat) × (Nat → Nat)}
theorem oS_bad {i a lo hi : Nat} (h : q.1.1 ≠ 0) : oS B n i a lo hi q = q := ic_f (fun z => h z.1)
theorem pS_bad (h : q.1.1 ≠ 0) : (pS B n at' q).1 = q.1 := by
  unfold pS
  show nS B n _ _ (nS B n 0 101 (nS B n 0 101 q.1)) = q.1
  rw [nS_bad h, nS_bad h, nS_bad h]
theorem tl2_bad (h : q.1.1 ≠ 0) : (tl2 B n at' q).1 = q.1 := by
  unfold tl2
  rw [oS_bad h, oS_bad h]
theorem tl1_bad (h : q.1.1 ≠ 0) : (tl1 B n at' q).1 = q.1 := by
  unfold tl1
  rw [ic_f (fun z => h z.1)]
  exact tl2_bad (q := (q.1, cp3 q.2 at')) h
theorem tl0_bad (h : q.1.1 ≠ 0) : (tl0 B n at' q).1 = q.1 := by
  unfold tl0
  rw [oS_bad h, oS_bad h, oS_bad h]
  exact tl1_bad h
end
