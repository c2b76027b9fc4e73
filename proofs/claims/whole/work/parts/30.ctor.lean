/-! CONSTRUCTORS: a world that grows. n objects stand so far, at base + k; ρ: what their places refer to; behind them nothing. -/
abbrev Rh : Type := Nat → Nat → Option Nat
def upR (ρ : Rh) (k j : Nat) (v : Option Nat) : Rh := fun a => if a = k then (fun i => if i = j then v else ρ k i) else ρ a
def rOf (G : Gx) (r : Option Nat) : Option Nat := r.map (fun x => G.1 + x)
def ofs2 (G : Gx) (ρ : Rh) (σ : Sg) (k : Nat) : List Value := (List.range (ln k)).map (fun j => if fk (ki k) j then va_rf (rOf G (ρ k j)) else Value.int (σ k j))
def el2 (G : Gx) (ρ : Rh) (σ : Sg) (k : Nat) : va_E :=
  if ki k < 11 then .inr (ki k, ofs2 G ρ σ k)
  else if ki k < 14 then .inl (cy G (ki k), ln k, .inl (σ k))
  else if ki k = 16 then .inl (cy G 16, ln k, .inr (.inl (fun j => (σ k j).toInt64)))
  else .inl (cy G (ki k), ln k, .inr (.inr (.inr (.inr (fun j => rOf G (ρ k j))))))
def W2 (G : Gx) (n : Nat) (ρ : Rh) (σ : Sg) : va_W := (List.range n).map (fun k => (G.1 + k, el2 G ρ σ k))
def Wc (G : Gx) (n : Nat) (ρ : Rh) (σ : Sg) (H : Heap) : Prop := va_P (gD G) vwCl (W2 G n ρ σ) H ∧ H.size = G.1 + n ∧ ∀ k, n ≤ k → ∀ j, σ k j = 0 ∧ ρ k j = none
theorem W2_get {G : Gx} {n : Nat} {ρ : Rh} {σ : Sg} {k : Nat} (hk : k < n) : (W2 G n ρ σ)[k]? = some (G.1 + k, el2 G ρ σ k) := by
  unfold W2
  rw [List.getElem?_map, List.getElem?_range hk]
  rfl
theorem W2_set {G : Gx} {n : Nat} {ρ π : Rh} {σ τ : Sg} {k : Nat} {x : va_E} (hx : x = el2 G π τ k) (h : ∀ j, j ≠ k → τ j = σ j ∧ π j = ρ j) : (W2 G n ρ σ).set k (G.1 + k, x) = W2 G n π τ := by
  subst hx
  apply List.ext_getElem?
  intro i
  by_cases hi : i < n
  · rw [W2_get hi]
    by_cases e : i = k
    · subst e
      rw [List.getElem?_set_self (by unfold W2; simpa using hi)]
    · rw [List.getElem?_set_ne (Ne.symm e), W2_get hi]
      unfold el2 ofs2
      rw [(h i e).1, (h i e).2]
  · have h1 : ∀ π ρ, (W2 G n π ρ)[i]? = none := fun π ρ => List.getElem?_eq_none (by unfold W2; simpa using hi)
    rw [h1]
    exact List.getElem?_eq_none (by rw [List.length_set]; unfold W2; simpa using hi)
theorem W2_D (G : Gx) (n : Nat) (ρ : Rh) (σ : Sg) : va_D (Ab G) (W2 G n ρ σ) := by
  have key : ∀ (i : Nat) (q : Nat × va_E), (W2 G n ρ σ)[i]? = some q → q.1 = G.1 + i := by
    intro i q h
    have hi : i < n := by
      have := (List.getElem?_eq_some_iff.mp h).1
      unfold W2 at this
      simpa using this
    rw [W2_get hi] at h
    cases h
    rfl
  refine ⟨fun i j p q hi hj e => ?_, fun i q hi => ?_⟩
  · have := key i p hi
    have := key j q hj
    omega
  · rw [key i q hi]
    exact Nat.le_add_right _ _
theorem W2_succ (G : Gx) (n : Nat) (ρ : Rh) (σ : Sg) : W2 G (n + 1) ρ σ = W2 G n ρ σ ++ [(G.1 + n, el2 G ρ σ n)] := by
  unfold W2
  rw [List.range_succ, List.map_append]
  rfl
theorem Wc.push {G : Gx} {n : Nat} {ρ : Rh} {σ : Sg} {H H1 : Heap} (hW : Wc G n ρ σ H) (o1 : ∀ q, q < G.1 + n → H1[q]? = H[q]?) (z1 : H1.size = G.1 + n + 1) (hat : va_at (gD G) vwCl (G.1 + n, el2 G ρ σ n) H1) : Wc G (n + 1) ρ σ H1 := by
  obtain ⟨hP, hz, h0⟩ := hW
  refine ⟨?_, by omega, fun k hk => h0 k (by omega)⟩
  rw [W2_succ]
  refine (hP.kept (fun k x hx => o1 x.1 (by rw [← hz]; exact (hP k x hx).lt))).app (fun k x hx => ?_)
  have hk : k < 1 := (List.getElem?_eq_some_iff.mp hx).1
  rw [show k = 0 by omega] at hx
  cases hx
  exact hat
theorem va_S_push {A : Nat → Prop} {H0 H H1 : Heap} {locs : List Loc} (hS : va_S A H0 H locs) (o1 : ∀ q, q < H.size → H1[q]? = H[q]?) (z1 : H.size ≤ H1.size) : va_S A H0 H1 locs := ⟨Nat.le_trans hS.1 z1, fun q h1 h2 => (o1 q (Nat.lt_of_lt_of_le h1 hS.1)).trans (hS.2.1 q h1 h2), hS.2.2⟩
def AWc (X : Gx → Array Value → State → Code → Prop) (l : Launch) (own : String) (cc : ByteArray) (nL : Nat) (isI : Bool) (ret : Option FieldType) (R : Room) (ce sl : Nat) (QQ : Gx → Array Value → State → List Frame → State → Prop) (pc : Nat) (L : List (Nat × Value)) (st : List Value) (n : Nat) (ρ : Rh) (σ : Sg) : Prop :=
  ∀ (G : Gx) (p : Program) (e : Env) (s : State) (m : MethodId) (args : Array Value) (below : List Frame) (meth : Method) (c : Code) (H : Heap) (locs : List Loc) (ls : Array Slot),
    X G args s c → Cx G own cc nL ret p s m args meth c → (isI = true → meth.name = "<init>") → Wc G n ρ σ H → va_S (Ab G) s.heap H locs → lv_has ls nL (L.map (tq G)) →
    W p l e R s m args below meth c H locs ce sl (QQ G args s below) (F0 m pc ls (st.map (tv G)))
def RmC (d mc ms : Nat) : Room := { frames := d, cells := mc, slots := ms, locals := 37 * d }
def PC (G : Gx) (av : List Value) (n : Nat) (ρ : Rh) (σ : Sg) : Array Value → State → Prop := fun v U => v = (av.map (tv G)).toArray ∧ Wc G n ρ σ U.heap ∧ Kx G U
def QC (G : Gx) (Q : Nat → Rh → Sg → Prop) : Array Value → State → Outcome → State → Prop := fun _ st oc t => (∃ (n : Nat) (π : Rh) (τ : Sg), oc = .returned none ∧ Q n π τ ∧ Wc G n π τ t.heap) ∧ va_F (Ab G) st t
/-- the constructor y makes mc cells of ms places, and ends with Q -/
def EvC (l : Launch) (y : MethodName) (cc : ByteArray) (nL d : Nat) (av : List Value) (n : Nat) (ρ : Rh) (σ : Sg) (mc ms : Nat) (Q : Nat → Rh → Sg → Prop) : Prop :=
  ∀ G : Gx, Met l y (wsO y cc nL none) (RmC d mc ms) (PC G av n ρ σ) (QC G Q) mc ms (Ab G)
theorem PC_blind (G : Gx) (av : List Value) (n : Nat) (ρ : Rh) (σ : Sg) : FrameBlind (PC G av n ρ σ) := fun _ _ _ _ q => ⟨q.1, q.2.1, q.2.2.same rfl rfl⟩
section AWC2
variable {X : Gx → Array Value → State → Code → Prop} {l : Launch} {own : String} {cc : ByteArray} {nL : Nat} {isI : Bool} {ret : Option FieldType} {R : Room} {ce sl : Nat} {QQ : Gx → Array Value → State → List Frame → State → Prop} {pc : Nat} {L : List (Nat × Value)} {st : List Value} {n : Nat} {ρ : Rh} {σ : Sg}
theorem evc_of {y : MethodName} {d mc ms : Nat} {av : List Value} {Q : Nat → Rh → Sg → Prop} (hy : plainName y.cls = true) (hyn : y.name = "<init>") (hn : (lg_sl av).length ≤ nL)
    (h : AWc (fun _ _ _ _ => True) l y.cls cc nL true none (RmC d mc ms) 0 0 (fun G args s below => MQ below (QC G Q) args s mc ms (Ab G)) 0 (lv_args 0 av) [] n ρ σ) : EvC l y cc nL d av n ρ σ mc ms Q := by
  intro G
  refine Met.ofW (cc := cc) (maxL := nL) (ret := none) hy rfl ?_
  intro p e s m args below meth c s₁ B hml hv
  obtain ⟨rfl, hP, hK⟩ := hv
  have hts := atoms_spec (ws := wsO y cc nL none) B.pre
  have hsl : (lg_sl (av.map (tv G))).length = (lg_sl av).length := by
    clear hn h hP hts B
    induction av with
    | nil => rfl
    | cons v vs ih =>
      unfold lg_sl at ih ⊢
      rw [List.map_cons, List.flatMap_cons, List.flatMap_cons, List.length_append, List.length_append, ih, tv_cat]
      split <;> rfl
  have hl := lv_entry (av.map (tv G)) (n := nL) (by rw [hsl]; exact hn)
  rw [lg_entry_eq]
  rw [lv_args_tv] at hl
  exact h G p e s m _ below meth c s.heap [] _ trivial ⟨B.exec, B.bytes, hml, B.returns, B.notSynchronized, findClass_of_methodNamed B.named, fun w hw => hts w (List.mem_cons_of_mem _ hw), hK⟩ (fun _ => (name_of_methodNamed B.named B.method).1.trans hyn) hP va_S.rf hl
theorem ac_iconst {z : Int} (v : Int32) (hd : decode cc pc = .ok (.iconst z, 1)) (hv : Int32.ofInt z = v) (k : AWc X l own cc nL isI ret R ce sl QQ (pc + 1) L (.int v :: st) n ρ σ) : AWc X l own cc nL isI ret R ce sl QQ pc L st n ρ σ := by
  intro G p e s m args below meth c H locs ls hX C hI hW hS hl
  obtain ⟨hx, hb, hml, hr, hlk, hown, hts, hK⟩ := id C
  exact lv_iconst hx hb hd hv (k G p e s m args below meth c H locs ls hX C hI hW hS hl)
theorem ac_bipush {z : Int} (v : Int32) (hd : decode cc pc = .ok (.bipush z, 2)) (hv : (Int8.ofInt z).toInt32 = v) (k : AWc X l own cc nL isI ret R ce sl QQ (pc + 2) L (.int v :: st) n ρ σ) : AWc X l own cc nL isI ret R ce sl QQ pc L st n ρ σ := by
  intro G p e s m args below meth c H locs ls hX C hI hW hS hl
  obtain ⟨hx, hb, hml, hr, hlk, hown, hts, hK⟩ := id C
  exact lv_bipush hx hb hd hv (k G p e s m args below meth c H locs ls hX C hI hW hS hl)
theorem ac_sipush {z : Int} (v : Int32) (hd : decode cc pc = .ok (.sipush z, 3)) (hv : (Int16.ofInt z).toInt32 = v) (k : AWc X l own cc nL isI ret R ce sl QQ (pc + 3) L (.int v :: st) n ρ σ) : AWc X l own cc nL isI ret R ce sl QQ pc L st n ρ σ := by
  intro G p e s m args below meth c H locs ls hX C hI hW hS hl
  obtain ⟨hx, hb, hml, hr, hlk, hown, hts, hK⟩ := id C
  exact lv_sipush hx hb hd hv (k G p e s m args below meth c H locs ls hX C hI hW hS hl)
theorem ac_L_at {G : Gx} {ls : Array Slot} (hl : lv_has ls nL (L.map (tq G))) (j : Nat) {i : Nat} {v : Value} (h : L[j]? = some (i, v)) : ls[i]? = some (.val (tv G v)) := lv_at hl j (by rw [List.getElem?_map, h]; rfl)
theorem ac_iload_n {z : Fin 4} {x : Int32} (j : Nat) (hd : decode cc pc = .ok (.iload_n z, 1)) (h : L[j]? = some ((z : Nat), .int x)) (k : AWc X l own cc nL isI ret R ce sl QQ (pc + 1) L (.int x :: st) n ρ σ) : AWc X l own cc nL isI ret R ce sl QQ pc L st n ρ σ := by
  intro G p e s m args below meth c H locs ls hX C hI hW hS hl
  obtain ⟨hx, hb, hml, hr, hlk, hown, hts, hK⟩ := id C
  exact lv_iload_n hx hb hd rfl (ac_L_at hl j h) (k G p e s m args below meth c H locs ls hX C hI hW hS hl)
theorem ac_aload_n {z : Fin 4} {x : Nat} (j : Nat) (hd : decode cc pc = .ok (.aload_n z, 1)) (h : L[j]? = some ((z : Nat), .ref x)) (k : AWc X l own cc nL isI ret R ce sl QQ (pc + 1) L (.ref x :: st) n ρ σ) : AWc X l own cc nL isI ret R ce sl QQ pc L st n ρ σ := by
  intro G p e s m args below meth c H locs ls hX C hI hW hS hl
  obtain ⟨hx, hb, hml, hr, hlk, hown, hts, hK⟩ := id C
  exact lv_aload_n hx hb hd rfl (ac_L_at hl j h) (k G p e s m args below meth c H locs ls hX C hI hW hS hl)
theorem ac_istore_n {z : Fin 4} {i : Nat} {x : Int32} (L' : List (Nat × Value)) (hd : decode cc pc = .ok (.istore_n z, 1)) (hi : (z : Nat) = i) (hn : i < nL) (h : (i, Value.int x) :: L.filter (fun q : Nat × Value => !(q.1 == i) && !(q.1 + 1 == i && q.2.category == 2)) = L') (k : AWc X l own cc nL isI ret R ce sl QQ (pc + 1) L' st n ρ σ) : AWc X l own cc nL isI ret R ce sl QQ pc L (.int x :: st) n ρ σ := by
  intro G p e s m args below meth c H locs ls hX C hI hW hS hl
  obtain ⟨hx, hb, hml, hr, hlk, hown, hts, hK⟩ := id C
  exact lv_istore_n hx hb hd hi hl hn (L_st1 h) (fun ls hl => k G p e s m args below meth c H locs ls hX C hI hW hS hl)
theorem ac_astore_n {z : Fin 4} {i : Nat} {x : Nat} (L' : List (Nat × Value)) (hd : decode cc pc = .ok (.astore_n z, 1)) (hi : (z : Nat) = i) (hn : i < nL) (h : (i, Value.ref x) :: L.filter (fun q : Nat × Value => !(q.1 == i) && !(q.1 + 1 == i && q.2.category == 2)) = L') (k : AWc X l own cc nL isI ret R ce sl QQ (pc + 1) L' st n ρ σ) : AWc X l own cc nL isI ret R ce sl QQ pc L (.ref x :: st) n ρ σ := by
  intro G p e s m args below meth c H locs ls hX C hI hW hS hl
  obtain ⟨hx, hb, hml, hr, hlk, hown, hts, hK⟩ := id C
  exact lv_astore_n hx hb hd hi hl hn (L_st1 h) (fun ls hl => k G p e s m args below meth c H locs ls hX C hI hW hS hl)
theorem ac_iinc {i : Nat} {z : Int} {x : Int32} (j : Nat) (v : Int32) (L' : List (Nat × Value)) (hd : decode cc pc = .ok (.iinc i z, 3)) (hj : L[j]? = some (i, .int x)) (hv : x + Int32.ofInt z = v) (hn : i < nL) (h : (i, Value.int v) :: L.filter (fun q : Nat × Value => !(q.1 == i) && !(q.1 + 1 == i && q.2.category == 2)) = L') (k : AWc X l own cc nL isI ret R ce sl QQ (pc + 3) L' st n ρ σ) : AWc X l own cc nL isI ret R ce sl QQ pc L st n ρ σ := by
  intro G p e s m args below meth c H locs ls hX C hI hW hS hl
  obtain ⟨hx, hb, hml, hr, hlk, hown, hts, hK⟩ := id C
  exact lv_iinc (k := j) hx hb hd hl (by rw [List.getElem?_map, hj]; rfl) hv hn (L_st1 (v := .int v) h) (fun ls hl => k G p e s m args below meth c H locs ls hX C hI hW hS hl)
theorem ac_dup {v : Value} (hd : decode cc pc = .ok (.dup, 1)) (hv : v.category = 1) (k : AWc X l own cc nL isI ret R ce sl QQ (pc + 1) L (v :: v :: st) n ρ σ) : AWc X l own cc nL isI ret R ce sl QQ pc L (v :: st) n ρ σ := by
  intro G p e s m args below meth c H locs ls hX C hI hW hS hl
  obtain ⟨hx, hb, hml, hr, hlk, hown, hts, hK⟩ := id C
  exact lv_dup hx hb hd (by rw [tv_cat]; exact hv) (k G p e s m args below meth c H locs ls hX C hI hW hS hl)
theorem ac_geT {x y : Int32} {off : Int} (tgt : Nat) (hd : decode cc pc = .ok (.if_icmp .ge off, 3)) (ht : (pc : Int) + off = (tgt : Int)) (h : y ≤ x) (k : AWc X l own cc nL isI ret R ce sl QQ tgt L st n ρ σ) : AWc X l own cc nL isI ret R ce sl QQ pc L (.int y :: .int x :: st) n ρ σ := by
  intro G p e s m args below meth c H locs ls hX C hI hW hS hl
  obtain ⟨hx, hb, hml, hr, hlk, hown, hts, hK⟩ := id C
  exact lv_icmp_ge hx hb hd ht (fun _ => (k G p e s m args below meth c H locs ls hX C hI hW hS hl)) (fun q => absurd h q)
theorem ac_geF {x y : Int32} {off : Int} (tgt : Nat) (hd : decode cc pc = .ok (.if_icmp .ge off, 3)) (ht : (pc : Int) + off = (tgt : Int)) (h : ¬ y ≤ x) (k : AWc X l own cc nL isI ret R ce sl QQ (pc + 3) L st n ρ σ) : AWc X l own cc nL isI ret R ce sl QQ pc L (.int y :: .int x :: st) n ρ σ := by
  intro G p e s m args below meth c H locs ls hX C hI hW hS hl
  obtain ⟨hx, hb, hml, hr, hlk, hown, hts, hK⟩ := id C
  exact lv_icmp_ge hx hb hd ht (fun q => absurd q h) (fun _ => (k G p e s m args below meth c H locs ls hX C hI hW hS hl))
theorem ac_goto {off : Int} (tgt : Nat) (hd : decode cc pc = .ok (.goto off, 3)) (ht : (pc : Int) + off = (tgt : Int)) (k : AWc X l own cc nL isI ret R ce sl QQ tgt L st n ρ σ) : AWc X l own cc nL isI ret R ce sl QQ pc L st n ρ σ := by
  intro G p e s m args below meth c H locs ls hX C hI hW hS hl
  obtain ⟨hx, hb, hml, hr, hlk, hown, hts, hK⟩ := id C
  exact lv_goto hx hb hd ht (k G p e s m args below meth c H locs ls hX C hI hW hS hl)
theorem el2_o {G : Gx} {k ci : Nat} (hki : ki k = ci) (hc : ci < 11) : el2 G ρ σ k = .inr (ci, ofs2 G ρ σ k) := by
  unfold el2
  rw [if_pos (by rw [hki]; exact hc), hki]
theorem el2_a {G : Gx} {k t : Nat} (hki : ki k = t) (h1 : 11 ≤ t) (h2 : t < 14) : el2 G ρ σ k = .inl (cy G t, ln k, .inl (σ k)) := by
  unfold el2
  rw [if_neg (by omega), if_pos (by omega), hki]
theorem el2_l {G : Gx} {k : Nat} (hki : ki k = 16) : el2 G ρ σ k = .inl (cy G 16, ln k, .inr (.inl (fun j => (σ k j).toInt64))) := by
  unfold el2
  rw [if_neg (by omega), if_neg (by omega), if_pos hki]
theorem el2_q {G : Gx} {k t : Nat} (hki : ki k = t) (h1 : 14 ≤ t) (h2 : t < 16) : el2 G ρ σ k = .inl (cy G t, ln k, .inr (.inr (.inr (.inr (fun j => rOf G (ρ k j)))))) := by
  unfold el2
  rw [if_neg (by omega), if_neg (by omega), if_neg (by omega), hki]
theorem ofs2_at {G : Gx} {k ci j N : Nat} (hk : k < NN) (hki : ki k = ci) (hc : ci < 11) (hN : nfL.getD ci 0 = N) (hj : j < N) : (ofs2 G ρ σ k)[j]? = some (if fk ci j then va_rf (rOf G (ρ k j)) else Value.int (σ k j)) := by
  have h1 : ln k = N := by rw [ln_nf k hk (by rw [hki]; exact hc), hki, hN]
  unfold ofs2
  rw [List.getElem?_map, List.getElem?_range (by rw [h1]; exact hj), hki]
  rfl
theorem ofs2_len {G : Gx} {k ci N : Nat} (hk : k < NN) (hki : ki k = ci) (hc : ci < 11) (hN : nfL.getD ci 0 = N) : (ofs2 G ρ σ k).length = N := by
  have h1 : ln k = N := by rw [ln_nf k hk (by rw [hki]; exact hc), hki, hN]
  unfold ofs2
  rw [List.length_map, List.length_range, h1]
theorem ofs2_setR {G : Gx} {k ci j N r : Nat} (hk : k < NN) (hki : ki k = ci) (hc : ci < 11) (hN : nfL.getD ci 0 = N) (hj : j < N) (hf : fk ci j = true) : (ofs2 G ρ σ k).set j (.ref (G.1 + r)) = ofs2 G (upR ρ k j (some r)) σ k := by
  apply List.ext_getElem?
  intro i
  by_cases hi : i < N
  · rw [ofs2_at hk hki hc hN hi]
    by_cases e : i = j
    · subst e
      rw [List.getElem?_set_self (by rw [ofs2_len hk hki hc hN]; exact hi), hf]
      simp [upR, rOf, va_rf]
    · rw [List.getElem?_set_ne (Ne.symm e), ofs2_at hk hki hc hN hi]
      simp [upR, e]
  · rw [List.getElem?_eq_none (by rw [List.length_set, ofs2_len hk hki hc hN]; omega), List.getElem?_eq_none (by rw [ofs2_len hk hki hc hN]; omega)]
theorem ofs2_setI {G : Gx} {k ci j N : Nat} {v : Int32} (hk : k < NN) (hki : ki k = ci) (hc : ci < 11) (hN : nfL.getD ci 0 = N) (hj : j < N) (hf : fk ci j = false) : (ofs2 G ρ σ k).set j (.int v) = ofs2 G ρ (up σ k j v) k := by
  apply List.ext_getElem?
  intro i
  by_cases hi : i < N
  · rw [ofs2_at hk hki hc hN hi]
    by_cases e : i = j
    · subst e
      rw [List.getElem?_set_self (by rw [ofs2_len hk hki hc hN]; exact hi), hf]
      simp [up, upd]
    · rw [List.getElem?_set_ne (Ne.symm e), ofs2_at hk hki hc hN hi]
      simp [up, upd, e]
  · rw [List.getElem?_eq_none (by rw [List.length_set, ofs2_len hk hki hc hN]; omega), List.getElem?_eq_none (by rw [ofs2_len hk hki hc hN]; omega)]
theorem ac_getR {ci ix k N r : Nat} {Cn : String} {T : u_T} {ty : Nat → FieldType} (j : Nat) (kc : KC ci Cn T N ty) (hd : decode cc pc = .ok (.getfield ix, 3)) (hw : Cond.fieldLink own ix (T j).1 (T j).2.1 (T j).2.2.1 ∈ TBg) (hk : k < NN) (hkn : k < n) (hki : ki k = ci) (hj : j < N) (hf : fk ci j = true) (hr : ρ k j = some r) (k2 : AWc X l own cc nL isI ret R ce sl QQ (pc + 3) L (.ref r :: st) n ρ σ) : AWc X l own cc nL isI ret R ce sl QQ pc L (.ref k :: st) n ρ σ := by
  intro G p e s m args below meth c H locs ls hX C hI hW hS hl
  obtain ⟨hx, hb, hml, -, hlk, hown, hts, hK⟩ := id C
  refine va_get hx hb hts kc.2.1 hown hK.1 hW.1 k (by rw [W2_get hkn, el2_o hki kc.2.2.2.2.2]) kc.1 j hj (hts _ hw) (fun _ q => q) (v := .ref (G.1 + r)) ?_ hd (k2 G p e s m args below meth c H locs ls hX C hI hW hS hl)
  rw [ofs2_at hk hki kc.2.2.2.2.2 kc.2.2.2.2.1 hj, hf, hr]
  rfl
/-- a field of an object that stands, by the kit's rows, with the heap's size -/
theorem ac_putR {ci ix k N r : Nat} {Cn : String} {T : u_T} {ty : Nat → FieldType} (j : Nat) (kc : KC ci Cn T N ty) (hii : isI = true) (hd : decode cc pc = .ok (.putfield ix, 3)) (hw : Cond.fieldLink own ix (T j).1 (T j).2.1 (T j).2.2.1 ∈ TBg) (hk : k < NN) (hkn : k < n) (hki : ki k = ci) (hj : j < N) (hf : fk ci j = true) (hfin : (T j).2.2.2 = true) (hdecl : (T j).1 = own) (hn : ∀ x, narrow (ty j) (.ref x) = .ref x) (hfit : ∀ x, fits (ty j) (.ref x) = true) (k2 : AWc X l own cc nL isI ret R ce sl QQ (pc + 3) L st n (upR ρ k j (some r)) σ) : AWc X l own cc nL isI ret R ce sl QQ pc L (.ref r :: .ref k :: st) n ρ σ := by
  intro G p e s m args below meth c H locs ls hX C hI hW hS hl
  obtain ⟨hx, hb, hml, hr, hlk, hown, hts, hK⟩ := id C
  obtain ⟨hP, hz, h0⟩ := hW
  have hap := va_apart (own := own) hts kc.2.1 ty kc.2.2.1 kc.2.2.2.1 hK.1 kc.1
  have he : (W2 G n ρ σ)[k]? = some (G.1 + k, .inr (ci, ofs2 G ρ σ k)) := by rw [W2_get hkn, el2_o hki kc.2.2.2.2.2]
  obtain ⟨rr, g1, cell, q1, q2, q3, q4⟩ := hP k _ he
  have hrr : rr = (Cn, T, N) := Option.some.inj (g1.symm.trans kc.1)
  subst hrr
  obtain ⟨hSl, hfc, kC, hkC, hkind⟩ := hK.1.1 ci _ kc.1
  obtain ⟨cf, kf, fi, f, hi, hsl⟩ := hSl j hj
  have hlay := hts _ (kc.2.1 _ (u_in_lay hj))
  unfold u_lay at hlay
  rw [if_pos hfin] at hlay
  have hst := (u_facts hfc hkC (u_lays hts kc.2.1 hj) hi).1
  have hcf : m.cls = cf := by
    obtain ⟨_, _, c', _, _, _, -, -, hf', -, -, -, hown2, -⟩ := Cond.laysFinal_spec hlay
    have e1 : c' = cf := by have := hi.symm.trans hf'; simp at this; exact this.1.symm
    rw [hdecl] at hown2
    rw [← e1]; exact Option.some.inj (hown.symm.trans hown2)
  have h6 := u_fits (v := .ref (G.1 + r)) hfc hkC hkind (Or.inr hlay) hi (kc.2.2.1 j hj) (hn _) (hfit _)
  refine W.putFinK hx hb hown (hts _ hw) hi hst hcf (hI hii) (by rw [q2]; exact h6) q1 q3 (by rw [hsl]; exact k2_hasslot (q4 j hj)) rfl rfl hd fun H' e1 e2 e3 => ?_
  rw [hsl] at e1 ⊢
  have hlen : j < (ofs2 G ρ σ k).length := by rw [ofs2_len hk hki kc.2.2.2.2.2 kc.2.2.2.2.1]; exact hj
  have hP' := hP.set (W2_D G n ρ σ) he (e := .inr (ci, (ofs2 G ρ σ k).set j (.ref (G.1 + r)))) ⟨_, kc.1, t_OB.to (V := updV (vp_V (ofs2 G ρ σ k)) j (.ref (G.1 + r))) ⟨_, e1, q2, q3, t_set q4 hap hj _⟩ (fun i _ => vp_updV_set hlen _ i)⟩ e3
  refine k2 G p e s m args below meth c H' _ ls hX C hI ⟨?_, e2.trans hz, fun q hq i => ⟨(h0 q hq i).1, ?_⟩⟩ (hS.put e2 e3 ((W2_D G n ρ σ).2 k _ he)) hl
  · rw [← W2_set (ρ := ρ) (π := upR ρ k j (some r)) (σ := σ) (τ := σ) (k := k) rfl (fun i hi => ⟨rfl, if_neg hi⟩), el2_o hki kc.2.2.2.2.2, ← ofs2_setR hk hki kc.2.2.2.2.2 kc.2.2.2.2.1 hj hf]
    exact hP'
  · have : q ≠ k := by omega
    unfold upR
    rw [if_neg this]
    exact (h0 q hq i).2
theorem ac_putI {ci ix k N : Nat} {v : Int32} {Cn : String} {T : u_T} {ty : Nat → FieldType} (j : Nat) (kc : KC ci Cn T N ty) (hd : decode cc pc = .ok (.putfield ix, 3)) (hw : Cond.fieldLink own ix (T j).1 (T j).2.1 (T j).2.2.1 ∈ TBg) (hk : k < NN) (hkn : k < n) (hki : ki k = ci) (hj : j < N) (hf : fk ci j = false) (hfin : (T j).2.2.2 = false) (hn : narrow (ty j) (.int v) = .int v) (hfit : fits (ty j) (.int v) = true) (k2 : AWc X l own cc nL isI ret R ce sl QQ (pc + 3) L st n ρ (up σ k j v)) : AWc X l own cc nL isI ret R ce sl QQ pc L (.int v :: .ref k :: st) n ρ σ := by
  intro G p e s m args below meth c H locs ls hX C hI hW hS hl
  obtain ⟨hx, hb, hml, hr, hlk, hown, hts, hK⟩ := id C
  obtain ⟨hP, hz, h0⟩ := hW
  have hap := va_apart (own := own) hts kc.2.1 ty kc.2.2.1 kc.2.2.2.1 hK.1 kc.1
  have he : (W2 G n ρ σ)[k]? = some (G.1 + k, .inr (ci, ofs2 G ρ σ k)) := by rw [W2_get hkn, el2_o hki kc.2.2.2.2.2]
  obtain ⟨rr, g1, cell, q1, q2, q3, q4⟩ := hP k _ he
  have hrr : rr = (Cn, T, N) := Option.some.inj (g1.symm.trans kc.1)
  subst hrr
  obtain ⟨hSl, hfc, kC, hkC, hkind⟩ := hK.1.1 ci _ kc.1
  obtain ⟨cf, kf, fi, f, hi, hsl⟩ := hSl j hj
  have hlay := hts _ (kc.2.1 _ (u_in_lay hj))
  unfold u_lay at hlay
  rw [if_neg (by rw [hfin]; decide)] at hlay
  have hst := (u_facts hfc hkC (u_lays hts kc.2.1 hj) hi).1
  have h6 := u_store hfc hkC hkind hlay hi (kc.2.2.1 j hj) hn hfit
  refine W.putK hx hb (f := f) ⟨hown, hts _ hw, ⟨_, _, _, hi⟩, hst⟩ (by rw [q2]; exact h6) q1 q3 (by rw [hsl]; exact k2_hasslot (q4 j hj)) rfl rfl hd fun H' e1 e2 e3 => ?_
  rw [hsl] at e1 ⊢
  have hlen : j < (ofs2 G ρ σ k).length := by rw [ofs2_len hk hki kc.2.2.2.2.2 kc.2.2.2.2.1]; exact hj
  have hP' := hP.set (W2_D G n ρ σ) he (e := .inr (ci, (ofs2 G ρ σ k).set j (.int v))) ⟨_, kc.1, t_OB.to (V := updV (vp_V (ofs2 G ρ σ k)) j (.int v)) ⟨_, e1, q2, q3, t_set q4 hap hj _⟩ (fun i _ => vp_updV_set hlen _ i)⟩ e3
  refine k2 G p e s m args below meth c H' _ ls hX C hI ⟨?_, e2.trans hz, fun q hq i => ⟨?_, (h0 q hq i).2⟩⟩ (hS.put e2 e3 ((W2_D G n ρ σ).2 k _ he)) hl
  · rw [← W2_set (ρ := ρ) (π := ρ) (σ := σ) (τ := up σ k j v) (k := k) rfl (fun i hi => ⟨if_neg hi, rfl⟩), el2_o hki kc.2.2.2.2.2, ← ofs2_setI hk hki kc.2.2.2.2.2 kc.2.2.2.2.1 hj hf]
    exact hP'
  · have : q ≠ k := by omega
    unfold up
    rw [if_neg this]
    exact (h0 q hq i).1
theorem ac_new {ci ix N : Nat} {Cn : String} {T : u_T} {ty : Nat → FieldType} (kc : KC ci Cn T N ty) (hd : decode cc pc = .ok (.new ix, 3)) (h1 : Cond.classLink own ix Cn ∈ TBg) (h2 : Cond.instantiable Cn N ∈ TBg) (h3 : Cond.initialized Cn ∈ TBg) (hn : n < NN) (hki : ki n = ci) (hdf : ∀ j, j < N → defaultValue (ty j) = if fk ci j then .null else .int 0) (hce : ce + 1 ≤ R.cells) (hsl : sl + N ≤ R.slots) (k2 : AWc X l own cc nL isI ret R (ce + 1) (sl + N) QQ (pc + 3) L (.ref n :: st) (n + 1) ρ σ) : AWc X l own cc nL isI ret R ce sl QQ pc L st n ρ σ := by
  intro G p e s m args below meth c H locs ls hX C hI hW hS hl
  obtain ⟨hx, hb, hml, hr, hlk, hown, hts, hK⟩ := id C
  have hKn := hK.1.1 ci _ kc.1
  refine W.newcK hx hb hown (hts _ h1) (hts _ h2) (hts _ h3) rfl hd hce hsl hKn.2.1 (h := G.1 + n) hW.2.1 fun H1 kC hkC e1 z1 o1 => ?_
  refine k2 G p e s m args below meth c H1 locs ls hX C hI (hW.push o1 z1 ?_) (va_S_push hS (fun q hq => o1 q (by rw [← hW.2.1]; exact hq)) (by rw [z1, hW.2.1]; omega)) hl
  rw [el2_o hki kc.2.2.2.2.2]
  refine ⟨_, kc.1, (u_born ty hts kc.2.1 hKn hkC e1 kc.2.2.1).to (fun j hj => ?_)⟩
  have h0 := hW.2.2 n (Nat.le_refl n) j
  have ha := ofs2_at (ρ := ρ) (σ := σ) (G := G) hn hki kc.2.2.2.2.2 kc.2.2.2.2.1 hj
  unfold vp_V
  rw [hdf j hj, List.getD_eq_getElem?_getD, ha, h0.1, h0.2]
  cases fk ci j <;> rfl
theorem ac_newI {N : Nat} {v : Int32} (hd : decode cc pc = .ok (.newarray .int, 2)) (h1 : Cond.arrayClass .int ∈ TBg) (hn : n < NN) (hki : ki n = 11) (hln : ln n = N) (hv : ¬ v < 0) (hN : v.toNatClampNeg = N) (hb2 : N * componentBytes .int ≤ 536870912) (hce : ce + 1 ≤ R.cells) (hsl : sl + N ≤ R.slots) (k2 : AWc X l own cc nL isI ret R (ce + 1) (sl + N) QQ (pc + 2) L (.ref n :: st) (n + 1) ρ σ) : AWc X l own cc nL isI ret R ce sl QQ pc L (.int v :: st) n ρ σ := by
  intro G p e s m args below meth c H locs ls hX C hI hW hS hl
  obtain ⟨hx, hb, hml, hr, hlk, hown, hts, hK⟩ := id C
  refine va_newaK (atype := .int) hx hb (hts _ h1) rfl hd rfl hv hN hb2 hce hsl (h := G.1 + n) hW.2.1 fun H1 cA e1 z1 o1 hA hfc => ?_
  refine k2 G p e s m args below meth c H1 locs ls hX C hI (hW.push o1 z1 ?_) (va_S_push hS (fun q hq => o1 q (by rw [← hW.2.1]; exact hq)) (by rw [z1, hW.2.1]; omega)) hl
  have hcy : cA = cy G 11 := by
    have h5 : s.vm.findClass ("[" ++ (FieldType.toString FieldType.int)) = some (cy G 11) := (hK.1.2 0 (cy G 11, .int) rfl).2
    exact Option.some.inj (hfc.symm.trans h5)
  rw [el2_a hki (by decide) (by decide)]
  show H1[G.1 + n]? = some (arrV (cy G 11) (ln n) (fun j => .int (σ n j)))
  rw [e1, hcy, hln]
  refine congrArg some (congrArg (arrV _ _) (funext fun j => ?_))
  rw [(hW.2.2 n (Nat.le_refl n) j).1]
  rfl
theorem ac_newB {N : Nat} {v : Int32} (hd : decode cc pc = .ok (.newarray .byte, 2)) (h1 : Cond.arrayClass .byte ∈ TBg) (hn : n < NN) (hki : ki n = 12) (hln : ln n = N) (hv : ¬ v < 0) (hN : v.toNatClampNeg = N) (hb2 : N * componentBytes .byte ≤ 536870912) (hce : ce + 1 ≤ R.cells) (hsl : sl + N ≤ R.slots) (k2 : AWc X l own cc nL isI ret R (ce + 1) (sl + N) QQ (pc + 2) L (.ref n :: st) (n + 1) ρ σ) : AWc X l own cc nL isI ret R ce sl QQ pc L (.int v :: st) n ρ σ := by
  intro G p e s m args below meth c H locs ls hX C hI hW hS hl
  obtain ⟨hx, hb, hml, hr, hlk, hown, hts, hK⟩ := id C
  refine va_newaK (atype := .byte) hx hb (hts _ h1) rfl hd rfl hv hN hb2 hce hsl (h := G.1 + n) hW.2.1 fun H1 cA e1 z1 o1 hA hfc => ?_
  refine k2 G p e s m args below meth c H1 locs ls hX C hI (hW.push o1 z1 ?_) (va_S_push hS (fun q hq => o1 q (by rw [← hW.2.1]; exact hq)) (by rw [z1, hW.2.1]; omega)) hl
  have hcy : cA = cy G 12 := by
    have h5 : s.vm.findClass ("[" ++ (FieldType.toString FieldType.byte)) = some (cy G 12) := (hK.1.2 1 (cy G 12, .byte) rfl).2
    exact Option.some.inj (hfc.symm.trans h5)
  rw [el2_a hki (by decide) (by decide)]
  show H1[G.1 + n]? = some (arrV (cy G 12) (ln n) (fun j => .int (σ n j)))
  rw [e1, hcy, hln]
  refine congrArg some (congrArg (arrV _ _) (funext fun j => ?_))
  rw [(hW.2.2 n (Nat.le_refl n) j).1]
  rfl
theorem ac_newZ {N : Nat} {v : Int32} (hd : decode cc pc = .ok (.newarray .boolean, 2)) (h1 : Cond.arrayClass .boolean ∈ TBg) (hn : n < NN) (hki : ki n = 13) (hln : ln n = N) (hv : ¬ v < 0) (hN : v.toNatClampNeg = N) (hb2 : N * componentBytes .boolean ≤ 536870912) (hce : ce + 1 ≤ R.cells) (hsl : sl + N ≤ R.slots) (k2 : AWc X l own cc nL isI ret R (ce + 1) (sl + N) QQ (pc + 2) L (.ref n :: st) (n + 1) ρ σ) : AWc X l own cc nL isI ret R ce sl QQ pc L (.int v :: st) n ρ σ := by
  intro G p e s m args below meth c H locs ls hX C hI hW hS hl
  obtain ⟨hx, hb, hml, hr, hlk, hown, hts, hK⟩ := id C
  refine va_newaK (atype := .boolean) hx hb (hts _ h1) rfl hd rfl hv hN hb2 hce hsl (h := G.1 + n) hW.2.1 fun H1 cA e1 z1 o1 hA hfc => ?_
  refine k2 G p e s m args below meth c H1 locs ls hX C hI (hW.push o1 z1 ?_) (va_S_push hS (fun q hq => o1 q (by rw [← hW.2.1]; exact hq)) (by rw [z1, hW.2.1]; omega)) hl
  have hcy : cA = cy G 13 := by
    have h5 : s.vm.findClass ("[" ++ (FieldType.toString FieldType.boolean)) = some (cy G 13) := (hK.1.2 2 (cy G 13, .boolean) rfl).2
    exact Option.some.inj (hfc.symm.trans h5)
  rw [el2_a hki (by decide) (by decide)]
  show H1[G.1 + n]? = some (arrV (cy G 13) (ln n) (fun j => .int (σ n j)))
  rw [e1, hcy, hln]
  refine congrArg some (congrArg (arrV _ _) (funext fun j => ?_))
  rw [(hW.2.2 n (Nat.le_refl n) j).1]
  rfl
theorem ac_newL {N : Nat} {v : Int32} (hd : decode cc pc = .ok (.newarray .long, 2)) (h1 : Cond.arrayClass .long ∈ TBg) (hn : n < NN) (hki : ki n = 16) (hln : ln n = N) (hv : ¬ v < 0) (hN : v.toNatClampNeg = N) (hb2 : N * componentBytes .long ≤ 536870912) (hce : ce + 1 ≤ R.cells) (hsl : sl + N ≤ R.slots) (k2 : AWc X l own cc nL isI ret R (ce + 1) (sl + N) QQ (pc + 2) L (.ref n :: st) (n + 1) ρ σ) : AWc X l own cc nL isI ret R ce sl QQ pc L (.int v :: st) n ρ σ := by
  intro G p e s m args below meth c H locs ls hX C hI hW hS hl
  obtain ⟨hx, hb, hml, hr, hlk, hown, hts, hK⟩ := id C
  refine va_newaK (atype := .long) hx hb (hts _ h1) rfl hd rfl hv hN hb2 hce hsl (h := G.1 + n) hW.2.1 fun H1 cA e1 z1 o1 hA hfc => ?_
  refine k2 G p e s m args below meth c H1 locs ls hX C hI (hW.push o1 z1 ?_) (va_S_push hS (fun q hq => o1 q (by rw [← hW.2.1]; exact hq)) (by rw [z1, hW.2.1]; omega)) hl
  have hcy : cA = cy G 16 := by
    have h5 : s.vm.findClass ("[" ++ (FieldType.toString FieldType.long)) = some (cy G 16) := (hK.1.2 5 (cy G 16, .long) rfl).2
    exact Option.some.inj (hfc.symm.trans h5)
  rw [el2_l hki]
  show H1[G.1 + n]? = some (arrV (cy G 16) (ln n) (fun j => .long ((σ n j).toInt64)))
  rw [e1, hcy, hln]
  refine congrArg some (congrArg (arrV _ _) (funext fun j => ?_))
  rw [(hW.2.2 n (Nat.le_refl n) j).1]
  rfl
theorem ac_anew {N ix : Nat} {v : Int32} (hd : decode cc pc = .ok (.anewarray ix, 3)) (h1 : Cond.classLink own ix "CupPot$Season" ∈ TBg) (hn : n < NN) (hki : ki n = 14) (hln : ln n = N) (hv : ¬ v < 0) (hN : v.toNatClampNeg = N) (hb2 : N * 4 ≤ 536870912) (hce : ce + 1 ≤ R.cells) (hsl : sl + N ≤ R.slots) (k2 : AWc X l own cc nL isI ret R (ce + 1) (sl + N) QQ (pc + 3) L (.ref n :: st) (n + 1) ρ σ) : AWc X l own cc nL isI ret R ce sl QQ pc L (.int v :: st) n ρ σ := by
  intro G p e s m args below meth c H locs ls hX C hI hW hS hl
  obtain ⟨hx, hb, hml, hr, hlk, hown, hts, hK⟩ := id C
  subst hN
  refine W.anew hx hb hown (hts _ h1) hK.2.2.2.2.2.2.2.2.2.2.1 rfl hd rfl hv hb2 hce hsl fun cA kA comp g1 g2 g3 g4 => ?_
  refine W.eq (g2 := F0 m (pc + 3) ls ((Value.ref n :: st).map (tv G))) (by simp [tv, hW.2.1]) ?_
  refine k2 G p e s m args below meth c _ locs ls hX C hI (hW.push ?_ (by simp [hW.2.1]) ?_) (va_S_push hS (fun q hq => by rw [Array.getElem?_push, if_neg (Nat.ne_of_lt hq)]) (by simp)) hl
  · intro q hq
    rw [Array.getElem?_push, if_neg (by rw [hW.2.1]; omega)]
  · have hcy : cA = cy G 14 := by
      obtain ⟨_, _, _, _, _, h5⟩ := (hK.1.2 3 (cy G 14, .object "CupPot$Season") rfl).2
      exact Option.some.inj (g1.symm.trans h5)
    rw [el2_q hki (by decide) (by decide)]
    show (H.push _)[G.1 + n]? = some (arrV (cy G 14) (ln n) (fun j => va_rf (rOf G (ρ n j))))
    rw [← hW.2.1, Array.getElem?_push_size, hcy, hln, arrV_new]
    refine congrArg some (congrArg (arrV _ _) (funext fun j => ?_))
    rw [(hW.2.2 n (Nat.le_refl n) j).2]
    rfl
theorem ac_aast {k r N : Nat} {i : Int32} {j : Nat} (hd : decode cc pc = .ok (.aastore, 1)) (hk : k < NN) (hkn : k < n) (hki : ki k = 14) (hln : ln k = N) (hi : ¬ i < 0) (hj : i.toNatClampNeg = j) (hjN : j < N) (hrn : r < n) (hkr : ki r = 6) (k2 : AWc X l own cc nL isI ret R ce sl QQ (pc + 1) L st n (upR ρ k j (some r)) σ) : AWc X l own cc nL isI ret R ce sl QQ pc L (.ref r :: .int i :: .ref k :: st) n ρ σ := by
  intro G p e s m args below meth c H locs ls hX C hI hW hS hl
  obtain ⟨hx, hb, hml, hr, hlk, hown, hts, hK⟩ := id C
  obtain ⟨hP, hz, h0⟩ := hW
  subst hj
  have he := W2_get (G := G) (ρ := ρ) (σ := σ) hkn
  rw [el2_q hki (by decide) (by decide)] at he
  have hcell : H[G.1 + k]? = some (arrV (cy G 14) (ln k) (fun j => va_rf (rOf G (ρ k j)))) := hP k _ he
  have hv := hP r _ (W2_get hrn)
  rw [el2_o hkr (by decide)] at hv
  obtain ⟨rr, g1, cv, q1, q2, q3, q4⟩ := hv
  obtain ⟨kA, comp, a1, a2, a3, a4⟩ := (hK.1.2 3 (cy G 14, .object "CupPot$Season") rfl).2
  have hKn := hK.1.1 6 _ (show vwCl[6]? = some (RX6, TX6, 9) from rfl)
  obtain ⟨-, hfc, kC, hkC, hkind⟩ := hKn
  have hcomp : comp = (gD G).1 6 := Option.some.inj (a3.symm.trans hfc)
  subst hcomp
  refine W.aast hx hb hcell (fun q h => by cases h) (fun h => by cases h) a1 a2 rfl hkC ⟨hi, by simp [arrV]; omega⟩ q1 (fun q h => by rw [q3] at h; cases h) (by rw [q2]; exact hkC) (by rw [q2]; exact va_asg _ _) rfl rfl hd fun H' e1 e2 e3 => ?_
  have hset : el2 G (upR ρ k i.toNatClampNeg (some r)) σ k = .inl (cy G 14, ln k, .inr (.inr (.inr (.inr (fun j => rOf G (upR ρ k i.toNatClampNeg (some r) k j)))))) := el2_q hki (by decide) (by decide)
  have hP' := hP.set (W2_D G n ρ σ) he (e := el2 G (upR ρ k i.toNatClampNeg (some r)) σ k) (by
    rw [hset]
    show H'[G.1 + k]? = some (arrV (cy G 14) (ln k) (fun j => va_rf (rOf G (upR ρ k i.toNatClampNeg (some r) k j))))
    rw [e1, arrV_store]
    refine congrArg some (congrArg (arrV _ _) (funext fun j => ?_))
    by_cases hj : j = i.toNatClampNeg
    · simp [updV, upR, hj, rOf, va_rf]
    · simp [updV, upR, hj]) e3
  refine k2 G p e s m args below meth c H' _ ls hX C hI ⟨?_, e2.trans hz, fun q hq i => ⟨(h0 q hq i).1, ?_⟩⟩ (hS.put e2 e3 ((W2_D G n ρ σ).2 k _ he)) hl
  · rw [← W2_set (ρ := ρ) (π := upR ρ k i.toNatClampNeg (some r)) (σ := σ) (τ := σ) (k := k) rfl (fun i hi => ⟨rfl, if_neg hi⟩)]
    exact hP'
  · have : q ≠ k := by omega
    unfold upR
    rw [if_neg this]
    exact (h0 q hq i).2
theorem ac_multi {N M ix : Nat} {a b : Int32} (hd : decode cc pc = .ok (.multianewarray ix 2, 4)) (h1 : Cond.classLink own ix ("[" ++ (FieldType.array .int).toString) ∈ TBg) (h2 : Cond.arrayClass .int ∈ TBg) (hki : ki n = 15) (hln : ln n = N) (hrows : ∀ j, j < N → ki (n + 1 + j) = 11 ∧ ln (n + 1 + j) = M) (ha : ¬ a < 0) (hb0 : ¬ b < 0) (hN : a.toNatClampNeg = N) (hM : b.toNatClampNeg = M) (hb1 : N * 4 ≤ 536870912) (hb2 : M * componentBytes .int ≤ 536870912) (hb3 : M ≤ 536870912) (hce : ce + (1 + N) ≤ R.cells) (hsl : sl + (N + N * M) ≤ R.slots) (k2 : AWc X l own cc nL isI ret R (ce + 1 + N) (sl + N + N * M) QQ (pc + 4) L (.ref n :: st) (n + 1 + N) (fun q => if q = n then (fun j => if j < N then some (n + 1 + j) else none) else ρ q) σ) : AWc X l own cc nL isI ret R ce sl QQ pc L (.int b :: .int a :: st) n ρ σ := by
  intro G p e s m args below meth c H locs ls hX C hI hW hS hl
  obtain ⟨hx, hb, hml, hr, hlk, hown, hts, hK⟩ := id C
  subst hN
  subst hM
  obtain ⟨hP, hz, h0⟩ := id hW
  intro T hT Xs
  obtain ⟨vm₁, cA, comp, -, fA, fC, hO, -, X', step⟩ := Xs.multianewarray2F hx hown (hts _ h1) hK.2.2.2.2.2.2.2.2.2.2.2 (hts _ h2) (g := F0 m pc ls ((Value.int b :: .int a :: st).map (tv G))) rfl (by rw [hb]; exact hd) rfl ha hb0 hb1 hb2 hb3 rfl rfl hce hsl
  have hc11 : comp = cy G 11 := by
    have h5 : s.vm.findClass ("[" ++ (FieldType.toString FieldType.int)) = some (cy G 11) := (hK.1.2 0 (cy G 11, .int) rfl).2
    exact Option.some.inj (fC.symm.trans h5)
  have hc15 : cA = cy G 15 := by
    have h5 : s.vm.findClass ("[" ++ (FieldType.toString (FieldType.array .int))) = some (cy G 15) := (hK.1.2 4 (cy G 15, .array .int) rfl).2
    exact Option.some.inj (fA.symm.trans h5)
  subst hc11
  subst hc15
  generalize hF : Jvm.Free.Multi.fill (T.setVm vm₁) (cy G 15) (cy G 11) a.toNatClampNeg b.toNatClampNeg (defaultValue .int) a.toNatClampNeg = F at X' step
  have hTh : (T.setVm vm₁).heap = H := hT
  obtain ⟨f1, f2, -, -⟩ := Jvm.Free.Multi.fill_facts (T.setVm vm₁) (cy G 15) (cy G 11) a.toNatClampNeg b.toNatClampNeg (defaultValue .int) a.toNatClampNeg
  rw [hF, hTh] at f1 f2
  have hold : ∀ x : Nat, x < H.size → F.heap[x]? = H[x]? := fun x hx => by
    have := Jvm.Free.Multi.fill_old (T.setVm vm₁) (cy G 15) (cy G 11) a.toNatClampNeg b.toNatClampNeg (defaultValue .int) (a := x) (by rw [hTh]; exact hx) a.toNatClampNeg
    rw [hF, hTh] at this
    exact this
  have hrow : ∀ j : Nat, j < a.toNatClampNeg → F.heap[H.size + 1 + j]? = some (Jvm.Free.Multi.innerC (cy G 11) b.toNatClampNeg (defaultValue .int)) := fun j hj => by
    have := Jvm.Free.Multi.fill_inner (T.setVm vm₁) (cy G 15) (cy G 11) a.toNatClampNeg b.toNatClampNeg (defaultValue .int) a.toNatClampNeg j hj
    rw [hF, hTh] at this
    exact this
  rw [vr_outer] at f2
  have hWc : Wc G (n + 1 + a.toNatClampNeg) (fun q => if q = n then (fun j => if j < a.toNatClampNeg then some (n + 1 + j) else none) else ρ q) σ F.heap := by
    refine ⟨fun k q hk => ?_, by rw [f1, hz]; omega, fun k hk j => ⟨(h0 k (by omega) j).1, ?_⟩⟩
    · have hlt : k < n + 1 + a.toNatClampNeg := by
        have := (List.getElem?_eq_some_iff.mp hk).1
        unfold W2 at this
        simpa using this
      rw [W2_get hlt] at hk
      cases hk
      by_cases g1 : k < n
      · have g2 := hP k _ (W2_get g1)
        have e : el2 G (fun q => if q = n then (fun j => if j < a.toNatClampNeg then some (n + 1 + j) else none) else ρ q) σ k = el2 G ρ σ k := by
          unfold el2 ofs2
          simp only [if_neg (show ¬ k = n by omega)]
        rw [e]
        exact g2.kept (hold _ g2.lt)
      · by_cases g3 : k = n
        · subst g3
          rw [el2_q hki (by decide) (by decide)]
          show F.heap[G.1 + k]? = some (arrV (cy G 15) (ln k) (fun j => va_rf (rOf G ((fun q => if q = k then (fun j => if j < a.toNatClampNeg then some (k + 1 + j) else none) else ρ q) k j))))
          rw [← hz, f2, hln]
          refine congrArg some (congrArg (arrV _ _) (funext fun j => ?_))
          by_cases hj : j < a.toNatClampNeg
          · have e9 : H.size + 1 + j = G.1 + (k + 1 + j) := by omega
            simp [hj, rOf, va_rf, e9]
          · simp [hj, rOf, va_rf]
        · obtain ⟨j, rfl⟩ : ∃ j, k = n + 1 + j := ⟨k - (n + 1), by omega⟩
          have hj : j < a.toNatClampNeg := by omega
          rw [el2_a (hrows j hj).1 (by decide) (by decide)]
          show F.heap[G.1 + (n + 1 + j)]? = some (arrV (cy G 11) (ln (n + 1 + j)) (fun i => .int (σ (n + 1 + j) i)))
          have e : G.1 + (n + 1 + j) = H.size + 1 + j := by omega
          rw [e, hrow j hj, (hrows j hj).2]
          show some ({ cls := cy G 11, slots := Array.replicate b.toNatClampNeg (defaultValue .int), vm := .none } : Cell) = _
          rw [arrV_new]
          refine congrArg some (congrArg (arrV _ _) (funext fun i => ?_))
          rw [(h0 (n + 1 + j) (by omega) i).1]
          rfl
    · show (if k = n then (fun j => if j < a.toNatClampNeg then some (n + 1 + j) else none) else ρ k) j = none
      rw [if_neg (show ¬ k = n by omega)]
      exact (h0 k (by omega) j).2
  obtain ⟨t, a1, b1⟩ := k2 G p e s m args below meth c F.heap locs ls hX C hI hWc (va_S_push hS hold (by rw [f1]; omega)) hl F rfl X'
  refine ⟨t, step t ?_, b1⟩
  rw [show T.heap.size = G.1 + n by rw [hT]; exact hz]
  exact a1
theorem ac_obj {ix k : Nat} (hd : decode cc pc = .ok (.invokespecial ix, 3)) (h1 : Cond.methodLink own ix objectInit ∈ TBg) (h2 : Cond.instanceMethod objectInit ∈ TBg) (h3 : Cond.code objectInit ⟨#[0xb1]⟩ 1 none ∈ TBg) (hfr : 1 ≤ R.frames) (hlo : 37 ≤ R.locals) (hcat : (st.map fun v => v.category).sum ≤ 8) (k2 : AWc X l own cc nL isI ret R ce sl QQ (pc + 3) L st n ρ σ) : AWc X l own cc nL isI ret R ce sl QQ pc L (.ref k :: st) n ρ σ := by
  intro G p e s m args below meth c H locs ls hX C hI hW hS hl
  obtain ⟨hx, hb, hml, hr, hlk, hown, hts, hK⟩ := id C
  have hc2 := cat_le G hcat
  refine W.objInit hx hb hown (hts _ h1) (hts _ h2) (hts _ h3) rfl (by rw [hml]; exact hl.1) rfl hd hfr ?_ (k2 G p e s m args below meth c H locs ls hX C hI hW hS hl)
  have := lv_room (m := m) (pc := pc) (ls := ls) (rest := (Value.ref k :: st).map (tv G)) hc2
  omega
def MFc (y : MethodName) (cc : ByteArray) (nL : Nat) (q : Nat) : Prop := Cond.code y cc nL none ∈ TBg ∧ Cond.instanceMethod y ∈ TBg ∧ Cond.initialized y.cls ∈ TBg ∧ y.cls ≠ "java/lang/invoke/MethodHandle" ∧ y.cls ≠ "java/lang/invoke/VarHandle" ∧ (parseMethodDescriptor y.desc).map (fun d => d.parameters.length) = some q
theorem ac_run {p : Program} {e : Env} {G : Gx} {s : State} {m : MethodId} {args a : Array Value} {below : List Frame} {meth : Method} {c : Code} {H : Heap} {locs : List Loc} {ls : Array Slot} {st0 rest : List Value} {mc ms : Nat} {Q' : Nat → Rh → Sg → Prop}
    (hr : va_Run p l e R s m args below meth c H locs ce sl mc ms (F0 m pc ls st0) (rest.map (tv G)) (QC G Q' a) (Ab G)) (hX : X G args s c) (C : Cx G own cc nL ret p s m args meth c) (hI : isI = true → meth.name = "<init>") (hS : va_S (Ab G) s.heap H locs) (hl : lv_has ls nL (L.map (tq G)))
    (nx : ∀ n π τ, Q' n π τ → AWc X l own cc nL isI ret R (ce + mc) (sl + ms) QQ (pc + 3) L rest n π τ) : W p l e R s m args below meth c H locs ce sl (QQ G args s below) (F0 m pc ls st0) := by
  intro T hT X
  obtain ⟨v, st₀, t, T', L', h0, X', hL, e1, e2, ⟨⟨n', π, τ, hv, hq, hp⟩, hz, hk⟩, stp⟩ := hr T hT X
  rw [h0] at hz hk
  have hv : v = none := by cases hv; rfl
  subst hv
  have hS' : va_S (Ab G) s.heap T'.heap (locs ++ L') := ⟨Nat.le_trans hS.1 (by rw [e1]; exact hz), fun q h1 h2 => by rw [e1, hk q (Nat.lt_of_lt_of_le h1 hS.1) h2]; exact hS.2.1 q h1 h2, fun q hq => by
      rcases List.mem_append.mp hq with h | h
      · exact hS.2.2 q h
      · exact hL q h⟩
  obtain ⟨t2, a1, b1⟩ := nx n' π τ hq G p e s m args below meth c T'.heap (locs ++ L') ls hX C hI (by rw [e1]; exact hp) hS' hl T' rfl X'
  exact ⟨t2, stp t2 a1, b1⟩
theorem ac_callI {y : MethodName} {cc2 : ByteArray} {nL2 d2 q ix k mc ms : Nat} {As rest : List Value} {Q2 : Nat → Rh → Sg → Prop} (hE : EvC l y cc2 nL2 d2 (.ref k :: As) n ρ σ mc ms Q2) (mf : MFc y cc2 nL2 q) (hyn : y.name = "<init>") (hd : decode cc pc = .ok (.invokespecial ix, 3)) (hw : Cond.methodLink own ix y ∈ TBg) (hce : ce + mc ≤ R.cells ∧ sl + ms ≤ R.slots) (hdd : d2 + 1 ≤ R.frames ∧ 8 + (nL2 + 11) + 37 * d2 ≤ R.locals) (hn : As.length = q) (hst : st = As.reverse ++ .ref k :: rest) (hcat : (rest.map fun v => v.category).sum ≤ 8)
    (nx : ∀ n π τ, Q2 n π τ → AWc X l own cc nL isI ret R (ce + mc) (sl + ms) QQ (pc + 3) L rest n π τ) : AWc X l own cc nL isI ret R ce sl QQ pc L st n ρ σ := by
  intro G p e s m args below meth c H locs ls hX C hI hW hS hl
  obtain ⟨hx, hb, hml, hr, hlk, hown, hts, hK⟩ := id C
  have hcat2 := cat_le G hcat
  subst hst
  refine ac_run (rest := rest) (a := (Value.ref (G.1 + k) :: As.map (tv G)).toArray) ?_ hX C hI hS hl nx
  exact va_runI (Ts := TBg) ⟨hx, hb, hml, hown, hts⟩ (hE G) ⟨callB_of q hts (wsO_good mf.1) rfl rfl rfl (hts _ mf.2.2.1) (hts _ hw) mf.2.2.2 hdd, hyn, hts _ mf.2.1⟩ ⟨PC_blind _ _ _ _ _, fun U hU hWm => ⟨rfl, by rw [hU]; exact hW, hK.call hS hU hWm⟩⟩ rfl (by rw [List.length_map]; exact hn) hl.1 (by simp [tv]) (lv_room hcat2) hd hce
theorem ac_callIN {y : MethodName} {cc2 : ByteArray} {nL2 d2 q ix k mc ms : Nat} {As rest : List Value} {Q2 : Nat → Rh → Sg → Prop} {host : String} (hE : EvC l y cc2 nL2 d2 (.ref k :: As) n ρ σ mc ms Q2) (mf : MFc y cc2 nL2 q) (hyn : y.name = "<init>") (hd : decode cc pc = .ok (.invokespecial ix, 3)) (hw : Cond.methodLinkNest own ix y host ∈ NLs) (hce : ce + mc ≤ R.cells ∧ sl + ms ≤ R.slots) (hdd : d2 + 1 ≤ R.frames ∧ 8 + (nL2 + 11) + 37 * d2 ≤ R.locals) (hn : As.length = q) (hst : st = As.reverse ++ .ref k :: rest) (hcat : (rest.map fun v => v.category).sum ≤ 8)
    (nx : ∀ n π τ, Q2 n π τ → AWc X l own cc nL isI ret R (ce + mc) (sl + ms) QQ (pc + 3) L rest n π τ) : AWc X l own cc nL isI ret R ce sl QQ pc L st n ρ σ := by
  intro G p e s m args below meth c H locs ls hX C hI hW hS hl
  obtain ⟨hx, hb, hml, hr, hlk, hown, hts, hK⟩ := id C
  have hcat2 := cat_le G hcat
  subst hst
  refine ac_run (rest := rest) (a := (Value.ref (G.1 + k) :: As.map (tv G)).toArray) ?_ hX C hI hS hl nx
  exact va_runIN (Ts := TBg) ⟨hx, hb, hml, hown, hts⟩ (hE G) ⟨va_cnB q hts (wsO_good mf.1) rfl rfl rfl (hK.2.1 _ hw) (hts _ mf.2.2.1) mf.2.2.2 hdd, hyn, hts _ mf.2.1⟩ ⟨PC_blind _ _ _ _ _, fun U hU hWm => ⟨rfl, by rw [hU]; exact hW, hK.call hS hU hWm⟩⟩ rfl (by rw [List.length_map]; exact hn) hl.1 (by simp [tv]) (lv_room hcat2) hd hce
theorem ac_vret {d mc ms : Nat} {Q : Nat → Rh → Sg → Prop} (hd : decode cc pc = .ok (.return_, 1)) (q : Q n ρ σ) : AWc X l own cc nL isI none (RmC d mc ms) mc ms (fun G args s below => MQ below (QC G Q) args s mc ms (Ab G)) pc L [] n ρ σ := by
  intro G p e s m args below meth c H locs ls hX C hI hW hS hl
  obtain ⟨hx, hb, hml, hr, hlk, hown, hts, hK⟩ := id C
  exact W.vret hx hb hr (fun t ht _ => ⟨⟨n, ρ, σ, rfl, q, by rw [ht]; exact hW⟩, hS.F ht⟩) hS.2.2 hd hlk
end AWC2
