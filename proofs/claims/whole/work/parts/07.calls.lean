section AWC
variable {X : Gx → Array Value → State → Code → Prop} {l : Launch} {own : String} {cc : ByteArray} {nL : Nat} {ret : Option FieldType} {R : Room} {ce sl : Nat} {QQ : Gx → Array Value → State → List Frame → State → Prop} {pc : Nat} {L : List (Nat × Value)} {st : List Value} {σ : Sg}
theorem PA_blind (G : Gx) (av : List Value) (σ : Sg) : FrameBlind (PA G av σ) := fun _ _ _ _ q => ⟨q.1, q.2.1, q.2.2.same rfl rfl⟩
theorem aw_run {p : Program} {e : Env} {G : Gx} {s : State} {m : MethodId} {args a : Array Value} {below : List Frame} {meth : Method} {c : Code} {H : Heap} {locs : List Loc} {ls : Array Slot} {st0 rest : List Value} {Q' : Option Value → Sg → Prop}
    (hr : va_Run p l e R s m args below meth c H locs ce sl 0 0 (F0 m pc ls st0) (rest.map (tv G)) (QA G Q' a) (Ab G)) (hX : X G args s c) (C : Cx G own cc nL ret p s m args meth c) (hS : va_S (Ab G) s.heap H locs) (hl : lv_has ls nL (L.map (tq G)))
    (n : ∀ v τ, Q' v τ → AVg X l own cc nL ret R ce sl QQ (pc + 3) L (v.toList ++ rest) τ) : W p l e R s m args below meth c H locs ce sl (QQ G args s below) (F0 m pc ls st0) := by
  intro T hT X
  obtain ⟨v, st₀, t, T', L', h0, X', hL, e1, e2, ⟨⟨v', τ, hv, hq, hp⟩, hz, hk⟩, stp⟩ := hr T hT X
  rw [h0] at hz hk
  have hv : v = v'.map (tv G) := by cases hv; rfl
  subst hv
  have hS' : va_S (Ab G) s.heap T'.heap (locs ++ L') := ⟨Nat.le_trans hS.1 (by rw [e1]; exact hz), fun q h1 h2 => by rw [e1, hk q (Nat.lt_of_lt_of_le h1 hS.1) h2]; exact hS.2.1 q h1 h2, fun q hq => by
      rcases List.mem_append.mp hq with h | h
      · exact hS.2.2 q h
      · exact hL q h⟩
  obtain ⟨t2, a1, b1⟩ := n v' τ hq G p e s m args below meth c T'.heap (locs ++ L') ls hX C (by rw [e1]; exact hp) hS' hl T' rfl X'
  refine ⟨t2, stp t2 ?_, b1⟩
  have he : (Option.map (tv G) v').toList ++ rest.map (tv G) = (v'.toList ++ rest).map (tv G) := by cases v' <;> rfl
  rw [he]
  exact a1

theorem aw_callV {y : MethodName} {cc2 : ByteArray} {nL2 : Nat} {ret2 : Option FieldType} {d2 n ix : Nat} {As : List Value} {rest : List Value} {Q2 : Option Value → Sg → Prop} {ci k N : Nat} {Cn : String} {T : u_T} {ty : Nat → FieldType} (kc : KC ci Cn T N ty) (hk : k < NN) (hki : ki k = ci) (hcn : y.cls = Cn) (hE : Ev l y cc2 nL2 ret2 d2 (.ref k :: As) σ Q2) (mf : MFi y cc2 nL2 ret2 n) (hd : decode cc pc = .ok (.invokevirtual ix, 3)) (hw : Cond.methodLink own ix y ∈ TBg) (hce : ce ≤ R.cells ∧ sl ≤ R.slots) (hdd : d2 + 1 ≤ R.frames ∧ 8 + (nL2 + 11) + 37 * d2 ≤ R.locals) (hn : As.length = n) (hst : st = As.reverse ++ .ref k :: rest) (hcat : (rest.map fun v => v.category).sum ≤ 8) (nx : ∀ v τ, Q2 v τ → AVg X l own cc nL ret R ce sl QQ (pc + 3) L (v.toList ++ rest) τ) : AVg X l own cc nL ret R ce sl QQ pc L st σ := by
  intro G p e s m args below meth c H locs ls hX C hP hS hl
  obtain ⟨hx, hb, hml, hr, hlk, hown, hts, hK⟩ := id C
  have hcat2 : ((rest.map (tv G)).map fun v => v.category).sum ≤ 8 := by
    rw [List.map_map]
    have : ((fun v : Value => v.category) ∘ tv G) = fun v => v.category := funext fun v => tv_cat G v
    rw [this]
    exact hcat
  subst hst
  refine aw_run (rest := rest) (a := (Value.ref (G.1 + k) :: As.map (tv G)).toArray) ?_ hX C hS hl nx
  exact va_runV (C := y.cls) (Ts := TBg) ⟨hx, hb, hml, hown, hts⟩ (hE G) ⟨callB_of n hts (wsO_good mf.1) rfl rfl rfl (hts _ mf.2.2.2.1) (hts _ hw) mf.2.2.2.2 hdd, hts _ mf.2.1, hts _ mf.2.2.1⟩ ⟨PA_blind _ _ _, by
    have h1 := hP k _ (WL_get hk)
    rw [el_o hki kc.2.2.2.2.2] at h1
    obtain ⟨r, q1, cell, q2, q3, q4, -⟩ := h1
    exact ⟨cell, q2, by rw [q4]; rfl, by rw [q3, hcn]; exact (hK.1.1 ci _ kc.1).2.1⟩, fun U hU hW => ⟨rfl, by rw [hU]; exact hP, hK.call hS hU hW⟩⟩ rfl (by rw [List.length_map]; exact hn) hl.1 (by simp [tv]) (lv_room hcat2) hd hce
theorem aw_callVN {y : MethodName} {cc2 : ByteArray} {nL2 : Nat} {ret2 : Option FieldType} {d2 n ix : Nat} {As : List Value} {rest : List Value} {Q2 : Option Value → Sg → Prop} {host : String} {ci k N : Nat} {Cn : String} {T : u_T} {ty : Nat → FieldType} (kc : KC ci Cn T N ty) (hk : k < NN) (hki : ki k = ci) (hcn : y.cls = Cn) (hE : Ev l y cc2 nL2 ret2 d2 (.ref k :: As) σ Q2) (mf : MFi y cc2 nL2 ret2 n) (hd : decode cc pc = .ok (.invokevirtual ix, 3)) (hw : Cond.methodLinkNest own ix y host ∈ NLs) (hce : ce ≤ R.cells ∧ sl ≤ R.slots) (hdd : d2 + 1 ≤ R.frames ∧ 8 + (nL2 + 11) + 37 * d2 ≤ R.locals) (hn : As.length = n) (hst : st = As.reverse ++ .ref k :: rest) (hcat : (rest.map fun v => v.category).sum ≤ 8) (nx : ∀ v τ, Q2 v τ → AVg X l own cc nL ret R ce sl QQ (pc + 3) L (v.toList ++ rest) τ) : AVg X l own cc nL ret R ce sl QQ pc L st σ := by
  intro G p e s m args below meth c H locs ls hX C hP hS hl
  obtain ⟨hx, hb, hml, hr, hlk, hown, hts, hK⟩ := id C
  have hcat2 : ((rest.map (tv G)).map fun v => v.category).sum ≤ 8 := by
    rw [List.map_map]
    have : ((fun v : Value => v.category) ∘ tv G) = fun v => v.category := funext fun v => tv_cat G v
    rw [this]
    exact hcat
  subst hst
  refine aw_run (rest := rest) (a := (Value.ref (G.1 + k) :: As.map (tv G)).toArray) ?_ hX C hS hl nx
  exact va_runVN (C := y.cls) (Ts := TBg) ⟨hx, hb, hml, hown, hts⟩ (hE G) ⟨va_cnB n hts (wsO_good mf.1) rfl rfl rfl (hK.2.1 _ hw) (hts _ mf.2.2.2.1) mf.2.2.2.2 hdd, hts _ mf.2.1, hts _ mf.2.2.1⟩ ⟨PA_blind _ _ _, by
    have h1 := hP k _ (WL_get hk)
    rw [el_o hki kc.2.2.2.2.2] at h1
    obtain ⟨r, q1, cell, q2, q3, q4, -⟩ := h1
    exact ⟨cell, q2, by rw [q4]; rfl, by rw [q3, hcn]; exact (hK.1.1 ci _ kc.1).2.1⟩, fun U hU hW => ⟨rfl, by rw [hU]; exact hP, hK.call hS hU hW⟩⟩ rfl (by rw [List.length_map]; exact hn) hl.1 (by simp [tv]) (lv_room hcat2) hd hce
theorem aw_callS {y : MethodName} {cc2 : ByteArray} {nL2 : Nat} {ret2 : Option FieldType} {d2 n ix : Nat} {As : List Value} {rest : List Value} {Q2 : Option Value → Sg → Prop} (hE : Ev l y cc2 nL2 ret2 d2 As σ Q2) (mf : MFs y cc2 nL2 ret2 n) (hd : decode cc pc = .ok (.invokestatic ix, 3)) (hw : Cond.methodLink own ix y ∈ TBg) (hce : ce ≤ R.cells ∧ sl ≤ R.slots) (hdd : d2 + 1 ≤ R.frames ∧ 8 + (nL2 + 11) + 37 * d2 ≤ R.locals) (hn : As.length = n) (hst : st = As.reverse ++ rest) (hcat : (rest.map fun v => v.category).sum ≤ 8) (nx : ∀ v τ, Q2 v τ → AVg X l own cc nL ret R ce sl QQ (pc + 3) L (v.toList ++ rest) τ) : AVg X l own cc nL ret R ce sl QQ pc L st σ := by
  intro G p e s m args below meth c H locs ls hX C hP hS hl
  obtain ⟨hx, hb, hml, hr, hlk, hown, hts, hK⟩ := id C
  have hcat2 : ((rest.map (tv G)).map fun v => v.category).sum ≤ 8 := by
    rw [List.map_map]
    have : ((fun v : Value => v.category) ∘ tv G) = fun v => v.category := funext fun v => tv_cat G v
    rw [this]
    exact hcat
  subst hst
  refine aw_run (rest := rest) (a := (As.map (tv G)).toArray) ?_ hX C hS hl nx
  exact va_runS (Ts := TBg) ⟨hx, hb, hml, hown, hts⟩ (hE G) ⟨callB_of n hts (wsO_good mf.1) rfl rfl rfl (hts _ mf.2.2.1) (hts _ hw) mf.2.2.2 hdd, hts _ mf.2.1⟩ ⟨PA_blind _ _ _, fun U hU hW => ⟨rfl, by rw [hU]; exact hP, hK.call hS hU hW⟩⟩ rfl (by rw [List.length_map]; exact hn) hl.1 (by simp) (lv_room hcat2) hd hce
theorem aw_callSN {y : MethodName} {cc2 : ByteArray} {nL2 : Nat} {ret2 : Option FieldType} {d2 n ix : Nat} {As : List Value} {rest : List Value} {Q2 : Option Value → Sg → Prop} {host : String} (hE : Ev l y cc2 nL2 ret2 d2 As σ Q2) (mf : MFs y cc2 nL2 ret2 n) (hd : decode cc pc = .ok (.invokestatic ix, 3)) (hw : Cond.methodLinkNest own ix y host ∈ NLs) (hce : ce ≤ R.cells ∧ sl ≤ R.slots) (hdd : d2 + 1 ≤ R.frames ∧ 8 + (nL2 + 11) + 37 * d2 ≤ R.locals) (hn : As.length = n) (hst : st = As.reverse ++ rest) (hcat : (rest.map fun v => v.category).sum ≤ 8) (nx : ∀ v τ, Q2 v τ → AVg X l own cc nL ret R ce sl QQ (pc + 3) L (v.toList ++ rest) τ) : AVg X l own cc nL ret R ce sl QQ pc L st σ := by
  intro G p e s m args below meth c H locs ls hX C hP hS hl
  obtain ⟨hx, hb, hml, hr, hlk, hown, hts, hK⟩ := id C
  have hcat2 : ((rest.map (tv G)).map fun v => v.category).sum ≤ 8 := by
    rw [List.map_map]
    have : ((fun v : Value => v.category) ∘ tv G) = fun v => v.category := funext fun v => tv_cat G v
    rw [this]
    exact hcat
  subst hst
  refine aw_run (rest := rest) (a := (As.map (tv G)).toArray) ?_ hX C hS hl nx
  exact va_runSN (Ts := TBg) ⟨hx, hb, hml, hown, hts⟩ (hE G) ⟨va_cnB n hts (wsO_good mf.1) rfl rfl rfl (hK.2.1 _ hw) (hts _ mf.2.2.1) mf.2.2.2 hdd, hts _ mf.2.1, trivial⟩ ⟨PA_blind _ _ _, fun U hU hW => ⟨rfl, by rw [hU]; exact hP, hK.call hS hU hW⟩⟩ rfl (by rw [List.length_map]; exact hn) hl.1 (by simp) (lv_room hcat2) hd hce
theorem aw_callT {y : MethodName} {cc2 : ByteArray} {nL2 : Nat} {ret2 : Option FieldType} {d2 n ix : Nat} {As : List Value} {rest : List Value} {Q2 : Option Value → Sg → Prop} {i : Nat} (hi : i < nSt) (h99 : i ≠ 99) (hcn : y.cls = "java/lang/String") (hE : Ev l y cc2 nL2 ret2 d2 (.retAddr i :: As) σ Q2) (mf : MFi y cc2 nL2 ret2 n) (hd : decode cc pc = .ok (.invokevirtual ix, 3)) (hw : Cond.methodLink own ix y ∈ TBg) (hce : ce ≤ R.cells ∧ sl ≤ R.slots) (hdd : d2 + 1 ≤ R.frames ∧ 8 + (nL2 + 11) + 37 * d2 ≤ R.locals) (hn : As.length = n) (hst : st = As.reverse ++ .retAddr i :: rest) (hcat : (rest.map fun v => v.category).sum ≤ 8) (nx : ∀ v τ, Q2 v τ → AVg X l own cc nL ret R ce sl QQ (pc + 3) L (v.toList ++ rest) τ) : AVg X l own cc nL ret R ce sl QQ pc L st σ := by
  intro G p e s m args below meth c H locs ls hX C hP hS hl
  obtain ⟨hx, hb, hml, hr, hlk, hown, hts, hK⟩ := id C
  have hcat2 : ((rest.map (tv G)).map fun v => v.category).sum ≤ 8 := by
    rw [List.map_map]
    have : ((fun v : Value => v.category) ∘ tv G) = fun v => v.category := funext fun v => tv_cat G v
    rw [this]
    exact hcat
  subst hst
  refine aw_run (rest := rest) (a := (Value.ref (sad G i) :: As.map (tv G)).toArray) ?_ hX C hS hl nx
  have htv : tv G (.retAddr i) = .ref (sad G i) := by simp only [tv, if_neg h99]
  have hE2 := hE G
  exact va_runV (C := y.cls) (b := sad G i) (As := As.map (tv G)) (Ts := TBg) ⟨hx, hb, hml, hown, hts⟩ hE2 ⟨callB_of n hts (wsO_good mf.1) rfl rfl rfl (hts _ mf.2.2.2.1) (hts _ hw) mf.2.2.2.2 hdd, hts _ mf.2.1, hts _ mf.2.2.1⟩ ⟨PA_blind _ _ _, by rw [hcn]; obtain ⟨cell, q1, q2, q3, -⟩ := (hK.2.2.2.1 i hi).1.kept hS.2.1; exact ⟨cell, q1, q2, q3⟩, fun U hU hW => ⟨by rw [List.map_cons, htv], by rw [hU]; exact hP, hK.call hS hU hW⟩⟩ rfl (by rw [List.length_map]; exact hn) hl.1 (by simp [htv]) (lv_room hcat2) hd hce
theorem cat_le {rest : List Value} (G : Gx) {b : Nat} (h : (rest.map fun v => v.category).sum ≤ b) : ((rest.map (tv G)).map fun v => v.category).sum ≤ b := by
  rw [List.map_map]
  have : ((fun v : Value => v.category) ∘ tv G) = fun v => v.category := funext fun v => tv_cat G v
  rw [this]
  exact h
theorem aw_mmax {ix : Nat} {x y : Int32} (hd : decode cc pc = .ok (.invokestatic ix, 3)) (hw : Cond.methodLink own ix Lib.Math.max.name ∈ TBg) (h2 : Cond.static Lib.Math.max.name ∈ TBg) (h3 : Cond.initialized "java/lang/Math" ∈ TBg) (h4 : Cond.code Lib.Math.max.name Lib.Math.max.code 2 (some .int) ∈ TBg) (hce : ce ≤ R.cells ∧ sl ≤ R.slots) (hdd : 1 ≤ R.frames ∧ 37 ≤ R.locals) (hcat : (st.map fun v => v.category).sum ≤ 8) (n : AVg X l own cc nL ret R ce sl QQ (pc + 3) L (.int (if x < y then y else x) :: st) σ) : AVg X l own cc nL ret R ce sl QQ pc L (.int y :: .int x :: st) σ := by
  intro G p e s m args below meth c H locs ls hX C hP hS hl
  obtain ⟨hx, hb, hml, hr, hlk, hown, hts, hK⟩ := id C
  have hc2 := cat_le G hcat
  exact va_mmax hx hb (hml.trans hl.1.symm) hown (hts _ hw) (hts _ h2) (hts _ h3) (hts _ h4) hdd.1 (by have := hdd.2; omega) hce.1 hce.2 hd (n G p e s m args below meth c H locs ls hX C hP hS hl)
theorem aw_mmin {ix : Nat} {x y : Int32} (hd : decode cc pc = .ok (.invokestatic ix, 3)) (hw : Cond.methodLink own ix Lib.Math.min.name ∈ TBg) (h2 : Cond.static Lib.Math.min.name ∈ TBg) (h3 : Cond.initialized "java/lang/Math" ∈ TBg) (h4 : Cond.code Lib.Math.min.name Lib.Math.min.code 2 (some .int) ∈ TBg) (hce : ce ≤ R.cells ∧ sl ≤ R.slots) (hdd : 1 ≤ R.frames ∧ 37 ≤ R.locals) (hcat : (st.map fun v => v.category).sum ≤ 8) (n : AVg X l own cc nL ret R ce sl QQ (pc + 3) L (.int (if y < x then y else x) :: st) σ) : AVg X l own cc nL ret R ce sl QQ pc L (.int y :: .int x :: st) σ := by
  intro G p e s m args below meth c H locs ls hX C hP hS hl
  obtain ⟨hx, hb, hml, hr, hlk, hown, hts, hK⟩ := id C
  have hc2 := cat_le G hcat
  exact va_mmin hx hb (hml.trans hl.1.symm) hown (hts _ hw) (hts _ h2) (hts _ h3) (hts _ h4) hdd.1 (by have := hdd.2; omega) hce.1 hce.2 hd (n G p e s m args below meth c H locs ls hX C hP hS hl)
theorem aw_mabs {ix : Nat} {x : Int32} (hd : decode cc pc = .ok (.invokestatic ix, 3)) (hw : Cond.methodLink own ix Lib.Math.abs.name ∈ TBg) (h2 : Cond.static Lib.Math.abs.name ∈ TBg) (h3 : Cond.initialized "java/lang/Math" ∈ TBg) (h4 : Cond.code Lib.Math.abs.name Lib.Math.abs.code 1 (some .int) ∈ TBg) (hce : ce ≤ R.cells ∧ sl ≤ R.slots) (hdd : 1 ≤ R.frames ∧ 37 ≤ R.locals) (hcat : (st.map fun v => v.category).sum ≤ 8) (n : AVg X l own cc nL ret R ce sl QQ (pc + 3) L (.int (if 0 ≤ x then x else 0 - x) :: st) σ) : AVg X l own cc nL ret R ce sl QQ pc L (.int x :: st) σ := by
  intro G p e s m args below meth c H locs ls hX C hP hS hl
  obtain ⟨hx, hb, hml, hr, hlk, hown, hts, hK⟩ := id C
  have hc2 := cat_le G hcat
  exact va_mabs hx hb (hml.trans hl.1.symm) hown (hts _ hw) (hts _ h2) (hts _ h3) (hts _ h4) hdd.1 (by have := hdd.2; omega) hce.1 hce.2 hd (n G p e s m args below meth c H locs ls hX C hP hS hl)
theorem aw_copy {ix k0 k1 N0 N1 : Nat} {sp dp nn : Int32} (hd : decode cc pc = .ok (.invokestatic ix, 3)) (hw : Cond.methodLink own ix arraycopyName ∈ TBg) (hw2 : Cond.native arraycopyName ∈ TBg) (hw3 : Cond.static arraycopyName ∈ TBg) (hw4 : Cond.initialized "java/lang/System" ∈ TBg) (hk0 : k0 < NN) (hki0 : ki k0 = 11) (hln0 : ln k0 = N0) (hk1 : k1 < NN) (hki1 : ki k1 = 11) (hln1 : ln k1 = N1)
    (h1 : ¬ sp < 0) (h2 : ¬ dp < 0) (h3 : ¬ nn < 0) (h4 : sp.toNatClampNeg + nn.toNatClampNeg ≤ N0) (h5 : dp.toNatClampNeg + nn.toNatClampNeg ≤ N1) (hce : ce ≤ R.cells ∧ sl ≤ R.slots) (hdd : 1 ≤ R.frames ∧ 37 ≤ R.locals) (hcat : (st.map fun v => v.category).sum ≤ 8)
    (n : AVg X l own cc nL ret R ce sl QQ (pc + 3) L st (upA σ k1 (va_cpy (σ k0) (σ k1) sp.toNatClampNeg dp.toNatClampNeg nn.toNatClampNeg))) : AVg X l own cc nL ret R ce sl QQ pc L (.int nn :: .int dp :: .ref k1 :: .int sp :: .ref k0 :: st) σ := by
  intro G p e s m args below meth c H locs ls hX C hP hS hl
  obtain ⟨hx, hb, hml, hr, hlk, hown, hts, hK⟩ := id C
  have hc2 := cat_le G hcat
  refine va_copyi hx hb (hml.trans hl.1.symm) hown (hts _ hw) (hts _ hw2) (hts _ hw3) (hts _ hw4) hK.1 hP (WL_D G σ) hS k0 k1 0 0 (ty := .int) (by rw [WL_get hk0, el_a hki0 (by decide) (by decide)]) (by rw [WL_get hk1, el_a hki1 (by decide) (by decide)]) rfl rfl rfl h1 h2 h3 (by rw [hln0]; exact h4) (by rw [hln1]; exact h5) (fun _ _ => rfl) hdd.1 (by
      have : nativeFrameWords "java/lang/System" "arraycopy" 5 + 11 ≤ 29 := by decide +kernel
      have := hdd.2
      omega) hd (fun H locs hP _ hS => ?_)
  refine n G p e s m args below meth c H locs ls hX C ?_ hS hl
  rw [← WL_set (σ := σ) (τ := upA σ k1 (va_cpy (σ k0) (σ k1) sp.toNatClampNeg dp.toNatClampNeg nn.toNatClampNeg)) (k := k1) rfl upA_ne, el_a hki1 (by decide) (by decide), upA_k]
  exact hP
theorem aw_getSv {ix i : Nat} (hi : i < nSt) (h99 : i ≠ 99) (hd : decode cc pc = .ok (.getfield ix, 3)) (hw : Cond.fieldLink own ix "java/lang/String" "value" "[B" ∈ TBg) (n : AVg X l own cc nL ret R ce sl QQ (pc + 3) L (.retAddr (100 + i) :: st) σ) : AVg X l own cc nL ret R ce sl QQ pc L (.retAddr i :: st) σ := by
  intro G p e s m args below meth c H locs ls hX C hP hS hl
  obtain ⟨hx, hb, hml, hr, hlk, hown, hts, hK⟩ := id C
  have q := n G p e s m args below meth c H locs ls hX C hP hS hl
  simp only [List.map_cons, tv, if_neg h99, if_neg (show 100 + i ≠ 99 by omega)] at q ⊢
  exact vk_getf hx hb (hK.2.2.2.1 i hi).2.2.1 hS hown (hts _ hw) (fun _ h => h) hd q
theorem aw_getSc {ix i : Nat} (hi : i < nSt) (h99 : i ≠ 99) (hd : decode cc pc = .ok (.getfield ix, 3)) (hw : Cond.fieldLink own ix "java/lang/String" "coder" "B" ∈ TBg) (n : AVg X l own cc nL ret R ce sl QQ (pc + 3) L (.int 0 :: st) σ) : AVg X l own cc nL ret R ce sl QQ pc L (.retAddr i :: st) σ := by
  intro G p e s m args below meth c H locs ls hX C hP hS hl
  obtain ⟨hx, hb, hml, hr, hlk, hown, hts, hK⟩ := id C
  have q := n G p e s m args below meth c H locs ls hX C hP hS hl
  simp only [List.map_cons, tv, if_neg h99] at q ⊢
  exact vk_getf hx hb (hK.2.2.2.1 i hi).2.1 hS hown (hts _ hw) (fun _ h => h) hd q
theorem aw_slen {i : Nat} {v : Int32} (hi : i < nSt) (hd : decode cc pc = .ok (.arraylength, 1)) (hv : Int32.ofNat (lenSt.getD i 0) = v) (n : AVg X l own cc nL ret R ce sl QQ (pc + 1) L (.int v :: st) σ) : AVg X l own cc nL ret R ce sl QQ pc L (.retAddr (100 + i) :: st) σ := by
  intro G p e s m args below meth c H locs ls hX C hP hS hl
  obtain ⟨hx, hb, hml, hr, hlk, hown, hts, hK⟩ := id C
  have q := n G p e s m args below meth c H locs ls hX C hP hS hl
  simp only [List.map_cons, tv, if_neg (show 100 + i ≠ 99 by omega)] at q ⊢
  exact va_tlen hx hb (hK.2.2.2.1 i hi).2.2.2 hS hv hd q
theorem aw_sbald {i : Nat} {j : Int32} (hi : i < nSt) (hd : decode cc pc = .ok (.baload, 1)) (hj : vp_in j (lenSt.getD i 0)) (n : AVg X l own cc nL ret R ce sl QQ (pc + 1) L (.int ((bytSt.getD i []).getD j.toNatClampNeg 0) :: st) σ) : AVg X l own cc nL ret R ce sl QQ pc L (.int j :: .retAddr (100 + i) :: st) σ := by
  intro G p e s m args below meth c H locs ls hX C hP hS hl
  obtain ⟨hx, hb, hml, hr, hlk, hown, hts, hK⟩ := id C
  have q := n G p e s m args below meth c H locs ls hX C hP hS hl
  simp only [List.map_cons, tv, if_neg (show 100 + i ≠ 99 by omega)] at q ⊢
  obtain ⟨cell, h1, h2, h3, h4, h5, h6, -⟩ := (hK.2.2.2.1 i hi).2.2.2.kept hS.2.1
  have hlt : j.toNatClampNeg < lenSt.getD i 0 := Nat.not_le.mp fun q => hj (Or.inr q)
  exact W.bald hx hb h1 h2 h3 (fun h => h.elim (fun h => hj (Or.inl h)) (fun h => by omega)) (h6 _ hlt) rfl rfl hd q
theorem aw_getsZ {ix : Nat} (hd : decode cc pc = .ok (.getstatic ix, 3)) (hw : Cond.fieldLink own ix "java/lang/String" "COMPACT_STRINGS" "Z" ∈ TBg) (n : AVg X l own cc nL ret R ce sl QQ (pc + 3) L (.int 1 :: st) σ) : AVg X l own cc nL ret R ce sl QQ pc L st σ := by
  intro G p e s m args below meth c H locs ls hX C hP hS hl
  obtain ⟨hx, hb, hml, hr, hlk, hown, hts, hK⟩ := id C
  exact va_gets hx hb hK.2.2.2.2.1 hS hown (hts _ hw) (fun _ h => h) hd (n G p e s m args below meth c H locs ls hX C hP hS hl)
theorem aw_getsF {ix : Nat} (hd : decode cc pc = .ok (.getstatic ix, 3)) (hw : Cond.fieldLink own ix "jdk/internal/util/Preconditions" "SIOOBE_FORMATTER" "Ljava/util/function/BiFunction;" ∈ TBg) (n : AVg X l own cc nL ret R ce sl QQ (pc + 3) L (.retAddr 99 :: st) σ) : AVg X l own cc nL ret R ce sl QQ pc L st σ := by
  intro G p e s m args below meth c H locs ls hX C hP hS hl
  obtain ⟨hx, hb, hml, hr, hlk, hown, hts, hK⟩ := id C
  exact va_gets hx hb hK.2.2.2.2.2.1 hS hown (hts _ hw) (fun _ h => h) hd (n G p e s m args below meth c H locs ls hX C hP hS hl)
theorem aw_xlen {L0 : Nat} {xs : Nat → Int32} (hXs : ∀ G args s c, X G args s c → gL G = L0 ∧ gxs G = xs) (hd : decode cc pc = .ok (.arraylength, 1)) (n : AVg X l own cc nL ret R ce sl QQ (pc + 1) L (.int (Int32.ofNat L0) :: st) σ) : AVg X l own cc nL ret R ce sl QQ pc L (.retAddr 98 :: st) σ := by
  intro G p e s m args below meth c H locs ls hX C hP hS hl
  obtain ⟨hx, hb, hml, hr, hlk, hown, hts, hK⟩ := id C
  have q := n G p e s m args below meth c H locs ls hX C hP hS hl
  have h7 := hK.2.2.2.2.2.2.1
  rw [(hXs _ _ _ _ hX).1, (hXs _ _ _ _ hX).2] at h7
  exact va_slen hx hb h7 (va_X_lt h7) hK.2.2.2.2.2.2.2.1 hS hd q
theorem aw_xld {L0 j : Nat} {xs : Nat → Int32} {i : Int32} (hXs : ∀ G args s c, X G args s c → gL G = L0 ∧ gxs G = xs) (hd : decode cc pc = .ok (.iaload, 1)) (hi : vp_in i L0) (hj : i.toNatClampNeg = j) (n : AVg X l own cc nL ret R ce sl QQ (pc + 1) L (.int (xs j) :: st) σ) : AVg X l own cc nL ret R ce sl QQ pc L (.int i :: .retAddr 98 :: st) σ := by
  intro G p e s m args below meth c H locs ls hX C hP hS hl
  obtain ⟨hx, hb, hml, hr, hlk, hown, hts, hK⟩ := id C
  subst hj
  have q := n G p e s m args below meth c H locs ls hX C hP hS hl
  have h7 := hK.2.2.2.2.2.2.1
  rw [(hXs _ _ _ _ hX).1, (hXs _ _ _ _ hX).2] at h7
  exact va_sld hx hb h7 (va_X_lt h7) hK.2.2.2.2.2.2.2.1 hS hi hd q
/-- the answer of an int method, of a void one, of a long one -/
def qI (K : Int32 → Sg → Prop) : Option Value → Sg → Prop := fun v τ => ∃ r, v = some (.int r) ∧ K r τ
def qV (K : Sg → Prop) : Option Value → Sg → Prop := fun v τ => v = none ∧ K τ
def qL (K : Int64 → Sg → Prop) : Option Value → Sg → Prop := fun v τ => ∃ r, v = some (.long r) ∧ K r τ
theorem nxI {K : Int32 → Sg → Prop} {rest : List Value} (n : ∀ r τ, K r τ → AVg X l own cc nL ret R ce sl QQ pc L (.int r :: rest) τ) : ∀ v τ, qI K v τ → AVg X l own cc nL ret R ce sl QQ pc L (v.toList ++ rest) τ := by
  intro v τ h
  obtain ⟨r, rfl, hk⟩ := h
  exact n r τ hk
theorem nxV {K : Sg → Prop} {rest : List Value} (n : ∀ τ, K τ → AVg X l own cc nL ret R ce sl QQ pc L rest τ) : ∀ v τ, qV K v τ → AVg X l own cc nL ret R ce sl QQ pc L (v.toList ++ rest) τ := by
  intro v τ h
  obtain ⟨rfl, hk⟩ := h
  exact n τ hk
theorem nxL {K : Int64 → Sg → Prop} {rest : List Value} (n : ∀ r τ, K r τ → AVg X l own cc nL ret R ce sl QQ pc L (.long r :: rest) τ) : ∀ v τ, qL K v τ → AVg X l own cc nL ret R ce sl QQ pc L (v.toList ++ rest) τ := by
  intro v τ h
  obtain ⟨r, rfl, hk⟩ := h
  exact n r τ hk
def isZ (x : Int32) : Prop := x = 0 ∨ x = 1
theorem isZ_n {x : Int32} (h : isZ x) : narrow .boolean (.int x) = .int x := by rcases h with rfl | rfl <;> rfl
theorem isZ_f {x : Int32} (h : isZ x) : fits .boolean (.int x) = true := by rcases h with rfl | rfl <;> rfl
end AWC
