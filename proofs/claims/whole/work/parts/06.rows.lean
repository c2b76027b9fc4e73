/-- from the abstract frame (pc, locals L, stack st) over the store σ the machine comes to QQ, in the room R with ce cells and sl slots made so far; for the contexts of X -/
def AVg (X : Gx → Array Value → State → Code → Prop) (l : Launch) (own : String) (cc : ByteArray) (nL : Nat) (ret : Option FieldType) (R : Room) (ce sl : Nat) (QQ : Gx → Array Value → State → List Frame → State → Prop) (pc : Nat) (L : List (Nat × Value)) (st : List Value) (σ : Sg) : Prop :=
  ∀ (G : Gx) (p : Program) (e : Env) (s : State) (m : MethodId) (args : Array Value) (below : List Frame) (meth : Method) (c : Code) (H : Heap) (locs : List Loc) (ls : Array Slot),
    X G args s c → Cx G own cc nL ret p s m args meth c → va_P (gD G) vwCl (WL G σ) H → va_S (Ab G) s.heap H locs → lv_has ls nL (L.map (tq G)) →
    W p l e R s m args below meth c H locs ce sl (QQ G args s below) (F0 m pc ls (st.map (tv G)))
/-- the same within a method that makes nothing, to its end with Q -/
abbrev AV (l : Launch) (own : String) (cc : ByteArray) (nL : Nat) (ret : Option FieldType) (d : Nat) (Q : Option Value → Sg → Prop) (pc : Nat) (L : List (Nat × Value)) (st : List Value) (σ : Sg) : Prop :=
  AVg (fun _ _ _ _ => True) l own cc nL ret (Rm d) 0 0 (fun G args s below => MQ below (QA G Q) args s 0 0 (Ab G)) pc L st σ
theorem ev_ov {l : Launch} {y : MethodName} {cc : ByteArray} {nL : Nat} {ret : Option FieldType} {d : Nat} {av : List Value} {σ : Sg} {Q : Option Value → Sg → Prop} (hy : plainName y.cls = true) (hn : (lg_sl av).length ≤ nL)
    (h : AV l y.cls cc nL ret d Q 0 (lv_args 0 av) [] σ) : Ev l y cc nL ret d av σ Q := ev_of hy hn (fun G p e s m args below meth c H locs ls => h G p e s m args below meth c H locs ls trivial)
section AWR
variable {X : Gx → Array Value → State → Code → Prop} {l : Launch} {own : String} {cc : ByteArray} {nL : Nat} {ret : Option FieldType} {R : Room} {ce sl d : Nat} {QQ : Gx → Array Value → State → List Frame → State → Prop} {Q : Option Value → Sg → Prop} {pc : Nat} {L : List (Nat × Value)} {st : List Value} {σ : Sg}
theorem aw_iconst {n : Int} (v : Int32) (hd : decode cc pc = .ok (.iconst n, 1)) (hv : Int32.ofInt n = v) (k : AVg X l own cc nL ret R ce sl QQ (pc + 1) L (.int v :: st) σ) : AVg X l own cc nL ret R ce sl QQ pc L st σ := by
  intro G p e s m args below meth c H locs ls hX C hP hS hl
  obtain ⟨hx, hb, hml, hr, hlk, hown, hts, hK⟩ := id C
  exact lv_iconst hx hb hd hv (k G p e s m args below meth c H locs ls hX C hP hS hl)
theorem aw_bipush {n : Int} (v : Int32) (hd : decode cc pc = .ok (.bipush n, 2)) (hv : (Int8.ofInt n).toInt32 = v) (k : AVg X l own cc nL ret R ce sl QQ (pc + 2) L (.int v :: st) σ) : AVg X l own cc nL ret R ce sl QQ pc L st σ := by
  intro G p e s m args below meth c H locs ls hX C hP hS hl
  obtain ⟨hx, hb, hml, hr, hlk, hown, hts, hK⟩ := id C
  exact lv_bipush hx hb hd hv (k G p e s m args below meth c H locs ls hX C hP hS hl)
theorem aw_sipush {n : Int} (v : Int32) (hd : decode cc pc = .ok (.sipush n, 3)) (hv : (Int16.ofInt n).toInt32 = v) (k : AVg X l own cc nL ret R ce sl QQ (pc + 3) L (.int v :: st) σ) : AVg X l own cc nL ret R ce sl QQ pc L st σ := by
  intro G p e s m args below meth c H locs ls hX C hP hS hl
  obtain ⟨hx, hb, hml, hr, hlk, hown, hts, hK⟩ := id C
  exact lv_sipush hx hb hd hv (k G p e s m args below meth c H locs ls hX C hP hS hl)
theorem aw_lconst {n : Fin 2} (v : Int64) (hd : decode cc pc = .ok (.lconst n, 1)) (hv : Int64.ofNat (n : Nat) = v) (k : AVg X l own cc nL ret R ce sl QQ (pc + 1) L (.long v :: st) σ) : AVg X l own cc nL ret R ce sl QQ pc L st σ := by
  intro G p e s m args below meth c H locs ls hX C hP hS hl
  obtain ⟨hx, hb, hml, hr, hlk, hown, hts, hK⟩ := id C
  exact lv_lconst hx hb hd hv (k G p e s m args below meth c H locs ls hX C hP hS hl)
theorem aw_ldc {ix : Nat} (v : Int32) (hd : decode cc pc = .ok (.ldc ix, 2)) (hw : Cond.constant own ix v ∈ TBg) (k : AVg X l own cc nL ret R ce sl QQ (pc + 2) L (.int v :: st) σ) : AVg X l own cc nL ret R ce sl QQ pc L st σ := by
  intro G p e s m args below meth c H locs ls hX C hP hS hl
  obtain ⟨hx, hb, hml, hr, hlk, hown, hts, hK⟩ := id C
  exact lv_ldc hx hb hown (hts _ hw) hd (k G p e s m args below meth c H locs ls hX C hP hS hl)
theorem aw_ldcw {ix : Nat} (v : Int32) (hd : decode cc pc = .ok (.ldc_w ix, 3)) (hw : Cond.constant own ix v ∈ TBg) (k : AVg X l own cc nL ret R ce sl QQ (pc + 3) L (.int v :: st) σ) : AVg X l own cc nL ret R ce sl QQ pc L st σ := by
  intro G p e s m args below meth c H locs ls hX C hP hS hl
  obtain ⟨hx, hb, hml, hr, hlk, hown, hts, hK⟩ := id C
  exact lv_ldcw hx hb hown (hts _ hw) hd (k G p e s m args below meth c H locs ls hX C hP hS hl)
theorem aw_ldc2 {ix : Nat} (v : Int64) (hd : decode cc pc = .ok (.ldc2_w ix, 3)) (hw : Cond.constantLong own ix v ∈ TBg) (k : AVg X l own cc nL ret R ce sl QQ (pc + 3) L (.long v :: st) σ) : AVg X l own cc nL ret R ce sl QQ pc L st σ := by
  intro G p e s m args below meth c H locs ls hX C hP hS hl
  obtain ⟨hx, hb, hml, hr, hlk, hown, hts, hK⟩ := id C
  exact lv_ldc2 hx hb hown (hts _ hw) hd (k G p e s m args below meth c H locs ls hX C hP hS hl)
theorem aw_ldcS {ix : Nat} {tx : String} (i : Nat) (h99 : i ≠ 99) (hd : decode cc pc = .ok (.ldc ix, 2)) (hw : (own, ix, tx, i) ∈ srL) (k : AVg X l own cc nL ret R ce sl QQ (pc + 2) L (.retAddr i :: st) σ) : AVg X l own cc nL ret R ce sl QQ pc L st σ := by
  intro G p e s m args below meth c H locs ls hX C hP hS hl
  obtain ⟨hx, hb, hml, hr, hlk, hown, hts, hK⟩ := id C
  exact va_ldcS hx hb hown (hK.2.2.1 _ hw) hd (by have q := k G p e s m args below meth c H locs ls hX C hP hS hl; simp only [List.map_cons, tv, if_neg h99] at q; exact q)
theorem L_at {G : Gx} {ls : Array Slot} (hl : lv_has ls nL (L.map (tq G))) (j : Nat) {i : Nat} {v : Value} (h : L[j]? = some (i, v)) : ls[i]? = some (.val (tv G v)) := lv_at hl j (by rw [List.getElem?_map, h]; rfl)
theorem aw_iload_n {n : Fin 4} {x : Int32} (j : Nat) (hd : decode cc pc = .ok (.iload_n n, 1)) (h : L[j]? = some ((n : Nat), .int x)) (k : AVg X l own cc nL ret R ce sl QQ (pc + 1) L (.int x :: st) σ) : AVg X l own cc nL ret R ce sl QQ pc L st σ := by
  intro G p e s m args below meth c H locs ls hX C hP hS hl
  obtain ⟨hx, hb, hml, hr, hlk, hown, hts, hK⟩ := id C
  exact lv_iload_n hx hb hd rfl (L_at hl j h) (k G p e s m args below meth c H locs ls hX C hP hS hl)
theorem aw_iload {n : Nat} {x : Int32} (j : Nat) (hd : decode cc pc = .ok (.iload n, 2)) (h : L[j]? = some (n, .int x)) (k : AVg X l own cc nL ret R ce sl QQ (pc + 2) L (.int x :: st) σ) : AVg X l own cc nL ret R ce sl QQ pc L st σ := by
  intro G p e s m args below meth c H locs ls hX C hP hS hl
  obtain ⟨hx, hb, hml, hr, hlk, hown, hts, hK⟩ := id C
  exact lv_iload hx hb hd (L_at hl j h) (k G p e s m args below meth c H locs ls hX C hP hS hl)
theorem aw_lload_n {n : Fin 4} {x : Int64} (j : Nat) (hd : decode cc pc = .ok (.lload_n n, 1)) (h : L[j]? = some ((n : Nat), .long x)) (k : AVg X l own cc nL ret R ce sl QQ (pc + 1) L (.long x :: st) σ) : AVg X l own cc nL ret R ce sl QQ pc L st σ := by
  intro G p e s m args below meth c H locs ls hX C hP hS hl
  obtain ⟨hx, hb, hml, hr, hlk, hown, hts, hK⟩ := id C
  exact lv_lload_n hx hb hd rfl (L_at hl j h) (k G p e s m args below meth c H locs ls hX C hP hS hl)
theorem aw_lload {n : Nat} {x : Int64} (j : Nat) (hd : decode cc pc = .ok (.lload n, 2)) (h : L[j]? = some (n, .long x)) (k : AVg X l own cc nL ret R ce sl QQ (pc + 2) L (.long x :: st) σ) : AVg X l own cc nL ret R ce sl QQ pc L st σ := by
  intro G p e s m args below meth c H locs ls hX C hP hS hl
  obtain ⟨hx, hb, hml, hr, hlk, hown, hts, hK⟩ := id C
  exact lv_lload hx hb hd (L_at hl j h) (k G p e s m args below meth c H locs ls hX C hP hS hl)
theorem aw_aload_n {n : Fin 4} {x : Nat} (j : Nat) (hd : decode cc pc = .ok (.aload_n n, 1)) (h : L[j]? = some ((n : Nat), .ref x)) (k : AVg X l own cc nL ret R ce sl QQ (pc + 1) L (.ref x :: st) σ) : AVg X l own cc nL ret R ce sl QQ pc L st σ := by
  intro G p e s m args below meth c H locs ls hX C hP hS hl
  obtain ⟨hx, hb, hml, hr, hlk, hown, hts, hK⟩ := id C
  exact lv_aload_n hx hb hd rfl (L_at hl j h) (k G p e s m args below meth c H locs ls hX C hP hS hl)
theorem aw_aload_nS {n : Fin 4} {x : Nat} (j : Nat) (h99 : x ≠ 99) (hd : decode cc pc = .ok (.aload_n n, 1)) (h : L[j]? = some ((n : Nat), .retAddr x)) (k : AVg X l own cc nL ret R ce sl QQ (pc + 1) L (.retAddr x :: st) σ) : AVg X l own cc nL ret R ce sl QQ pc L st σ := by
  intro G p e s m args below meth c H locs ls hX C hP hS hl
  obtain ⟨hx, hb, hml, hr, hlk, hown, hts, hK⟩ := id C
  exact lv_aload_n hx hb hd rfl (show ls[_]? = some (.val (.ref (sad G x))) from (L_at hl j h).trans (by simp only [tv, if_neg h99])) (by have q := k G p e s m args below meth c H locs ls hX C hP hS hl; simp only [List.map_cons, tv, if_neg h99] at q; exact q)
theorem aw_aload {n : Nat} {x : Nat} (j : Nat) (hd : decode cc pc = .ok (.aload n, 2)) (h : L[j]? = some (n, .ref x)) (k : AVg X l own cc nL ret R ce sl QQ (pc + 2) L (.ref x :: st) σ) : AVg X l own cc nL ret R ce sl QQ pc L st σ := by
  intro G p e s m args below meth c H locs ls hX C hP hS hl
  obtain ⟨hx, hb, hml, hr, hlk, hown, hts, hK⟩ := id C
  exact lv_aload hx hb hd (L_at hl j h) (k G p e s m args below meth c H locs ls hX C hP hS hl)
theorem aw_aloadS {n : Nat} {x : Nat} (j : Nat) (h99 : x ≠ 99) (hd : decode cc pc = .ok (.aload n, 2)) (h : L[j]? = some (n, .retAddr x)) (k : AVg X l own cc nL ret R ce sl QQ (pc + 2) L (.retAddr x :: st) σ) : AVg X l own cc nL ret R ce sl QQ pc L st σ := by
  intro G p e s m args below meth c H locs ls hX C hP hS hl
  obtain ⟨hx, hb, hml, hr, hlk, hown, hts, hK⟩ := id C
  exact lv_aload hx hb hd (show ls[_]? = some (.val (.ref (sad G x))) from (L_at hl j h).trans (by simp only [tv, if_neg h99])) (by have q := k G p e s m args below meth c H locs ls hX C hP hS hl; simp only [List.map_cons, tv, if_neg h99] at q; exact q)
theorem tq_filter (G : Gx) (f g : Nat × Value → Bool) (hfg : ∀ q, g (tq G q) = f q) : ∀ L : List (Nat × Value), (L.map (tq G)).filter g = (L.filter f).map (tq G)
  | [] => rfl
  | q :: L => by
    rw [List.map_cons, List.filter_cons, List.filter_cons, hfg, tq_filter G f g hfg L]
    split <;> rfl
theorem L_st1 {G : Gx} {i : Nat} {v : Value} {L' : List (Nat × Value)} (h : (i, v) :: L.filter (fun q : Nat × Value => !(q.1 == i) && !(q.1 + 1 == i && q.2.category == 2)) = L') : (i, tv G v) :: (L.map (tq G)).filter (fun q : Nat × Value => !(q.1 == i) && !(q.1 + 1 == i && q.2.category == 2)) = L'.map (tq G) := by
  rw [← h, List.map_cons, tq_filter G (fun q : Nat × Value => !(q.1 == i) && !(q.1 + 1 == i && q.2.category == 2)) (fun q : Nat × Value => !(q.1 == i) && !(q.1 + 1 == i && q.2.category == 2)) (fun q => by simp only [tq, tv_cat])]
  rfl
theorem L_st2 {G : Gx} {i : Nat} {v : Value} {L' : List (Nat × Value)} (h : (i, v) :: L.filter (fun q : Nat × Value => !(q.1 == i) && (!(q.1 == i + 1) && !(q.1 + 1 == i && q.2.category == 2))) = L') : (i, tv G v) :: (L.map (tq G)).filter (fun q : Nat × Value => !(q.1 == i) && (!(q.1 == i + 1) && !(q.1 + 1 == i && q.2.category == 2))) = L'.map (tq G) := by
  rw [← h, List.map_cons, tq_filter G (fun q : Nat × Value => !(q.1 == i) && (!(q.1 == i + 1) && !(q.1 + 1 == i && q.2.category == 2))) (fun q : Nat × Value => !(q.1 == i) && (!(q.1 == i + 1) && !(q.1 + 1 == i && q.2.category == 2))) (fun q => by simp only [tq, tv_cat])]
  rfl
theorem aw_istore_n {n : Fin 4} {i : Nat} {x : Int32} (L' : List (Nat × Value)) (hd : decode cc pc = .ok (.istore_n n, 1)) (hi : (n : Nat) = i) (hn : i < nL) (h : (i, Value.int x) :: L.filter (fun q : Nat × Value => !(q.1 == i) && !(q.1 + 1 == i && q.2.category == 2)) = L') (k : AVg X l own cc nL ret R ce sl QQ (pc + 1) L' st σ) : AVg X l own cc nL ret R ce sl QQ pc L (.int x :: st) σ := by
  intro G p e s m args below meth c H locs ls hX C hP hS hl
  obtain ⟨hx, hb, hml, hr, hlk, hown, hts, hK⟩ := id C
  exact lv_istore_n hx hb hd hi hl hn (L_st1 h) (fun ls hl => k G p e s m args below meth c H locs ls hX C hP hS hl)
theorem aw_istore {i : Nat} {x : Int32} (L' : List (Nat × Value)) (hd : decode cc pc = .ok (.istore i, 2)) (hn : i < nL) (h : (i, Value.int x) :: L.filter (fun q : Nat × Value => !(q.1 == i) && !(q.1 + 1 == i && q.2.category == 2)) = L') (k : AVg X l own cc nL ret R ce sl QQ (pc + 2) L' st σ) : AVg X l own cc nL ret R ce sl QQ pc L (.int x :: st) σ := by
  intro G p e s m args below meth c H locs ls hX C hP hS hl
  obtain ⟨hx, hb, hml, hr, hlk, hown, hts, hK⟩ := id C
  exact lv_istore hx hb hd hl hn (L_st1 h) (fun ls hl => k G p e s m args below meth c H locs ls hX C hP hS hl)
theorem aw_lstore_n {n : Fin 4} {i : Nat} {x : Int64} (L' : List (Nat × Value)) (hd : decode cc pc = .ok (.lstore_n n, 1)) (hi : (n : Nat) = i) (hn : i + 1 < nL) (h : (i, Value.long x) :: L.filter (fun q : Nat × Value => !(q.1 == i) && (!(q.1 == i + 1) && !(q.1 + 1 == i && q.2.category == 2))) = L') (k : AVg X l own cc nL ret R ce sl QQ (pc + 1) L' st σ) : AVg X l own cc nL ret R ce sl QQ pc L (.long x :: st) σ := by
  intro G p e s m args below meth c H locs ls hX C hP hS hl
  obtain ⟨hx, hb, hml, hr, hlk, hown, hts, hK⟩ := id C
  exact lv_lstore_n hx hb hd hi hl hn (L_st2 h) (fun ls hl => k G p e s m args below meth c H locs ls hX C hP hS hl)
theorem aw_lstore {i : Nat} {x : Int64} (L' : List (Nat × Value)) (hd : decode cc pc = .ok (.lstore i, 2)) (hn : i + 1 < nL) (h : (i, Value.long x) :: L.filter (fun q : Nat × Value => !(q.1 == i) && (!(q.1 == i + 1) && !(q.1 + 1 == i && q.2.category == 2))) = L') (k : AVg X l own cc nL ret R ce sl QQ (pc + 2) L' st σ) : AVg X l own cc nL ret R ce sl QQ pc L (.long x :: st) σ := by
  intro G p e s m args below meth c H locs ls hX C hP hS hl
  obtain ⟨hx, hb, hml, hr, hlk, hown, hts, hK⟩ := id C
  exact lv_lstore hx hb hd hl hn (L_st2 h) (fun ls hl => k G p e s m args below meth c H locs ls hX C hP hS hl)
theorem aw_astore_n {n : Fin 4} {i : Nat} {x : Nat} (L' : List (Nat × Value)) (hd : decode cc pc = .ok (.astore_n n, 1)) (hi : (n : Nat) = i) (hn : i < nL) (h : (i, Value.ref x) :: L.filter (fun q : Nat × Value => !(q.1 == i) && !(q.1 + 1 == i && q.2.category == 2)) = L') (k : AVg X l own cc nL ret R ce sl QQ (pc + 1) L' st σ) : AVg X l own cc nL ret R ce sl QQ pc L (.ref x :: st) σ := by
  intro G p e s m args below meth c H locs ls hX C hP hS hl
  obtain ⟨hx, hb, hml, hr, hlk, hown, hts, hK⟩ := id C
  exact lv_astore_n hx hb hd hi hl hn (L_st1 h) (fun ls hl => k G p e s m args below meth c H locs ls hX C hP hS hl)
theorem aw_astore {i : Nat} {x : Nat} (L' : List (Nat × Value)) (hd : decode cc pc = .ok (.astore i, 2)) (hn : i < nL) (h : (i, Value.ref x) :: L.filter (fun q : Nat × Value => !(q.1 == i) && !(q.1 + 1 == i && q.2.category == 2)) = L') (k : AVg X l own cc nL ret R ce sl QQ (pc + 2) L' st σ) : AVg X l own cc nL ret R ce sl QQ pc L (.ref x :: st) σ := by
  intro G p e s m args below meth c H locs ls hX C hP hS hl
  obtain ⟨hx, hb, hml, hr, hlk, hown, hts, hK⟩ := id C
  exact lv_astore hx hb hd hl hn (L_st1 h) (fun ls hl => k G p e s m args below meth c H locs ls hX C hP hS hl)
theorem aw_iinc {i : Nat} {n : Int} {x : Int32} (j : Nat) (v : Int32) (L' : List (Nat × Value)) (hd : decode cc pc = .ok (.iinc i n, 3)) (hj : L[j]? = some (i, .int x)) (hv : x + Int32.ofInt n = v) (hn : i < nL) (h : (i, Value.int v) :: L.filter (fun q : Nat × Value => !(q.1 == i) && !(q.1 + 1 == i && q.2.category == 2)) = L') (k : AVg X l own cc nL ret R ce sl QQ (pc + 3) L' st σ) : AVg X l own cc nL ret R ce sl QQ pc L st σ := by
  intro G p e s m args below meth c H locs ls hX C hP hS hl
  obtain ⟨hx, hb, hml, hr, hlk, hown, hts, hK⟩ := id C
  exact lv_iinc (k := j) hx hb hd hl (by rw [List.getElem?_map, hj]; rfl) hv hn (L_st1 (v := .int v) h) (fun ls hl => k G p e s m args below meth c H locs ls hX C hP hS hl)
theorem aw_sub {L' : List (Nat × Value)} (ks : List Nat) (h : lv_pick L ks = L') (k : AVg X l own cc nL ret R ce sl QQ pc L' st σ) : AVg X l own cc nL ret R ce sl QQ pc L st σ := by
  intro G p e s m args below meth c H locs ls hX C hP hS hl
  obtain ⟨hx, hb, hml, hr, hlk, hown, hts, hK⟩ := id C
  refine k G p e s m args below meth c H locs ls hX C hP hS (lv_sub hl ks ?_)
  rw [← h]
  unfold lv_pick
  rw [List.map_filterMap]
  congr 1
  funext q
  rw [List.getElem?_map]
theorem aw_iadd {x y : Int32} (hd : decode cc pc = .ok (.iadd, 1)) (k : AVg X l own cc nL ret R ce sl QQ (pc + 1) L (.int (x + y) :: st) σ) : AVg X l own cc nL ret R ce sl QQ pc L (.int y :: .int x :: st) σ := by
  intro G p e s m args below meth c H locs ls hX C hP hS hl
  obtain ⟨hx, hb, hml, hr, hlk, hown, hts, hK⟩ := id C
  exact lv_iadd hx hb hd (k G p e s m args below meth c H locs ls hX C hP hS hl)
theorem aw_isub {x y : Int32} (hd : decode cc pc = .ok (.isub, 1)) (k : AVg X l own cc nL ret R ce sl QQ (pc + 1) L (.int (x - y) :: st) σ) : AVg X l own cc nL ret R ce sl QQ pc L (.int y :: .int x :: st) σ := by
  intro G p e s m args below meth c H locs ls hX C hP hS hl
  obtain ⟨hx, hb, hml, hr, hlk, hown, hts, hK⟩ := id C
  exact lv_isub hx hb hd (k G p e s m args below meth c H locs ls hX C hP hS hl)
theorem aw_imul {x y : Int32} (hd : decode cc pc = .ok (.imul, 1)) (k : AVg X l own cc nL ret R ce sl QQ (pc + 1) L (.int (x * y) :: st) σ) : AVg X l own cc nL ret R ce sl QQ pc L (.int y :: .int x :: st) σ := by
  intro G p e s m args below meth c H locs ls hX C hP hS hl
  obtain ⟨hx, hb, hml, hr, hlk, hown, hts, hK⟩ := id C
  exact lv_imul hx hb hd (k G p e s m args below meth c H locs ls hX C hP hS hl)
theorem aw_iand {x y : Int32} (hd : decode cc pc = .ok (.iand, 1)) (k : AVg X l own cc nL ret R ce sl QQ (pc + 1) L (.int (x &&& y) :: st) σ) : AVg X l own cc nL ret R ce sl QQ pc L (.int y :: .int x :: st) σ := by
  intro G p e s m args below meth c H locs ls hX C hP hS hl
  obtain ⟨hx, hb, hml, hr, hlk, hown, hts, hK⟩ := id C
  exact lv_iand hx hb hd (k G p e s m args below meth c H locs ls hX C hP hS hl)
theorem aw_ior {x y : Int32} (hd : decode cc pc = .ok (.ior, 1)) (k : AVg X l own cc nL ret R ce sl QQ (pc + 1) L (.int (x ||| y) :: st) σ) : AVg X l own cc nL ret R ce sl QQ pc L (.int y :: .int x :: st) σ := by
  intro G p e s m args below meth c H locs ls hX C hP hS hl
  obtain ⟨hx, hb, hml, hr, hlk, hown, hts, hK⟩ := id C
  exact lv_ior hx hb hd (k G p e s m args below meth c H locs ls hX C hP hS hl)
theorem aw_ixor {x y : Int32} (hd : decode cc pc = .ok (.ixor, 1)) (k : AVg X l own cc nL ret R ce sl QQ (pc + 1) L (.int (x ^^^ y) :: st) σ) : AVg X l own cc nL ret R ce sl QQ pc L (.int y :: .int x :: st) σ := by
  intro G p e s m args below meth c H locs ls hX C hP hS hl
  obtain ⟨hx, hb, hml, hr, hlk, hown, hts, hK⟩ := id C
  exact lv_ixor hx hb hd (k G p e s m args below meth c H locs ls hX C hP hS hl)
theorem aw_ishl {x y : Int32} (hd : decode cc pc = .ok (.ishl, 1)) (k : AVg X l own cc nL ret R ce sl QQ (pc + 1) L (.int (x <<< (y &&& 31)) :: st) σ) : AVg X l own cc nL ret R ce sl QQ pc L (.int y :: .int x :: st) σ := by
  intro G p e s m args below meth c H locs ls hX C hP hS hl
  obtain ⟨hx, hb, hml, hr, hlk, hown, hts, hK⟩ := id C
  exact lv_ishl hx hb hd (k G p e s m args below meth c H locs ls hX C hP hS hl)
theorem aw_ishr {x y : Int32} (hd : decode cc pc = .ok (.ishr, 1)) (k : AVg X l own cc nL ret R ce sl QQ (pc + 1) L (.int (x >>> (y &&& 31)) :: st) σ) : AVg X l own cc nL ret R ce sl QQ pc L (.int y :: .int x :: st) σ := by
  intro G p e s m args below meth c H locs ls hX C hP hS hl
  obtain ⟨hx, hb, hml, hr, hlk, hown, hts, hK⟩ := id C
  exact lv_ishr hx hb hd (k G p e s m args below meth c H locs ls hX C hP hS hl)
theorem aw_iushr {x y : Int32} (hd : decode cc pc = .ok (.iushr, 1)) (k : AVg X l own cc nL ret R ce sl QQ (pc + 1) L (.int ((x.toUInt32 >>> (y.toUInt32 &&& Int32.toUInt32 31)).toInt32) :: st) σ) : AVg X l own cc nL ret R ce sl QQ pc L (.int y :: .int x :: st) σ := by
  intro G p e s m args below meth c H locs ls hX C hP hS hl
  obtain ⟨hx, hb, hml, hr, hlk, hown, hts, hK⟩ := id C
  exact lv_iushr hx hb hd rfl (k G p e s m args below meth c H locs ls hX C hP hS hl)
theorem aw_idiv {x y : Int32} (hd : decode cc pc = .ok (.idiv, 1)) (hy : ¬ y = 0) (k : AVg X l own cc nL ret R ce sl QQ (pc + 1) L (.int (x / y) :: st) σ) : AVg X l own cc nL ret R ce sl QQ pc L (.int y :: .int x :: st) σ := by
  intro G p e s m args below meth c H locs ls hX C hP hS hl
  obtain ⟨hx, hb, hml, hr, hlk, hown, hts, hK⟩ := id C
  exact lv_idiv hx hb hd hy (k G p e s m args below meth c H locs ls hX C hP hS hl)
theorem aw_irem {x y : Int32} (hd : decode cc pc = .ok (.irem, 1)) (hy : ¬ y = 0) (k : AVg X l own cc nL ret R ce sl QQ (pc + 1) L (.int (x - x / y * y) :: st) σ) : AVg X l own cc nL ret R ce sl QQ pc L (.int y :: .int x :: st) σ := by
  intro G p e s m args below meth c H locs ls hX C hP hS hl
  obtain ⟨hx, hb, hml, hr, hlk, hown, hts, hK⟩ := id C
  exact lv_irem hx hb hd hy (k G p e s m args below meth c H locs ls hX C hP hS hl)
theorem aw_ineg {x : Int32} (hd : decode cc pc = .ok (.ineg, 1)) (k : AVg X l own cc nL ret R ce sl QQ (pc + 1) L (.int (0 - x) :: st) σ) : AVg X l own cc nL ret R ce sl QQ pc L (.int x :: st) σ := by
  intro G p e s m args below meth c H locs ls hX C hP hS hl
  obtain ⟨hx, hb, hml, hr, hlk, hown, hts, hK⟩ := id C
  exact lv_ineg hx hb hd (k G p e s m args below meth c H locs ls hX C hP hS hl)
theorem aw_ladd {x y : Int64} (hd : decode cc pc = .ok (.ladd, 1)) (k : AVg X l own cc nL ret R ce sl QQ (pc + 1) L (.long (x + y) :: st) σ) : AVg X l own cc nL ret R ce sl QQ pc L (.long y :: .long x :: st) σ := by
  intro G p e s m args below meth c H locs ls hX C hP hS hl
  obtain ⟨hx, hb, hml, hr, hlk, hown, hts, hK⟩ := id C
  exact lv_ladd hx hb hd (k G p e s m args below meth c H locs ls hX C hP hS hl)
theorem aw_lsub {x y : Int64} (hd : decode cc pc = .ok (.lsub, 1)) (k : AVg X l own cc nL ret R ce sl QQ (pc + 1) L (.long (x - y) :: st) σ) : AVg X l own cc nL ret R ce sl QQ pc L (.long y :: .long x :: st) σ := by
  intro G p e s m args below meth c H locs ls hX C hP hS hl
  obtain ⟨hx, hb, hml, hr, hlk, hown, hts, hK⟩ := id C
  exact lv_lsub hx hb hd (k G p e s m args below meth c H locs ls hX C hP hS hl)
theorem aw_lmul {x y : Int64} (hd : decode cc pc = .ok (.lmul, 1)) (k : AVg X l own cc nL ret R ce sl QQ (pc + 1) L (.long (x * y) :: st) σ) : AVg X l own cc nL ret R ce sl QQ pc L (.long y :: .long x :: st) σ := by
  intro G p e s m args below meth c H locs ls hX C hP hS hl
  obtain ⟨hx, hb, hml, hr, hlk, hown, hts, hK⟩ := id C
  exact lv_lmul hx hb hd (k G p e s m args below meth c H locs ls hX C hP hS hl)
theorem aw_lxor {x y : Int64} (hd : decode cc pc = .ok (.lxor, 1)) (k : AVg X l own cc nL ret R ce sl QQ (pc + 1) L (.long (x ^^^ y) :: st) σ) : AVg X l own cc nL ret R ce sl QQ pc L (.long y :: .long x :: st) σ := by
  intro G p e s m args below meth c H locs ls hX C hP hS hl
  obtain ⟨hx, hb, hml, hr, hlk, hown, hts, hK⟩ := id C
  exact lv_lxor hx hb hd (k G p e s m args below meth c H locs ls hX C hP hS hl)
theorem aw_lushr {x : Int64} {y : Int32} (hd : decode cc pc = .ok (.lushr, 1)) (k : AVg X l own cc nL ret R ce sl QQ (pc + 1) L (.long ((x.toUInt64 >>> (y.toInt64.toUInt64 &&& Int64.toUInt64 63)).toInt64) :: st) σ) : AVg X l own cc nL ret R ce sl QQ pc L (.int y :: .long x :: st) σ := by
  intro G p e s m args below meth c H locs ls hX C hP hS hl
  obtain ⟨hx, hb, hml, hr, hlk, hown, hts, hK⟩ := id C
  exact lv_lushr hx hb hd rfl (k G p e s m args below meth c H locs ls hX C hP hS hl)
theorem aw_lcmp {x y : Int64} (hd : decode cc pc = .ok (.lcmp, 1)) (k : AVg X l own cc nL ret R ce sl QQ (pc + 1) L (.int (lg_cmp x y) :: st) σ) : AVg X l own cc nL ret R ce sl QQ pc L (.long y :: .long x :: st) σ := by
  intro G p e s m args below meth c H locs ls hX C hP hS hl
  obtain ⟨hx, hb, hml, hr, hlk, hown, hts, hK⟩ := id C
  exact W.lcmp hx hb hd (k G p e s m args below meth c H locs ls hX C hP hS hl)
theorem aw_i2l {x : Int32} (hd : decode cc pc = .ok (.i2l, 1)) (k : AVg X l own cc nL ret R ce sl QQ (pc + 1) L (.long (x.toInt64) :: st) σ) : AVg X l own cc nL ret R ce sl QQ pc L (.int x :: st) σ := by
  intro G p e s m args below meth c H locs ls hX C hP hS hl
  obtain ⟨hx, hb, hml, hr, hlk, hown, hts, hK⟩ := id C
  exact lv_i2l hx hb hd rfl (k G p e s m args below meth c H locs ls hX C hP hS hl)
theorem aw_i2b {x : Int32} (hd : decode cc pc = .ok (.i2b, 1)) (k : AVg X l own cc nL ret R ce sl QQ (pc + 1) L (.int (x.toInt8.toInt32) :: st) σ) : AVg X l own cc nL ret R ce sl QQ pc L (.int x :: st) σ := by
  intro G p e s m args below meth c H locs ls hX C hP hS hl
  obtain ⟨hx, hb, hml, hr, hlk, hown, hts, hK⟩ := id C
  exact lv_i2b hx hb hd rfl (k G p e s m args below meth c H locs ls hX C hP hS hl)
theorem aw_i2c {x : Int32} (hd : decode cc pc = .ok (.i2c, 1)) (k : AVg X l own cc nL ret R ce sl QQ (pc + 1) L (.int ((x.toUInt32 % 65536).toInt32) :: st) σ) : AVg X l own cc nL ret R ce sl QQ pc L (.int x :: st) σ := by
  intro G p e s m args below meth c H locs ls hX C hP hS hl
  obtain ⟨hx, hb, hml, hr, hlk, hown, hts, hK⟩ := id C
  exact lv_i2c hx hb hd rfl (k G p e s m args below meth c H locs ls hX C hP hS hl)
theorem aw_dup {v : Value} (hd : decode cc pc = .ok (.dup, 1)) (hv : v.category = 1) (k : AVg X l own cc nL ret R ce sl QQ (pc + 1) L (v :: v :: st) σ) : AVg X l own cc nL ret R ce sl QQ pc L (v :: st) σ := by
  intro G p e s m args below meth c H locs ls hX C hP hS hl
  obtain ⟨hx, hb, hml, hr, hlk, hown, hts, hK⟩ := id C
  exact lv_dup hx hb hd (by rw [tv_cat]; exact hv) (k G p e s m args below meth c H locs ls hX C hP hS hl)
theorem aw_pop {v : Value} (hd : decode cc pc = .ok (.pop, 1)) (hv : v.category = 1) (k : AVg X l own cc nL ret R ce sl QQ (pc + 1) L st σ) : AVg X l own cc nL ret R ce sl QQ pc L (v :: st) σ := by
  intro G p e s m args below meth c H locs ls hX C hP hS hl
  obtain ⟨hx, hb, hml, hr, hlk, hown, hts, hK⟩ := id C
  exact lv_pop hx hb hd (by rw [tv_cat]; exact hv) (k G p e s m args below meth c H locs ls hX C hP hS hl)
theorem aw_dup2 {u v : Value} (hd : decode cc pc = .ok (.dup2, 1)) (hu : u.category = 1) (hv : v.category = 1) (k : AVg X l own cc nL ret R ce sl QQ (pc + 1) L (u :: v :: u :: v :: st) σ) : AVg X l own cc nL ret R ce sl QQ pc L (u :: v :: st) σ := by
  intro G p e s m args below meth c H locs ls hX C hP hS hl
  obtain ⟨hx, hb, hml, hr, hlk, hown, hts, hK⟩ := id C
  exact lv_dup2_11 hx hb hd (by rw [tv_cat]; exact hu) (by rw [tv_cat]; exact hv) (k G p e s m args below meth c H locs ls hX C hP hS hl)
theorem aw_if_eq {x : Int32} {off : Int} (tgt : Nat) (hd : decode cc pc = .ok (.ifCond .eq off, 3)) (ht : (pc : Int) + off = (tgt : Int)) (kt : x = 0 → AVg X l own cc nL ret R ce sl QQ tgt L st σ) (kf : ¬ (x = 0) → AVg X l own cc nL ret R ce sl QQ (pc + 3) L st σ) : AVg X l own cc nL ret R ce sl QQ pc L (.int x :: st) σ := by
  intro G p e s m args below meth c H locs ls hX C hP hS hl
  obtain ⟨hx, hb, hml, hr, hlk, hown, hts, hK⟩ := id C
  exact lv_if_eq hx hb hd ht (fun q => kt q G p e s m args below meth c H locs ls hX C hP hS hl) (fun q => kf q G p e s m args below meth c H locs ls hX C hP hS hl)
theorem aw_icmp_eq {x y : Int32} {off : Int} (tgt : Nat) (hd : decode cc pc = .ok (.if_icmp .eq off, 3)) (ht : (pc : Int) + off = (tgt : Int)) (kt : x = y → AVg X l own cc nL ret R ce sl QQ tgt L st σ) (kf : ¬ (x = y) → AVg X l own cc nL ret R ce sl QQ (pc + 3) L st σ) : AVg X l own cc nL ret R ce sl QQ pc L (.int y :: .int x :: st) σ := by
  intro G p e s m args below meth c H locs ls hX C hP hS hl
  obtain ⟨hx, hb, hml, hr, hlk, hown, hts, hK⟩ := id C
  exact lv_icmp_eq hx hb hd ht (fun q => kt q G p e s m args below meth c H locs ls hX C hP hS hl) (fun q => kf q G p e s m args below meth c H locs ls hX C hP hS hl)
theorem aw_if_ne {x : Int32} {off : Int} (tgt : Nat) (hd : decode cc pc = .ok (.ifCond .ne off, 3)) (ht : (pc : Int) + off = (tgt : Int)) (kt : ¬ x = 0 → AVg X l own cc nL ret R ce sl QQ tgt L st σ) (kf : x = 0 → AVg X l own cc nL ret R ce sl QQ (pc + 3) L st σ) : AVg X l own cc nL ret R ce sl QQ pc L (.int x :: st) σ := by
  intro G p e s m args below meth c H locs ls hX C hP hS hl
  obtain ⟨hx, hb, hml, hr, hlk, hown, hts, hK⟩ := id C
  exact lv_if_ne hx hb hd ht (fun q => kt q G p e s m args below meth c H locs ls hX C hP hS hl) (fun q => kf q G p e s m args below meth c H locs ls hX C hP hS hl)
theorem aw_icmp_ne {x y : Int32} {off : Int} (tgt : Nat) (hd : decode cc pc = .ok (.if_icmp .ne off, 3)) (ht : (pc : Int) + off = (tgt : Int)) (kt : ¬ x = y → AVg X l own cc nL ret R ce sl QQ tgt L st σ) (kf : x = y → AVg X l own cc nL ret R ce sl QQ (pc + 3) L st σ) : AVg X l own cc nL ret R ce sl QQ pc L (.int y :: .int x :: st) σ := by
  intro G p e s m args below meth c H locs ls hX C hP hS hl
  obtain ⟨hx, hb, hml, hr, hlk, hown, hts, hK⟩ := id C
  exact lv_icmp_ne hx hb hd ht (fun q => kt q G p e s m args below meth c H locs ls hX C hP hS hl) (fun q => kf q G p e s m args below meth c H locs ls hX C hP hS hl)
theorem aw_if_lt {x : Int32} {off : Int} (tgt : Nat) (hd : decode cc pc = .ok (.ifCond .lt off, 3)) (ht : (pc : Int) + off = (tgt : Int)) (kt : x < 0 → AVg X l own cc nL ret R ce sl QQ tgt L st σ) (kf : ¬ (x < 0) → AVg X l own cc nL ret R ce sl QQ (pc + 3) L st σ) : AVg X l own cc nL ret R ce sl QQ pc L (.int x :: st) σ := by
  intro G p e s m args below meth c H locs ls hX C hP hS hl
  obtain ⟨hx, hb, hml, hr, hlk, hown, hts, hK⟩ := id C
  exact lv_if_lt hx hb hd ht (fun q => kt q G p e s m args below meth c H locs ls hX C hP hS hl) (fun q => kf q G p e s m args below meth c H locs ls hX C hP hS hl)
theorem aw_icmp_lt {x y : Int32} {off : Int} (tgt : Nat) (hd : decode cc pc = .ok (.if_icmp .lt off, 3)) (ht : (pc : Int) + off = (tgt : Int)) (kt : x < y → AVg X l own cc nL ret R ce sl QQ tgt L st σ) (kf : ¬ (x < y) → AVg X l own cc nL ret R ce sl QQ (pc + 3) L st σ) : AVg X l own cc nL ret R ce sl QQ pc L (.int y :: .int x :: st) σ := by
  intro G p e s m args below meth c H locs ls hX C hP hS hl
  obtain ⟨hx, hb, hml, hr, hlk, hown, hts, hK⟩ := id C
  exact lv_icmp_lt hx hb hd ht (fun q => kt q G p e s m args below meth c H locs ls hX C hP hS hl) (fun q => kf q G p e s m args below meth c H locs ls hX C hP hS hl)
theorem aw_if_ge {x : Int32} {off : Int} (tgt : Nat) (hd : decode cc pc = .ok (.ifCond .ge off, 3)) (ht : (pc : Int) + off = (tgt : Int)) (kt : 0 ≤ x → AVg X l own cc nL ret R ce sl QQ tgt L st σ) (kf : ¬ (0 ≤ x) → AVg X l own cc nL ret R ce sl QQ (pc + 3) L st σ) : AVg X l own cc nL ret R ce sl QQ pc L (.int x :: st) σ := by
  intro G p e s m args below meth c H locs ls hX C hP hS hl
  obtain ⟨hx, hb, hml, hr, hlk, hown, hts, hK⟩ := id C
  exact lv_if_ge hx hb hd ht (fun q => kt q G p e s m args below meth c H locs ls hX C hP hS hl) (fun q => kf q G p e s m args below meth c H locs ls hX C hP hS hl)
theorem aw_icmp_ge {x y : Int32} {off : Int} (tgt : Nat) (hd : decode cc pc = .ok (.if_icmp .ge off, 3)) (ht : (pc : Int) + off = (tgt : Int)) (kt : y ≤ x → AVg X l own cc nL ret R ce sl QQ tgt L st σ) (kf : ¬ (y ≤ x) → AVg X l own cc nL ret R ce sl QQ (pc + 3) L st σ) : AVg X l own cc nL ret R ce sl QQ pc L (.int y :: .int x :: st) σ := by
  intro G p e s m args below meth c H locs ls hX C hP hS hl
  obtain ⟨hx, hb, hml, hr, hlk, hown, hts, hK⟩ := id C
  exact lv_icmp_ge hx hb hd ht (fun q => kt q G p e s m args below meth c H locs ls hX C hP hS hl) (fun q => kf q G p e s m args below meth c H locs ls hX C hP hS hl)
theorem aw_if_gt {x : Int32} {off : Int} (tgt : Nat) (hd : decode cc pc = .ok (.ifCond .gt off, 3)) (ht : (pc : Int) + off = (tgt : Int)) (kt : 0 < x → AVg X l own cc nL ret R ce sl QQ tgt L st σ) (kf : ¬ (0 < x) → AVg X l own cc nL ret R ce sl QQ (pc + 3) L st σ) : AVg X l own cc nL ret R ce sl QQ pc L (.int x :: st) σ := by
  intro G p e s m args below meth c H locs ls hX C hP hS hl
  obtain ⟨hx, hb, hml, hr, hlk, hown, hts, hK⟩ := id C
  exact lv_if_gt hx hb hd ht (fun q => kt q G p e s m args below meth c H locs ls hX C hP hS hl) (fun q => kf q G p e s m args below meth c H locs ls hX C hP hS hl)
theorem aw_icmp_gt {x y : Int32} {off : Int} (tgt : Nat) (hd : decode cc pc = .ok (.if_icmp .gt off, 3)) (ht : (pc : Int) + off = (tgt : Int)) (kt : y < x → AVg X l own cc nL ret R ce sl QQ tgt L st σ) (kf : ¬ (y < x) → AVg X l own cc nL ret R ce sl QQ (pc + 3) L st σ) : AVg X l own cc nL ret R ce sl QQ pc L (.int y :: .int x :: st) σ := by
  intro G p e s m args below meth c H locs ls hX C hP hS hl
  obtain ⟨hx, hb, hml, hr, hlk, hown, hts, hK⟩ := id C
  exact lv_icmp_gt hx hb hd ht (fun q => kt q G p e s m args below meth c H locs ls hX C hP hS hl) (fun q => kf q G p e s m args below meth c H locs ls hX C hP hS hl)
theorem aw_if_le {x : Int32} {off : Int} (tgt : Nat) (hd : decode cc pc = .ok (.ifCond .le off, 3)) (ht : (pc : Int) + off = (tgt : Int)) (kt : x ≤ 0 → AVg X l own cc nL ret R ce sl QQ tgt L st σ) (kf : ¬ (x ≤ 0) → AVg X l own cc nL ret R ce sl QQ (pc + 3) L st σ) : AVg X l own cc nL ret R ce sl QQ pc L (.int x :: st) σ := by
  intro G p e s m args below meth c H locs ls hX C hP hS hl
  obtain ⟨hx, hb, hml, hr, hlk, hown, hts, hK⟩ := id C
  exact lv_if_le hx hb hd ht (fun q => kt q G p e s m args below meth c H locs ls hX C hP hS hl) (fun q => kf q G p e s m args below meth c H locs ls hX C hP hS hl)
theorem aw_icmp_le {x y : Int32} {off : Int} (tgt : Nat) (hd : decode cc pc = .ok (.if_icmp .le off, 3)) (ht : (pc : Int) + off = (tgt : Int)) (kt : x ≤ y → AVg X l own cc nL ret R ce sl QQ tgt L st σ) (kf : ¬ (x ≤ y) → AVg X l own cc nL ret R ce sl QQ (pc + 3) L st σ) : AVg X l own cc nL ret R ce sl QQ pc L (.int y :: .int x :: st) σ := by
  intro G p e s m args below meth c H locs ls hX C hP hS hl
  obtain ⟨hx, hb, hml, hr, hlk, hown, hts, hK⟩ := id C
  exact lv_icmp_le hx hb hd ht (fun q => kt q G p e s m args below meth c H locs ls hX C hP hS hl) (fun q => kf q G p e s m args below meth c H locs ls hX C hP hS hl)
theorem aw_goto {off : Int} (tgt : Nat) (hd : decode cc pc = .ok (.goto off, 3)) (ht : (pc : Int) + off = (tgt : Int)) (k : AVg X l own cc nL ret R ce sl QQ tgt L st σ) : AVg X l own cc nL ret R ce sl QQ pc L st σ := by
  intro G p e s m args below meth c H locs ls hX C hP hS hl
  obtain ⟨hx, hb, hml, hr, hlk, hown, hts, hK⟩ := id C
  exact lv_goto hx hb hd ht (k G p e s m args below meth c H locs ls hX C hP hS hl)
theorem aw_lookup {dflt : Int} {ps : Array (Int × Int)} {len : Nat} {x : Int32} {off : Int} (tgt : Nat) (hd : decode cc pc = .ok (.lookupswitch dflt ps, len)) (hp : (ps.toList.zip (ps.toList.drop 1)).all (fun (a, next) => a.1 < next.1) = true) (ho : Op.lookupswitch.offset ps.toList dflt x.toInt = off) (ht : (pc : Int) + off = (tgt : Int)) (k : AVg X l own cc nL ret R ce sl QQ tgt L st σ) : AVg X l own cc nL ret R ce sl QQ pc L (.int x :: st) σ := by
  intro G p e s m args below meth c H locs ls hX C hP hS hl
  obtain ⟨hx, hb, hml, hr, hlk, hown, hts, hK⟩ := id C
  exact lv_lookup hx hb hd hp ho ht (k G p e s m args below meth c H locs ls hX C hP hS hl)
theorem aw_tableOut {dflt lo hi : Int} {offs : Array Int} {len : Nat} {x : Int32} (tgt : Nat) (hd : decode cc pc = .ok (.tableswitch dflt lo hi offs, len)) (h : x.toInt < lo ∨ hi < x.toInt) (ht : (pc : Int) + dflt = (tgt : Int)) (k : AVg X l own cc nL ret R ce sl QQ tgt L st σ) : AVg X l own cc nL ret R ce sl QQ pc L (.int x :: st) σ := by
  intro G p e s m args below meth c H locs ls hX C hP hS hl
  obtain ⟨hx, hb, hml, hr, hlk, hown, hts, hK⟩ := id C
  exact lv_tableOut hx hb hd h ht (k G p e s m args below meth c H locs ls hX C hP hS hl)
theorem aw_tableIn {dflt lo hi : Int} {offs : Array Int} {len : Nat} {x : Int32} {off : Int} (tgt : Nat) (hd : decode cc pc = .ok (.tableswitch dflt lo hi offs, len)) (h1 : ¬ x.toInt < lo) (h2 : ¬ hi < x.toInt) (ho : offs[(x.toInt - lo).toNat]? = some off) (ht : (pc : Int) + off = (tgt : Int)) (k : AVg X l own cc nL ret R ce sl QQ tgt L st σ) : AVg X l own cc nL ret R ce sl QQ pc L (.int x :: st) σ := by
  intro G p e s m args below meth c H locs ls hX C hP hS hl
  obtain ⟨hx, hb, hml, hr, hlk, hown, hts, hK⟩ := id C
  exact lv_tableIn hx hb hd h1 h2 ho ht (k G p e s m args below meth c H locs ls hX C hP hS hl)
theorem el_o {G : Gx} {k ci : Nat} (hki : ki k = ci) (hc : ci < 11) : el G σ k = .inr (ci, ofs G σ k) := by
  unfold el
  rw [if_pos (by rw [hki]; exact hc), hki]
theorem ofs_at {G : Gx} {k ci j N : Nat} (hk : k < NN) (hki : ki k = ci) (hc : ci < 11) (hN : nfL.getD ci 0 = N) (hj : j < N) : (ofs G σ k)[j]? = some (if fk ci j then Value.ref (G.1 + rf k j) else Value.int (σ k j)) := by
  have h1 : ln k = N := by rw [ln_nf k hk (by rw [hki]; exact hc), hki, hN]
  unfold ofs
  rw [List.getElem?_map, List.getElem?_range (by rw [h1]; exact hj), hki]
  rfl
theorem aw_getI {ci ix k N : Nat} {C : String} {T : u_T} {ty : Nat → FieldType} (j : Nat) (kc : KC ci C T N ty) (hd : decode cc pc = .ok (.getfield ix, 3)) (hw : Cond.fieldLink own ix (T j).1 (T j).2.1 (T j).2.2.1 ∈ TBg) (hk : k < NN) (hki : ki k = ci) (hj : j < N) (hf : fk ci j = false) (n : AVg X l own cc nL ret R ce sl QQ (pc + 3) L (.int (σ k j) :: st) σ) : AVg X l own cc nL ret R ce sl QQ pc L (.ref k :: st) σ := by
  intro G p e s m args below meth c H locs ls hX C0 hP hS hl
  obtain ⟨hx, hb, hml, hr, hlk, hown, hts, hK⟩ := id C0
  refine va_get hx hb hts kc.2.1 hown hK.1 hP k (by rw [WL_get hk, el_o hki kc.2.2.2.2.2]) kc.1 j hj (hts _ hw) (fun _ q => q) (v := .int (σ k j)) ?_ hd (n G p e s m args below meth c H locs ls hX C0 hP hS hl)
  rw [ofs_at hk hki kc.2.2.2.2.2 kc.2.2.2.2.1 hj, hf]
  rfl
theorem aw_getR {ci ix k N : Nat} {C : String} {T : u_T} {ty : Nat → FieldType} (j : Nat) (kc : KC ci C T N ty) (hd : decode cc pc = .ok (.getfield ix, 3)) (hw : Cond.fieldLink own ix (T j).1 (T j).2.1 (T j).2.2.1 ∈ TBg) (hk : k < NN) (hki : ki k = ci) (hj : j < N) {r : Nat} (hf : fk ci j = true) (hr : rf k j = r) (n : AVg X l own cc nL ret R ce sl QQ (pc + 3) L (.ref r :: st) σ) : AVg X l own cc nL ret R ce sl QQ pc L (.ref k :: st) σ := by
  intro G p e s m args below meth c H locs ls hX C0 hP hS hl
  obtain ⟨hx, hb, hml, -, hlk, hown, hts, hK⟩ := id C0
  refine va_get hx hb hts kc.2.1 hown hK.1 hP k (by rw [WL_get hk, el_o hki kc.2.2.2.2.2]) kc.1 j hj (hts _ hw) (fun _ q => q) (v := .ref (G.1 + r)) ?_ hd (n G p e s m args below meth c H locs ls hX C0 hP hS hl)
  rw [ofs_at hk hki kc.2.2.2.2.2 kc.2.2.2.2.1 hj, hf, hr]
  rfl
theorem aw_getIN {ci ix k N : Nat} {C : String} {T : u_T} {ty : Nat → FieldType} {host : String} (j : Nat) (kc : KC ci C T N ty) (hd : decode cc pc = .ok (.getfield ix, 3)) (hw : Cond.fieldLinkNest own ix (T j).1 (T j).2.1 (T j).2.2.1 host ∈ NLs) (hk : k < NN) (hki : ki k = ci) (hj : j < N) (hf : fk ci j = false) (n : AVg X l own cc nL ret R ce sl QQ (pc + 3) L (.int (σ k j) :: st) σ) : AVg X l own cc nL ret R ce sl QQ pc L (.ref k :: st) σ := by
  intro G p e s m args below meth c H locs ls hX C0 hP hS hl
  obtain ⟨hx, hb, hml, hr, hlk, hown, hts, hK⟩ := id C0
  refine va_getN hx hb hts kc.2.1 hown hK.1 hP k (by rw [WL_get hk, el_o hki kc.2.2.2.2.2]) kc.1 j hj (va_Nw.use rfl (hK.2.1 _ hw)) (fun _ q => q) (v := .int (σ k j)) ?_ hd (n G p e s m args below meth c H locs ls hX C0 hP hS hl)
  rw [ofs_at hk hki kc.2.2.2.2.2 kc.2.2.2.2.1 hj, hf]
  rfl
theorem aw_getRN {ci ix k N : Nat} {C : String} {T : u_T} {ty : Nat → FieldType} {host : String} (j : Nat) (kc : KC ci C T N ty) (hd : decode cc pc = .ok (.getfield ix, 3)) (hw : Cond.fieldLinkNest own ix (T j).1 (T j).2.1 (T j).2.2.1 host ∈ NLs) (hk : k < NN) (hki : ki k = ci) (hj : j < N) {r : Nat} (hf : fk ci j = true) (hr : rf k j = r) (n : AVg X l own cc nL ret R ce sl QQ (pc + 3) L (.ref r :: st) σ) : AVg X l own cc nL ret R ce sl QQ pc L (.ref k :: st) σ := by
  intro G p e s m args below meth c H locs ls hX C0 hP hS hl
  obtain ⟨hx, hb, hml, -, hlk, hown, hts, hK⟩ := id C0
  refine va_getN hx hb hts kc.2.1 hown hK.1 hP k (by rw [WL_get hk, el_o hki kc.2.2.2.2.2]) kc.1 j hj (va_Nw.use rfl (hK.2.1 _ hw)) (fun _ q => q) (v := .ref (G.1 + r)) ?_ hd (n G p e s m args below meth c H locs ls hX C0 hP hS hl)
  rw [ofs_at hk hki kc.2.2.2.2.2 kc.2.2.2.2.1 hj, hf, hr]
  rfl
theorem ofs_set {G : Gx} {k ci j N : Nat} {v : Int32} (hk : k < NN) (hki : ki k = ci) (hc : ci < 11) (hN : nfL.getD ci 0 = N) (hj : j < N) (hf : fk ci j = false) : (ofs G σ k).set j (.int v) = ofs G (up σ k j v) k := by
  have h1 : ln k = N := by rw [ln_nf k hk (by rw [hki]; exact hc), hki, hN]
  apply List.ext_getElem?
  intro i
  by_cases hi : i < N
  · rw [ofs_at hk hki hc hN hi]
    by_cases e : i = j
    · subst e
      rw [List.getElem?_set_self (by unfold ofs; rw [List.length_map, List.length_range, h1]; exact hi), hf]
      simp [up, upd]
    · rw [List.getElem?_set_ne (Ne.symm e), ofs_at hk hki hc hN hi]
      simp [up, upd, e]
  · have h2 : ∀ ρ : Sg, (ofs G ρ k).length = N := fun ρ => by unfold ofs; rw [List.length_map, List.length_range, h1]
    rw [List.getElem?_eq_none (by rw [List.length_set, h2]; omega), List.getElem?_eq_none (by rw [h2]; omega)]
theorem aw_put {ci ix k N : Nat} {v : Int32} {C : String} {T : u_T} {ty : Nat → FieldType} (j : Nat) (kc : KC ci C T N ty) (hd : decode cc pc = .ok (.putfield ix, 3)) (hw : Cond.fieldLink own ix (T j).1 (T j).2.1 (T j).2.2.1 ∈ TBg) (hk : k < NN) (hki : ki k = ci) (hj : j < N) (hf : fk ci j = false) (hfin : (T j).2.2.2 = false) (hn : narrow (ty j) (.int v) = .int v) (hfit : fits (ty j) (.int v) = true) (n : AVg X l own cc nL ret R ce sl QQ (pc + 3) L st (up σ k j v)) : AVg X l own cc nL ret R ce sl QQ pc L (.int v :: .ref k :: st) σ := by
  intro G p e s m args below meth c H locs ls hX C0 hP hS hl
  obtain ⟨hx, hb, hml, -, hlk, hown, hts, hK⟩ := id C0
  refine va_put hx hb hts kc.2.1 ty kc.2.2.1 kc.2.2.2.1 hown hK.1 hP (WL_D G σ) hS k (fs := ofs G σ k) (by rw [WL_get hk, el_o hki kc.2.2.2.2.2]) kc.1 j hj (hts _ hw) (fun _ q => q) hfin (kc.2.2.1 j hj) hn hfit ?_ hd (fun H locs hP _ hS => ?_)
  · have h1 : ln k = N := by rw [ln_nf k hk (by rw [hki]; exact kc.2.2.2.2.2), hki, kc.2.2.2.2.1]
    unfold ofs
    rw [List.length_map, List.length_range, h1]
    exact hj
  · refine n G p e s m args below meth c H locs ls hX C0 ?_ hS hl
    rw [← WL_set (σ := σ) (τ := up σ k j v) (k := k) rfl up_ne, el_o hki kc.2.2.2.2.2, ← ofs_set hk hki kc.2.2.2.2.2 kc.2.2.2.2.1 hj hf]
    exact hP
theorem aw_putN {ci ix k N : Nat} {v : Int32} {C : String} {T : u_T} {ty : Nat → FieldType} {host : String} (j : Nat) (kc : KC ci C T N ty) (hd : decode cc pc = .ok (.putfield ix, 3)) (hw : Cond.fieldLinkNest own ix (T j).1 (T j).2.1 (T j).2.2.1 host ∈ NLs) (hk : k < NN) (hki : ki k = ci) (hj : j < N) (hf : fk ci j = false) (hfin : (T j).2.2.2 = false) (hn : narrow (ty j) (.int v) = .int v) (hfit : fits (ty j) (.int v) = true) (n : AVg X l own cc nL ret R ce sl QQ (pc + 3) L st (up σ k j v)) : AVg X l own cc nL ret R ce sl QQ pc L (.int v :: .ref k :: st) σ := by
  intro G p e s m args below meth c H locs ls hX C0 hP hS hl
  obtain ⟨hx, hb, hml, -, hlk, hown, hts, hK⟩ := id C0
  refine va_putN hx hb hts kc.2.1 ty kc.2.2.1 kc.2.2.2.1 hown hK.1 hP (WL_D G σ) hS k (fs := ofs G σ k) (by rw [WL_get hk, el_o hki kc.2.2.2.2.2]) kc.1 j hj (va_Nw.use rfl (hK.2.1 _ hw)) (fun _ q => q) hfin (kc.2.2.1 j hj) hn hfit ?_ hd (fun H locs hP _ hS => ?_)
  · have h1 : ln k = N := by rw [ln_nf k hk (by rw [hki]; exact kc.2.2.2.2.2), hki, kc.2.2.2.2.1]
    unfold ofs
    rw [List.length_map, List.length_range, h1]
    exact hj
  · refine n G p e s m args below meth c H locs ls hX C0 ?_ hS hl
    rw [← WL_set (σ := σ) (τ := up σ k j v) (k := k) rfl up_ne, el_o hki kc.2.2.2.2.2, ← ofs_set hk hki kc.2.2.2.2.2 kc.2.2.2.2.1 hj hf]
    exact hP
theorem el_a {G : Gx} {k t : Nat} (hki : ki k = t) (h1 : 11 ≤ t) (h2 : t < 14) : el G σ k = .inl (cy G t, ln k, .inl (σ k)) := by
  unfold el
  rw [if_neg (by omega), if_pos (by omega), hki]
theorem el_q {G : Gx} {k t : Nat} (hki : ki k = t) (h1 : 14 ≤ t) (h2 : t < 16) : el G σ k = .inl (cy G t, ln k, .inr (.inr (.inr (.inr (fun j => some (G.1 + rf k j)))))) := by
  unfold el
  rw [if_neg (by omega), if_neg (by omega), if_neg (by omega), hki]
theorem aw_iald {k N j : Nat} {i : Int32} (hd : decode cc pc = .ok (.iaload, 1)) (hk : k < NN) (hki : ki k = 11) (hln : ln k = N) (hi : vp_in i N) (hj : i.toNatClampNeg = j) (n : AVg X l own cc nL ret R ce sl QQ (pc + 1) L (.int (σ k j) :: st) σ) : AVg X l own cc nL ret R ce sl QQ pc L (.int i :: .ref k :: st) σ := by
  intro G p e s m args below meth c H locs ls hX C hP hS hl
  obtain ⟨hx, hb, hml, hr, hlk, hown, hts, hK⟩ := id C
  subst hj
  exact va_iald hx hb hK.1 hP k 0 (by rw [WL_get hk, el_a hki (by decide) (by decide)]) rfl (by rw [hln]; exact hi) hd (n G p e s m args below meth c H locs ls hX C hP hS hl)
theorem aw_bald {k N j : Nat} {i : Int32} (hd : decode cc pc = .ok (.baload, 1)) (hk : k < NN) (hki : ki k = 12) (hln : ln k = N) (hi : vp_in i N) (hj : i.toNatClampNeg = j) (n : AVg X l own cc nL ret R ce sl QQ (pc + 1) L (.int (σ k j) :: st) σ) : AVg X l own cc nL ret R ce sl QQ pc L (.int i :: .ref k :: st) σ := by
  intro G p e s m args below meth c H locs ls hX C hP hS hl
  obtain ⟨hx, hb, hml, hr, hlk, hown, hts, hK⟩ := id C
  subst hj
  exact va_bald hx hb hK.1 hP k 1 (by rw [WL_get hk, el_a hki (by decide) (by decide)]) rfl (by rw [hln]; exact hi) hd (n G p e s m args below meth c H locs ls hX C hP hS hl)
theorem aw_zald {k N j : Nat} {i : Int32} (hd : decode cc pc = .ok (.baload, 1)) (hk : k < NN) (hki : ki k = 13) (hln : ln k = N) (hi : vp_in i N) (hj : i.toNatClampNeg = j) (n : AVg X l own cc nL ret R ce sl QQ (pc + 1) L (.int (σ k j) :: st) σ) : AVg X l own cc nL ret R ce sl QQ pc L (.int i :: .ref k :: st) σ := by
  intro G p e s m args below meth c H locs ls hX C hP hS hl
  obtain ⟨hx, hb, hml, hr, hlk, hown, hts, hK⟩ := id C
  subst hj
  exact va_zald hx hb hK.1 hP k 2 (by rw [WL_get hk, el_a hki (by decide) (by decide)]) rfl (by rw [hln]; exact hi) hd (n G p e s m args below meth c H locs ls hX C hP hS hl)
theorem aw_iast {k N j : Nat} {i x v : Int32} (hd : decode cc pc = .ok (.iastore, 1)) (hk : k < NN) (hki : ki k = 11) (hln : ln k = N) (hi : vp_in i N) (hj : i.toNatClampNeg = j) (hv : x = v) (n : AVg X l own cc nL ret R ce sl QQ (pc + 1) L st (up σ k j v)) : AVg X l own cc nL ret R ce sl QQ pc L (.int x :: .int i :: .ref k :: st) σ := by
  intro G p e s m args below meth c H locs ls hX C hP hS hl
  obtain ⟨hx, hb, hml, hr, hlk, hown, hts, hK⟩ := id C
  subst hj
  subst hv
  refine va_iast hx hb hK.1 hP (WL_D G σ) hS k 0 (by rw [WL_get hk, el_a hki (by decide) (by decide)]) rfl (by rw [hln]; exact hi) hd (fun H locs hP _ hS => ?_)
  refine n G p e s m args below meth c H locs ls hX C ?_ hS hl
  rw [← WL_set (σ := σ) (τ := up σ k i.toNatClampNeg x) (k := k) rfl up_ne, el_a hki (by decide) (by decide), up_k]
  exact hP
theorem aw_bast {k N j : Nat} {i x v : Int32} (hd : decode cc pc = .ok (.bastore, 1)) (hk : k < NN) (hki : ki k = 12) (hln : ln k = N) (hi : vp_in i N) (hj : i.toNatClampNeg = j) (hv : (vp_nar .byte x) = v) (n : AVg X l own cc nL ret R ce sl QQ (pc + 1) L st (up σ k j v)) : AVg X l own cc nL ret R ce sl QQ pc L (.int x :: .int i :: .ref k :: st) σ := by
  intro G p e s m args below meth c H locs ls hX C hP hS hl
  obtain ⟨hx, hb, hml, hr, hlk, hown, hts, hK⟩ := id C
  subst hj
  subst hv
  refine va_bast hx hb hK.1 hP (WL_D G σ) hS k 1 (by rw [WL_get hk, el_a hki (by decide) (by decide)]) rfl (by rw [hln]; exact hi) hd (fun H locs hP _ hS => ?_)
  refine n G p e s m args below meth c H locs ls hX C ?_ hS hl
  rw [← WL_set (σ := σ) (τ := up σ k i.toNatClampNeg (vp_nar .byte x)) (k := k) rfl up_ne, el_a hki (by decide) (by decide), up_k]
  exact hP
theorem aw_zast {k N j : Nat} {i x v : Int32} (hd : decode cc pc = .ok (.bastore, 1)) (hk : k < NN) (hki : ki k = 13) (hln : ln k = N) (hi : vp_in i N) (hj : i.toNatClampNeg = j) (hv : (vp_nar .boolean x) = v) (n : AVg X l own cc nL ret R ce sl QQ (pc + 1) L st (up σ k j v)) : AVg X l own cc nL ret R ce sl QQ pc L (.int x :: .int i :: .ref k :: st) σ := by
  intro G p e s m args below meth c H locs ls hX C hP hS hl
  obtain ⟨hx, hb, hml, hr, hlk, hown, hts, hK⟩ := id C
  subst hj
  subst hv
  refine va_zast hx hb hK.1 hP (WL_D G σ) hS k 2 (by rw [WL_get hk, el_a hki (by decide) (by decide)]) rfl (by rw [hln]; exact hi) hd (fun H locs hP _ hS => ?_)
  refine n G p e s m args below meth c H locs ls hX C ?_ hS hl
  rw [← WL_set (σ := σ) (τ := up σ k i.toNatClampNeg (vp_nar .boolean x)) (k := k) rfl up_ne, el_a hki (by decide) (by decide), up_k]
  exact hP
theorem aw_aldS {k N r : Nat} {i : Int32} (hd : decode cc pc = .ok (.aaload, 1)) (hk : k < NN) (hki : ki k = 14) (hln : ln k = N) (hi : vp_in i N) (hr : rf k i.toNatClampNeg = r) (n : AVg X l own cc nL ret R ce sl QQ (pc + 1) L (.ref r :: st) σ) : AVg X l own cc nL ret R ce sl QQ pc L (.int i :: .ref k :: st) σ := by
  intro G p e s m args below meth c H locs ls hX C hP hS hl
  obtain ⟨hx, hb, hml, -, hlk, hown, hts, hK⟩ := id C
  refine va_aldq hx hb hK.1 hP k 3 (by rw [WL_get hk, el_q hki (by decide) (by decide)]) rfl (by rw [hln]; exact hi) hd ?_
  rw [hr]
  exact (n G p e s m args below meth c H locs ls hX C hP hS hl)
theorem aw_aldI {k N r : Nat} {i : Int32} (hd : decode cc pc = .ok (.aaload, 1)) (hk : k < NN) (hki : ki k = 15) (hln : ln k = N) (hi : vp_in i N) (hr : rf k i.toNatClampNeg = r) (n : AVg X l own cc nL ret R ce sl QQ (pc + 1) L (.ref r :: st) σ) : AVg X l own cc nL ret R ce sl QQ pc L (.int i :: .ref k :: st) σ := by
  intro G p e s m args below meth c H locs ls hX C hP hS hl
  obtain ⟨hx, hb, hml, -, hlk, hown, hts, hK⟩ := id C
  have hw := hP k _ (WL_get hk)
  rw [el_q hki (by decide) (by decide)] at hw
  have hcell : H[G.1 + k]? = some (arrV (cy G 15) (ln k) (fun j => va_rf (some (G.1 + rf k j)))) := hw
  have hlt : i.toNatClampNeg < ln k := by rw [hln]; exact Nat.not_le.mp fun q => hi (Or.inr q)
  refine W.aald hx hb hcell ((hK.1.2 4 (cy G 15, .array .int) rfl).1 _ _) rfl (fun h => by cases h) ?_ (v := .ref (G.1 + r)) ?_ rfl rfl hd (n G p e s m args below meth c H locs ls hX C hP hS hl)
  · simp only [arrV, Array.size_ofFn]
    intro h
    rcases h with h | h
    · exact hi (Or.inl h)
    · omega
  · simp [arrV, hlt, hr, va_rf]
theorem aw_alen {k N : Nat} {v : Int32} (hd : decode cc pc = .ok (.arraylength, 1)) (hk : k < NN) (hki : ki k = 11) (hln : ln k = N) (hv : Int32.ofNat N = v) (n : AVg X l own cc nL ret R ce sl QQ (pc + 1) L (.int v :: st) σ) : AVg X l own cc nL ret R ce sl QQ pc L (.ref k :: st) σ := by
  intro G p e s m args below meth c H locs ls hX C hP hS hl
  obtain ⟨hx, hb, hml, hr, hlk, hown, hts, hK⟩ := id C
  exact va_alen hx hb hK.1 hP k 0 (by rw [WL_get hk, el_a hki (by decide) (by decide)]) rfl (by rw [hln]; exact hv) hd (n G p e s m args below meth c H locs ls hX C hP hS hl)
theorem aw_iret {v : Int32} (hret : ret = some .int) (hd : decode cc pc = .ok (.ireturn, 1)) (q : Q (some (.int v)) σ) : AV l own cc nL ret d Q pc L [.int v] σ := by
  intro G p e s m args below meth c H locs ls hX C hP hS hl
  obtain ⟨hx, hb, hml, hr, hlk, hown, hts, hK⟩ := id C
  exact W.iret hx hb (by rw [hr, hret]) (fun t ht hW => ⟨⟨some (.int v), σ, rfl, q, by rw [ht]; exact hP⟩, hS.F ht⟩) hS.2.2 hd hlk
theorem aw_zret {v : Int32} {ty : FieldType} (hret : ret = some ty) (hn : narrow ty (.int v) = .int v) (hd : decode cc pc = .ok (.ireturn, 1)) (q : Q (some (.int v)) σ) : AV l own cc nL ret d Q pc L [.int v] σ := by
  intro G p e s m args below meth c H locs ls hX C hP hS hl
  obtain ⟨hx, hb, hml, hr, hlk, hown, hts, hK⟩ := id C
  exact W.zret hx hb (by rw [hr, hret]) hn (fun t ht hW => ⟨⟨some (.int v), σ, rfl, q, by rw [ht]; exact hP⟩, hS.F ht⟩) hS.2.2 hd hlk
theorem aw_lret {v : Int64} (hret : ret = some .long) (hd : decode cc pc = .ok (.lreturn, 1)) (q : Q (some (.long v)) σ) : AV l own cc nL ret d Q pc L [.long v] σ := by
  intro G p e s m args below meth c H locs ls hX C hP hS hl
  obtain ⟨hx, hb, hml, hr, hlk, hown, hts, hK⟩ := id C
  exact W.lret hx hb (by rw [hr, hret]) (fun t ht hW => ⟨⟨some (.long v), σ, rfl, q, by rw [ht]; exact hP⟩, hS.F ht⟩) hS.2.2 hd hlk
theorem aw_vret (hret : ret = none) (hd : decode cc pc = .ok (.return_, 1)) (q : Q none σ) : AV l own cc nL ret d Q pc L [] σ := by
  intro G p e s m args below meth c H locs ls hX C hP hS hl
  obtain ⟨hx, hb, hml, hr, hlk, hown, hts, hK⟩ := id C
  exact W.vret hx hb (by rw [hr, hret]) (fun t ht hW => ⟨⟨none, σ, rfl, q, by rw [ht]; exact hP⟩, hS.F ht⟩) hS.2.2 hd hlk
theorem aw_topi {x : Int32} (k : ∀ y : Int32, y = x → AVg X l own cc nL ret R ce sl QQ pc L (.int y :: st) σ) : AVg X l own cc nL ret R ce sl QQ pc L (.int x :: st) σ := k x rfl
theorem aw_topl {x : Int64} (k : ∀ y : Int64, y = x → AVg X l own cc nL ret R ce sl QQ pc L (.long y :: st) σ) : AVg X l own cc nL ret R ce sl QQ pc L (.long x :: st) σ := k x rfl
theorem aw_tops (k : ∀ τ : Sg, τ = σ → AVg X l own cc nL ret R ce sl QQ pc L st τ) : AVg X l own cc nL ret R ce sl QQ pc L st σ := k σ rfl
end AWR
