def repL : List (String × Nat) := [("CupPot$BookReader", 58), ("CupPot$BookReader", 67), ("CupPot$BookReader", 102), ("CupPot$BookReader", 108), ("CupPot$BookReader", 110), ("CupPot$BookReader", 112), ("CupPot$BookReader", 117), ("CupPot$BookReader", 119), ("CupPot$BookReader", 72), ("CupPot$DeedReader", 42), ("CupPot$DeedReader", 52), ("CupPot$DeedReader", 66), ("CupPot$DeedReader", 68), ("CupPot$DeedReader", 57), ("CupPot", 190)]
def rpT (i : Nat) : Term := .string (repL.getD i ("", 0)).1 (repL.getD i ("", 0)).2
def prL : List Cond := flatC (Jvm.Cond.and given_1 narrow_1)
theorem re_ex : ∀ i, i < nSt → Cond.exactly (rpT i) "java/lang/String" ∈ prL := by decide +kernel
theorem re_co : ∀ i, i < nSt → Cond.eq (.field (rpT i) "java/lang/String" "coder" "B") (.int 0) ∈ prL := by decide +kernel
theorem re_ar : ∀ i, i < nSt → Cond.arrayOf (.field (rpT i) "java/lang/String" "value" "[B") .byte ∈ prL := by decide +kernel
theorem re_le : ∀ i, i < nSt → Cond.eq (.length (.field (rpT i) "java/lang/String" "value" "[B")) (.int (Int32.ofNat (lenSt.getD i 0))) ∈ prL := by decide +kernel
theorem re_el : ∀ i, i < nSt → ∀ j, j < lenSt.getD i 0 → Cond.eq (.elem (.field (rpT i) "java/lang/String" "value" "[B") (.int (Int32.ofNat j))) (.int ((bytSt.getD i []).getD j 0)) ∈ prL := by decide +kernel
theorem re_ln : ∀ i, i < nSt → lenSt.getD i 0 < 2 ^ 31 := by decide +kernel
theorem sr_ex : ∀ q ∈ srL, Cond.exactly (.string q.1 q.2.1) "java/lang/String" ∈ prL := by decide +kernel
theorem sr_w : ∀ q ∈ srL, Cond.stringRef q.1 q.2.1 q.2.2.1 ∈ tables_1 := by decide +kernel
theorem sr_lt : ∀ q ∈ srL, q.2.2.2 < nSt := by decide +kernel
theorem sr_eq : ∀ q ∈ srL, Term.string q.1 q.2.1 = rpT q.2.2.2 ∨ Cond.eq (rpT q.2.2.2) (.string q.1 q.2.1) ∈ prL ∨ Cond.eq (.string q.1 q.2.1) (rpT q.2.2.2) ∈ prL := by decide +kernel
theorem str_eq {args : Array Value} {s : State} {t u : Term} {a b : Nat} (h : (Cond.eq t u).before args s = true) (ht : t.eval args s none [] s = some (.ref a)) (hu : u.eval args s none [] s = some (.ref b)) : a = b := by
  simpa [Cond.before, Cond.holds, Cond.value, ht, hu] using h
theorem start_str {args : Array Value} {s : State} (hs : ∀ c ∈ prL, c.before args s = true) {A : Nat → Prop} (hA : ∀ a : Nat, a < s.heap.size → ¬ A a) (b : Nat) : ∃ ad : Nat → Nat, ad 98 = b ∧ (∀ i, i < nSt → SS ad A s s.heap i) ∧ ∀ q ∈ srL, (Term.string q.1 q.2.1).eval args s none [] s = some (.ref (ad q.2.2.2)) := by
  have h0 : ∀ i : Nat, ∃ q : Nat × Nat, i < nSt → (va_O "java/lang/String" q.1 A s s.heap ∧ va_OF "java/lang/String" "coder" "B" (.int 0) q.1 A s s.heap ∧ va_OF "java/lang/String" "value" "[B" (.ref q.2) q.1 A s s.heap ∧ va_T .byte q.2 (lenSt.getD i 0) (fun j => .int ((bytSt.getD i []).getD j 0)) A s s.heap) ∧ (rpT i).eval args s none [] s = some (.ref q.1) := by
    intro i
    by_cases hi : i < nSt
    · obtain ⟨aK, aV, h1, h2⟩ := vk_Sof (N := 1) (tm := fun _ => rpT i) (len := [lenSt.getD i 0]) (byt := [bytSt.getD i []]) (A := A) (args := args) (s := s)
        (fun k hk => by rw [show k = 0 by omega]; exact re_ln i hi) (fun k hk => hs _ (re_ex i hi)) (fun k hk => hs _ (re_co i hi)) (fun k hk => hs _ (re_ar i hi)) (fun k hk => by rw [show k = 0 by omega]; exact hs _ (re_le i hi)) (fun k hk j hj => by
          have e : k = 0 := by omega
          subst e
          exact hs _ (re_el i hi j hj)) (fun k j hk hj hne => absurd (show k = j by omega) hne) hA
      exact ⟨(aK 0, aV 0), fun _ => ⟨h1.1 0 (by decide), h2 0 (by decide)⟩⟩
    · exact ⟨(0, 0), fun h => absurd h hi⟩
  obtain ⟨f, hf⟩ := Classical.axiomOfChoice h0
  refine ⟨fun n => if n = 98 then b else if n < 98 then (f n).1 else (f (n - 100)).2, rfl, fun i hi => ?_, fun q hq => ?_⟩
  · have hi' : i < 15 := hi
    have h1 := (hf i hi).1
    unfold SS
    have c1 : ¬ i = 98 := by omega
    have c2 : i < 98 := by omega
    have c3 : ¬ 100 + i = 98 := by omega
    have c4 : ¬ 100 + i < 98 := by omega
    have c5 : 100 + i - 100 = i := by omega
    simp only [if_neg c1, if_pos c2, if_neg c3, if_neg c4, c5]
    exact h1
  · have hi := sr_lt q hq
    have hi' : q.2.2.2 < 15 := hi
    have h1 := (hf _ hi).2
    show _ = some (Value.ref (if q.2.2.2 = 98 then b else if q.2.2.2 < 98 then (f q.2.2.2).1 else (f (q.2.2.2 - 100)).2))
    rw [if_neg (show ¬ q.2.2.2 = 98 by omega), if_pos (show q.2.2.2 < 98 by omega)]
    obtain ⟨a, c, cell, k, e1, -⟩ := Cond.exactly_spec (args := args) (first := s) (o := none) (s := s) (idx := []) (hs _ (sr_ex q hq))
    rcases sr_eq q hq with h | h | h
    · rw [h]
      exact h1
    · rw [e1, str_eq (hs _ h) h1 e1]
    · rw [e1, str_eq (hs _ h) e1 h1]
theorem start_cls {args : Array Value} {s : State} (hts : ∀ w ∈ TBg, w.before args s = true) : ∃ (dC : Nat → ClassId) (dI : Nat → Nat → Nat), ∀ (k : Nat) (q : vw_C), vwCl[k]? = some q → u_Kn s q.1 q.2.1 q.2.2 (dC k) (dI k) := by
  have h0 : ∀ k : Nat, ∃ p : ClassId × (Nat → Nat), ∀ q : vw_C, vwCl[k]? = some q → u_Kn s q.1 q.2.1 q.2.2 p.1 p.2 := by
    intro k
    match k with
    | 0 =>
      obtain ⟨c, iS, h⟩ := u_known (C := RX0) (T := TX0) (N := 4) (n := 4) hts kcX0.2.1 (hts _ nwX0.1)
      exact ⟨(c, iS), fun q hq => by cases hq; exact h⟩
    | 1 =>
      obtain ⟨c, iS, h⟩ := u_known (C := RX1) (T := TX1) (N := 3) (n := 3) hts kcX1.2.1 (hts _ nwX1.1)
      exact ⟨(c, iS), fun q hq => by cases hq; exact h⟩
    | 2 =>
      obtain ⟨c, iS, h⟩ := u_known (C := RX2) (T := TX2) (N := 3) (n := 3) hts kcX2.2.1 (hts _ nwX2.1)
      exact ⟨(c, iS), fun q hq => by cases hq; exact h⟩
    | 3 =>
      obtain ⟨c, iS, h⟩ := u_known (C := RX3) (T := TX3) (N := 7) (n := 7) hts kcX3.2.1 (hts _ nwX3.1)
      exact ⟨(c, iS), fun q hq => by cases hq; exact h⟩
    | 4 =>
      obtain ⟨c, iS, h⟩ := u_known (C := RX4) (T := TX4) (N := 7) (n := 7) hts kcX4.2.1 (hts _ nwX4.1)
      exact ⟨(c, iS), fun q hq => by cases hq; exact h⟩
    | 5 =>
      obtain ⟨c, iS, h⟩ := u_known (C := RX5) (T := TX5) (N := 5) (n := 5) hts kcX5.2.1 (hts _ nwX5.1)
      exact ⟨(c, iS), fun q hq => by cases hq; exact h⟩
    | 6 =>
      obtain ⟨c, iS, h⟩ := u_known (C := RX6) (T := TX6) (N := 9) (n := 9) hts kcX6.2.1 (hts _ nwX6.1)
      exact ⟨(c, iS), fun q hq => by cases hq; exact h⟩
    | 7 =>
      obtain ⟨c, iS, h⟩ := u_known (C := RX7) (T := TX7) (N := 7) (n := 7) hts kcX7.2.1 (hts _ nwX7.1)
      exact ⟨(c, iS), fun q hq => by cases hq; exact h⟩
    | 8 =>
      obtain ⟨c, iS, h⟩ := u_known (C := RX8) (T := TX8) (N := 9) (n := 9) hts kcX8.2.1 (hts _ nwX8.1)
      exact ⟨(c, iS), fun q hq => by cases hq; exact h⟩
    | 9 =>
      obtain ⟨c, iS, h⟩ := u_known (C := RX9) (T := TX9) (N := 11) (n := 11) hts kcX9.2.1 (hts _ nwX9.1)
      exact ⟨(c, iS), fun q hq => by cases hq; exact h⟩
    | 10 =>
      obtain ⟨c, iS, h⟩ := u_known (C := RX10) (T := TX10) (N := 45) (n := 45) hts kcX10.2.1 (hts _ nwX10.1)
      exact ⟨(c, iS), fun q hq => by cases hq; exact h⟩
    | k + 11 => exact ⟨(0, fun _ => 0), fun q hq => by simp [vwCl] at hq⟩
  obtain ⟨f, hf⟩ := Classical.axiomOfChoice h0
  exact ⟨fun k => (f k).1, fun k => (f k).2, hf⟩
theorem start_arr {args : Array Value} {s : State} (hts : ∀ w ∈ TBg, w.before args s = true) (hO : va_AO "CupPot$Season" s) (hA : AOA s) : ∃ cyf : Nat → ClassId, ∀ (k : Nat) (q : ClassId × FieldType), ([(cyf 11, .int), (cyf 12, .byte), (cyf 13, .boolean), (cyf 14, .object "CupPot$Season"), (cyf 15, .array .int), (cyf 16, .long)] : List (ClassId × FieldType))[k]? = some q → ArrOfT s q.1 q.2 ∧ va_RA s q.1 q.2 := by
  obtain ⟨c1, k1, m1, a1, b1, d1⟩ := Cond.arrayClass_spec (args := args) (first := s) (o := none) (idx := []) (hts _ ac_int)
  obtain ⟨c2, k2, m2, a2, b2, d2⟩ := Cond.arrayClass_spec (args := args) (first := s) (o := none) (idx := []) (hts _ ac_byte)
  obtain ⟨c3, k3, m3, a3, b3, d3⟩ := Cond.arrayClass_spec (args := args) (first := s) (o := none) (idx := []) (hts _ ac_boolean)
  obtain ⟨m4, c4, k4, f4, -, b4, d4, a4⟩ := Cond.arrayOver_spec hO
  obtain ⟨m5, c5, k5, f5, -, b5, d5, a5⟩ := arrayOverA_spec hA
  obtain ⟨c6, k6, m6, a6, b6, d6⟩ := Cond.arrayClass_spec (args := args) (first := s) (o := none) (idx := []) (hts _ ac_long)
  refine ⟨fun t => if t = 11 then c1 else if t = 12 then c2 else if t = 13 then c3 else if t = 14 then c4 else if t = 15 then c5 else c6, fun k q hq => ?_⟩
  match k, hq with
  | 0, hq => cases hq; exact ⟨fun n z => ⟨fun k h => (by cases h), k1, b1, m1, d1⟩, a1⟩
  | 1, hq => cases hq; exact ⟨fun n z => ⟨fun k h => (by cases h), k2, b2, m2, d2⟩, a2⟩
  | 2, hq => cases hq; exact ⟨fun n z => ⟨fun k h => (by cases h), k3, b3, m3, d3⟩, a3⟩
  | 3, hq => cases hq; exact ⟨fun n z => ⟨fun k h => (by cases h), k4, b4, m4, d4⟩, ⟨k4, m4, b4, d4, f4, a4⟩⟩
  | 4, hq => cases hq; exact ⟨fun n z => ⟨fun k h => (by cases h), k5, b5, m5, d5⟩, a5⟩
  | 5, hq => cases hq; exact ⟨fun n z => ⟨fun k h => (by cases h), k6, b6, m6, d6⟩, a6⟩
  | k + 6, hq => simp at hq
theorem ao_1 : Cond.arrayOver (.object "CupPot$Season") ∈ tables_1 ∧ Cond.arrayOver (.array .int) ∈ tables_1 := ⟨List.mem_of_getElem? (i := 200) (by decide +kernel), List.mem_of_getElem? (i := 72) (by decide +kernel)⟩
theorem st_1 : Cond.laysStatic "java/lang/String" "COMPACT_STRINGS" "Z" ∈ tables_1 ∧ Cond.initialized "java/lang/String" ∈ tables_1 ∧ Cond.laysStatic "jdk/internal/util/Preconditions" "SIOOBE_FORMATTER" "Ljava/util/function/BiFunction;" ∈ tables_1 ∧ Cond.initialized "jdk/internal/util/Preconditions" ∈ tables_1 ∧ Cond.laysStatic Bundle.tN "UNASSIGNED_STACK" Bundle.steD ∈ tables_1 ∧ Cond.laysStatic Bundle.tN "SUPPRESSED_SENTINEL" Bundle.listD ∈ tables_1 ∧ Cond.initialized Bundle.tN ∈ tables_1 := by decide +kernel
theorem st_2 : Cond.eq (.static "java/lang/String" "COMPACT_STRINGS" "Z") (.int 1) ∈ prL ∧ Cond.isRef (.static "jdk/internal/util/Preconditions" "SIOOBE_FORMATTER" "Ljava/util/function/BiFunction;") ∈ prL ∧ Cond.isRef (.static Bundle.tN "UNASSIGNED_STACK" Bundle.steD) ∈ prL ∧ Cond.isRef (.static Bundle.tN "SUPPRESSED_SENTINEL" Bundle.listD) ∈ prL := by decide +kernel
theorem start_G {args : Array Value} {s : State} {b L : Nat} {xs : Nat → Int32} (hts : ∀ w ∈ lw_tbl, w.before args s = true) (hs : ∀ c ∈ prL, c.before args s = true) (hX : va_X b L xs s s.heap) (hbl : b < s.heap.size) : ∃ G : Gx, G.1 = s.heap.size ∧ gL G = L ∧ gxs G = xs ∧ sad G 98 = b ∧ Kx G s := by
  have htb : ∀ w ∈ TBg, w.before args s = true := fun w hw => hts w (List.mem_filter.mp hw).1
  have htt : ∀ w ∈ tables_1, w.before args s = true := fun w hw => hts w (List.mem_append_right _ hw)
  have hA : ∀ a : Nat, a < s.heap.size → ¬ s.heap.size ≤ a := fun a h => Nat.not_le.mpr h
  have hO : va_AO "CupPot$Season" s := va_AO.of (htt _ ao_1.1)
  have hOA : AOA s := htt _ ao_1.2
  obtain ⟨dC, dI, hC⟩ := start_cls htb
  obtain ⟨cyf, hcy⟩ := start_arr htb hO hOA
  obtain ⟨ad, had, hSS, hsr⟩ := start_str hs (A := fun q => s.heap.size ≤ q) hA b
  have hcs : va_Z "java/lang/String" "COMPACT_STRINGS" "Z" (.int 1) (fun q => s.heap.size ≤ q) s s.heap := va_Zof (htt _ st_1.1) (htt _ st_1.2.1) (va_eqt (hs _ st_2.1)) hA
  obtain ⟨fm, hfm⟩ : ∃ fm : Option Nat, va_Z "jdk/internal/util/Preconditions" "SIOOBE_FORMATTER" "Ljava/util/function/BiFunction;" (va_rf fm) (fun q => s.heap.size ≤ q) s s.heap := by
    rcases va_Zqof (A := fun q => s.heap.size ≤ q) (htt _ st_1.2.2.1) (htt _ st_1.2.2.2.1) (hs _ st_2.2.1) hA with h | ⟨t, h⟩
    · exact ⟨none, h⟩
    · exact ⟨some t, h⟩
  refine ⟨(s.heap.size, dC, dI, cyf, ad, fm, L, xs), rfl, rfl, rfl, had, ⟨hC, hcy⟩, fun w hw => ?_, fun q hq => vk_R.of (htt _ (sr_w q hq)) (hsr q hq), hSS, hcs, hfm, ?_, ?_, vx_Zqof (htt _ st_1.2.2.2.2.1) (htt _ st_1.2.2.2.2.2.2) (hs _ st_2.2.2.1) hA, vx_Zqof (htt _ st_1.2.2.2.2.2.1) (htt _ st_1.2.2.2.2.2.2) (hs _ st_2.2.2.2) hA, hO, hOA⟩
  · have h1 := List.mem_filter.mp hw
    have h2 := htt w h1.1
    have h3 := h1.2
    cases w <;> first | exact va_Nw.of rfl h2 | cases h3
  · show va_X (ad 98) L xs s s.heap
    rw [had]
    exact hX
  · show ¬ s.heap.size ≤ ad 98
    rw [had]
    exact Nat.not_le.mpr hbl
def refsOk (ρ : Rh) : Prop := ∀ k, k < NN → ∀ j, j < ln k → (ki k < 11 → fk (ki k) j = true → ρ k j = some (rf k j)) ∧ (14 ≤ ki k → ki k < 16 → ρ k j = some (rf k j))
theorem arrV_congr {c : ClassId} {N : Nat} {f g : Nat → Value} (h : ∀ j, j < N → f j = g j) : arrV c N f = arrV c N g := by
  unfold arrV
  congr 1
  exact congrArg Array.ofFn (funext fun j => h j.1 j.2)
theorem Wc.done {G : Gx} {ρ : Rh} {σ : Sg} {H : Heap} (h : Wc G NN ρ σ H) (hr : refsOk ρ) : va_P (gD G) vwCl (WL G σ) H := by
  intro k q hk
  have hlt : k < NN := by
    have := (List.getElem?_eq_some_iff.mp hk).1
    unfold WL at this
    simpa using this
  rw [WL_get hlt] at hk
  cases hk
  have h1 := h.1 k _ (W2_get hlt)
  by_cases c1 : ki k < 11
  · have e : el2 G ρ σ k = el G σ k := by
      unfold el2 el ofs2 ofs
      rw [if_pos c1, if_pos c1]
      congr 2
      refine List.map_congr_left (fun j hj => ?_)
      have hj' := List.mem_range.mp hj
      by_cases hf : fk (ki k) j = true
      · rw [if_pos hf, if_pos hf, (hr k hlt j hj').1 c1 hf]
        rfl
      · rw [if_neg hf, if_neg hf]
    rw [← e]
    exact h1
  · by_cases c2 : ki k < 14
    · have e : el2 G ρ σ k = el G σ k := by
        unfold el2 el
        rw [if_neg c1, if_neg c1, if_pos c2, if_pos c2]
      rw [← e]
      exact h1
    · by_cases c3 : ki k = 16
      · have e : el2 G ρ σ k = el G σ k := by
          unfold el2 el
          rw [if_neg c1, if_neg c1, if_neg c2, if_neg c2, if_pos c3, if_pos c3]
        rw [← e]
        exact h1
      · have h15 : ki k < 16 := by
          have : ∀ k, k < NN → ki k < 17 := by decide +kernel
          have := this k hlt
          omega
        have e1 : el2 G ρ σ k = .inl (cy G (ki k), ln k, .inr (.inr (.inr (.inr (fun j => rOf G (ρ k j)))))) := by
          unfold el2
          rw [if_neg c1, if_neg c2, if_neg c3]
        have e2 : el G σ k = .inl (cy G (ki k), ln k, .inr (.inr (.inr (.inr (fun j => some (G.1 + rf k j)))))) := by
          unfold el
          rw [if_neg c1, if_neg c2, if_neg c3]
        rw [e2]
        rw [e1] at h1
        show H[G.1 + k]? = some (arrV (cy G (ki k)) (ln k) (fun j => va_rf (some (G.1 + rf k j))))
        have h2 : H[G.1 + k]? = some (arrV (cy G (ki k)) (ln k) (fun j => va_rf (rOf G (ρ k j)))) := h1
        rw [h2]
        refine congrArg some (arrV_congr (fun j hj => ?_))
        rw [(hr k hlt j hj).2 (by omega) h15]
        rfl
theorem aw_of_ac {X : Gx → Array Value → State → Code → Prop} {l : Launch} {own : String} {cc : ByteArray} {nL : Nat} {isI : Bool} {ret : Option FieldType} {R : Room} {ce sl : Nat} {QQ : Gx → Array Value → State → List Frame → State → Prop} {pc : Nat} {L : List (Nat × Value)} {st : List Value} {ρ : Rh} {σ : Sg} (hr : refsOk ρ) (h : AVg X l own cc nL ret R ce sl QQ pc L st σ) : AWc X l own cc nL isI ret R ce sl QQ pc L st NN ρ σ := by
  intro G p e s m args below meth c H locs ls hX C hI hW hS hl
  exact h G p e s m args below meth c H locs ls hX C (hW.done hr) hS hl
theorem ac_istore {X : Gx → Array Value → State → Code → Prop} {l : Launch} {own : String} {cc : ByteArray} {nL : Nat} {isI : Bool} {ret : Option FieldType} {R : Room} {ce sl : Nat} {QQ : Gx → Array Value → State → List Frame → State → Prop} {pc : Nat} {L : List (Nat × Value)} {st : List Value} {n : Nat} {ρ : Rh} {σ : Sg} {i : Nat} {x : Int32} (L' : List (Nat × Value)) (hd : decode cc pc = .ok (.istore i, 2)) (hn : i < nL) (h : (i, Value.int x) :: L.filter (fun q : Nat × Value => !(q.1 == i) && !(q.1 + 1 == i && q.2.category == 2)) = L') (k : AWc X l own cc nL isI ret R ce sl QQ (pc + 2) L' st n ρ σ) : AWc X l own cc nL isI ret R ce sl QQ pc L (.int x :: st) n ρ σ := by
  intro G p e s m args below meth c H locs ls hX C hI hW hS hl
  obtain ⟨hx, hb, hml, hr, hlk, hown, hts, hK⟩ := id C
  exact lv_istore hx hb hd hl hn (L_st1 h) (fun ls hl => k G p e s m args below meth c H locs ls hX C hI hW hS hl)
def rho0 : Rh := fun _ _ => none
def sig0 : Sg := fun _ _ => 0
def rhoF : Rh := rho_X10 (rho_X9 rho0)
def sigF : Sg := up (up sig0 1 6 (-1)) 233 12 (-1)
theorem rhoF_c : (List.range NN).all (fun k => !(decide (ki k < 11) || (decide (14 ≤ ki k) && decide (ki k < 16))) || (decide (ln k ≤ 45) && (List.range 45).all (fun j => !decide (j < ln k) || ((!(decide (ki k < 11)) || (!(fk (ki k) j) || rhoF k j == some (rf k j))) && (decide (ki k < 11) || rhoF k j == some (rf k j)))))) = true := by decide +kernel
theorem rhoF_ok : refsOk rhoF := by
  intro k hk j hj
  have h := List.all_eq_true.mp rhoF_c k (List.mem_range.mpr hk)
  refine ⟨fun h1 h2 => ?_, fun h1 h2 => ?_⟩
  · simp only [h1, decide_true, Bool.true_or, Bool.not_true, Bool.false_or, Bool.and_eq_true, decide_eq_true_eq] at h
    have h3 := List.all_eq_true.mp h.2 j (List.mem_range.mpr (by omega))
    simpa [hj, h2] using h3
  · have h4 : ¬ ki k < 11 := by omega
    simp only [h4, h1, h2, decide_true, decide_false, Bool.true_and, Bool.false_or, Bool.not_true, Bool.and_eq_true, decide_eq_true_eq] at h
    have h3 := List.all_eq_true.mp h.2 j (List.mem_range.mpr (by omega))
    simpa [hj] using h3
set_option maxRecDepth 20000 in
set_option maxHeartbeats 4000000 in
theorem start_walk (l : Launch) (hfl : l.stackTraces = false) {Inv : Sg → Prop} (hops : Ops Inv) (h0 : Inv sigF) {L0 : Nat} (hL : L0 ≤ 2560) (xs : Nat → Int32) : AWc (XL L0 xs) l RL cL_law 7 false (some .boolean) room_1 0 0 (fun _ args s below => lw_Z below args s) 0 [(0, .retAddr 98)] [] 0 rho0 sig0 := by
  refine ac_new (pc := 0) (n := 0) kcX9 dL_law_0 lkL_8 nwX9.1 nwX9.2.1 nn_0 ki_0 nwX9.2.2 (Nat.le_of_ble_eq_true rfl) (Nat.le_of_ble_eq_true rfl) ?_
  refine ac_dup (pc := 3) (n := 1) dL_law_3 rfl ?_
  refine ac_callI (pc := 4) (n := 1) (As := []) (rest := [.ref 0]) (evc_X9 l (K := fun n π τ => 233 = n ∧ rho_X9 rho0 = π ∧ up sig0 1 6 (-1) = τ) ⟨rfl, rfl, rfl⟩) mfX9_init rfl dL_law_4 liL_15 ⟨(Nat.le_of_ble_eq_true rfl), (Nat.le_of_ble_eq_true rfl)⟩ (by decide +kernel) rfl rfl (Nat.le_of_ble_eq_true rfl) (fun n π τ q => ?_)
  obtain ⟨rfl, rfl, rfl⟩ := q
  refine ac_astore_n (pc := 7) (n := 233) (i := 1) [(1, .ref 0), (0, .retAddr 98)] dL_law_7 rfl (by decide) rfl ?_
  refine ac_new (pc := 8) (n := 233) kcX10 dL_law_8 lkL_16 nwX10.1 nwX10.2.1 nn_233 ki_233 nwX10.2.2 (Nat.le_of_ble_eq_true rfl) (Nat.le_of_ble_eq_true rfl) ?_
  refine ac_dup (pc := 11) (n := 234) dL_law_11 rfl ?_
  refine ac_callI (pc := 12) (n := 234) (As := []) (rest := [.ref 233]) (evc_X10 l (K := fun n π τ => 259 = n ∧ rhoF = π ∧ sigF = τ) ⟨rfl, rfl, rfl⟩) mfX10_init rfl dL_law_12 liL_18 ⟨(Nat.le_of_ble_eq_true rfl), (Nat.le_of_ble_eq_true rfl)⟩ (by decide +kernel) rfl rfl (Nat.le_of_ble_eq_true rfl) (fun n π τ q => ?_)
  obtain ⟨rfl, rfl, rfl⟩ := q
  refine ac_astore_n (pc := 15) (n := 259) (i := 2) [(2, .ref 233), (1, .ref 0), (0, .retAddr 98)] dL_law_15 rfl (by decide) rfl ?_
  refine ac_iconst (pc := 16) (n := 259) 1 dL_law_16 (by decide) ?_
  refine ac_newL (pc := 17) (n := 259) dL_law_17 ac_long nn_259 ki_259 ln_259 (by decide) (by decide) (Nat.le_of_ble_eq_true rfl) (Nat.le_of_ble_eq_true rfl) (Nat.le_of_ble_eq_true rfl) ?_
  refine ac_astore_n (pc := 19) (n := 260) (i := 3) [(3, .ref 259), (2, .ref 233), (1, .ref 0), (0, .retAddr 98)] dL_law_19 rfl (by decide) rfl ?_
  refine ac_iconst (pc := 20) (n := 260) 0 dL_law_20 (by decide) ?_
  refine ac_istore (pc := 21) (n := 260) [(4, .int 0), (3, .ref 259), (2, .ref 233), (1, .ref 0), (0, .retAddr 98)] dL_law_21 (by decide) rfl ?_
  refine aw_of_ac rhoF_ok ?_
  refine aw_sub (pc := 23) (L' := [(0, .retAddr 98), (1, .ref 0), (2, .ref 233), (3, .ref 259), (4, .int 0)]) [4, 3, 2, 1, 0] rfl ?_
  exact law_loop l hfl hops hL xs (L0 + 1) 0 sigF (by omega) (by omega) h0 _ _ (Nat.le_of_ble_eq_true rfl) (Nat.le_of_ble_eq_true rfl)
/-- THE LAW, from its entry, over the operations' theorems -/
theorem whole_open {p : Program} {e : Env} {s : State} {m : MethodId} {below : List Frame} {meth : Method} {c : Code} (l : Launch) (hflags : l.flags = flags0) {Inv : Sg → Prop} (hops : Ops Inv) (h0 : Inv sigF) {b L : Nat} {xs : Nat → Int32} (hL : L ≤ 2560) (C0 : lw_At p s m meth c b L xs) : W p l e room_1 s m #[Value.ref b] below meth c s.heap [] 0 0 (lw_Z below #[Value.ref b] s) (entryFrame m ([Value.ref b] : List Value).toArray 7) := by
  obtain ⟨hx, hb, hr, hml, hown, hts, hX, hbl, hlocks, hgv⟩ := id C0
  have hfl : l.stackTraces = false := by
    unfold Launch.stackTraces
    rw [hflags]
    decide +kernel
  have hs : ∀ c ∈ prL, c.before #[Value.ref b] s = true := flat_of_before _ hgv
  obtain ⟨G, g1, g2, g3, g4, hK⟩ := start_G hts hs hX hbl
  have hl := lv_entry ([.ref b]) (n := 7) (Nat.le_of_ble_eq_true rfl)
  rw [lg_entry_eq]
  refine start_walk l hfl hops h0 hL xs G p e s m #[Value.ref b] below meth c s.heap [] _ ⟨⟨g2, g3⟩, g1, by rw [g4]⟩ ⟨hx, hb, hml, hr, hlocks, hown, fun w hw => hts w (List.mem_filter.mp hw).1, hK⟩ (fun h => by cases h) ⟨fun k q h => by simp [W2] at h, by rw [g1]; rfl, fun k _ j => ⟨rfl, rfl⟩⟩ va_S.rf ?_
  have e : ([(0, Value.retAddr 98)] : List (Nat × Value)).map (tq G) = [(0, .ref b)] := by
    simp [tq, tv, g4]
  rw [e]
  exact hl
