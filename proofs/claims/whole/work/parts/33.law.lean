/-! THE CLAIM OUT OF ONE WALK OF THE LAW'S BODY. Your part is whole_start (and what it stands on); all else here is the same for every law, but numbers. -/
def R_law : String := "CupPotLaw"
def lw_P (b : Addr) (xs : List Int32) (args : Array Value) (s : State) : Prop := args = #[.ref b] ∧ s.IntsAt b xs ∧ xs.length ≤ 2560 ∧ (Jvm.Cond.and given_1 narrow_1).before args s = true
def lw_Q (_ : Array Value) (s : State) (o : Outcome) (t : State) : Prop := o = .returned (some (.int 1)) ∧ Framed s o t [] 601024 7293034
def lw_Z (below : List Frame) (a : Array Value) (s : State) : State → Prop := fun t => ∃ o, t.status = .running ∧ Ended t below o ∧ lw_Q a s o t
/-- the law's own end, with 1 on the stack, nothing written that was there before, its room as the claim has it -/
theorem lw_ret {p : Program} {l : Launch} {e : Env} {s : State} {m : MethodId} {below : List Frame} {meth : Method} {c : Code} {b : Nat} (hx : p.tables.exec = Jvm.exec) (hb : c.code = code) (hr : meth.sig.returnType = ret) (hlocks : meth.locks = false) {pc : Nat} {H : Heap} {ls : Array Slot} (hdg : decode code pc = .ok (.ireturn, 1)) : W p l e room_1 s m #[Value.ref b] below meth c H [] 601024 7293034 (lw_Z below #[Value.ref b] s) (F0 m pc ls [.int 1]) := by
  intro T hT X
  obtain ⟨fs, hret, hrun, hended, hW, hframe⟩ := X.leave (v := some (.int 1)) (hlocks := hlocks) (fun h => by rw [hr] at h; cases h)
  have hmeth' : T.vm.method? m = some meth := X.method'
  refine ⟨T.setFrames fs, ?_, .returned (some (.int 1)), hrun, hended, rfl, ⟨_, rfl⟩, hW, hframe⟩
  jvm_step X.here [X.here.top, hx, hb, hdg, hmeth', hr, ret, narrow_b1]
  (try refine ⟨rfl, ?_⟩); (try refine ⟨rfl, ?_⟩)
  first | (intro acts; rw [hret _ acts rfl rfl rfl]) | rw [hret _ _ rfl rfl rfl]
  exact Steps.refl _
/-- what holds at the law's entry: the machine, the code, the tables' words (any of lw_tbl by 'hts w (by decide +kernel)'), the script of L ints xs at the cell b, what the Statement gives of the start (any of its parts by flat_of_before) -/
def lw_At (p : Program) (s : State) (m : MethodId) (meth : Method) (c : Code) (b L : Nat) (xs : Nat → Int32) : Prop :=
  p.tables.exec = Jvm.exec ∧ c.code = code ∧ meth.sig.returnType = ret ∧ c.maxLocals = 7 ∧ s.vm.findClass R_law = some m.cls ∧ (∀ w ∈ lw_tbl, w.before #[Value.ref b] s = true) ∧ va_X b L xs s s.heap ∧ b < s.heap.size ∧ meth.locks = false ∧ (Jvm.Cond.and given_1 narrow_1).before #[Value.ref b] s = true
theorem lcmp_self (x : Int64) : lg_cmp x x = 0 := by simp [lg_cmp]
/-- what the law asks behind its own club() -/
def kClub (Inv : Sg → Prop) (x1 x2 k : Int32) (τ : Sg) : Prop := wp_X10_club x1 x2 τ (fun b υ => wp_X10_thrown υ (fun t ω => t = k ∧ (k = 0 → (ω 259 0).toInt64 = b.toInt64) ∧ Inv ω))
def Op_sign (Inv : Sg → Prop) : Prop := ∀ (σ : Sg) (x1 : Int32), Inv σ → wp_X9_sign x1 σ (fun r τ => wp_X10_sign x1 τ (fun r' υ => r = r' ∧ Inv υ))
def Op_end (Inv : Sg → Prop) : Prop := ∀ (σ : Sg) (x1 : Int32), Inv σ → wp_X9_end x1 σ (fun r τ => wp_X10_end x1 τ (fun r' υ => r = r' ∧ Inv υ))
def Op_book (Inv : Sg → Prop) : Prop := ∀ (σ : Sg), Inv σ → wp_X9_book  σ (fun r τ => wp_X10_book  τ (fun r' υ => r = r' ∧ Inv υ))
def Op_deeds (Inv : Sg → Prop) : Prop := ∀ (σ : Sg), Inv σ → wp_X9_deeds  σ (fun r τ => wp_X10_deeds  τ (fun r' υ => r = r' ∧ Inv υ))
def Op_fault (Inv : Sg → Prop) : Prop := ∀ (σ : Sg) (x1 : Int32), Inv σ → wp_X9_fault x1 σ (fun r τ => wp_X10_fault x1 τ (fun r' υ => r = r' ∧ Inv υ))
def Op_tie (Inv : Sg → Prop) : Prop := ∀ (σ : Sg) (x1 x2 x3 x4 : Int32), Inv σ → wp_X9_tie x1 x2 x3 x4 σ (fun r τ => wp_X10_tie x1 x2 x3 x4 τ (fun r' υ => r = r' ∧ Inv υ))
def Op_play (Inv : Sg → Prop) : Prop := ∀ (σ : Sg) (x1 x2 x3 : Int32), Inv σ → wp_X9_play x1 x2 x3 σ (fun r τ => wp_X10_play x1 x2 x3 τ (fun r' υ => r = r' ∧ Inv υ))
def Op_close (Inv : Sg → Prop) : Prop := ∀ (σ : Sg) (x1 x2 : Int32), Inv σ → wp_X9_close x1 x2 σ (fun r τ => wp_X10_close x1 x2 τ (fun r' υ => r = r' ∧ Inv υ))
def Op_undo (Inv : Sg → Prop) : Prop := ∀ (σ : Sg), Inv σ → wp_X9_undo  σ (fun r τ => wp_X10_undo  τ (fun r' υ => r = r' ∧ Inv υ))
def Op_keep (Inv : Sg → Prop) : Prop := ∀ (σ : Sg) (x1 : Int32), Inv σ → wp_X9_keep x1 σ (fun r τ => wp_X10_keep x1 τ (fun r' υ => r = r' ∧ Inv υ))
def Op_again (Inv : Sg → Prop) : Prop := ∀ (σ : Sg) (x1 : Int32), Inv σ → wp_X9_again x1 σ (fun r τ => wp_X10_again x1 τ (fun r' υ => r = r' ∧ Inv υ))
def Op_club (Inv : Sg → Prop) : Prop := ∀ (σ : Sg) (x1 x2 : Int32), Inv σ → wpx_club x1 x2 σ (fun r τ => kClub Inv x1 x2 0 (up τ 259 0 r)) (fun τ => kClub Inv x1 x2 1 τ)
def Op_cup (Inv : Sg → Prop) : Prop := ∀ (σ : Sg) (x1 x2 : Int32), Inv σ → wp_X9_cup x1 x2 σ (fun r τ => wp_X10_cup x1 x2 τ (fun r' υ => r = r' ∧ Inv υ))
def Op_tieOf (Inv : Sg → Prop) : Prop := ∀ (σ : Sg) (x1 x2 : Int32), Inv σ → wp_X9_tieOf x1 x2 σ (fun r τ => wp_X10_tieOf x1 x2 τ (fun r' υ => r = r' ∧ Inv υ))
def Op_game (Inv : Sg → Prop) : Prop := ∀ (σ : Sg) (x1 x2 x3 : Int32), Inv σ → wp_X9_game x1 x2 x3 σ (fun r τ => wp_X10_game x1 x2 x3 τ (fun r' υ => r = r' ∧ Inv υ))
def Op_pool (Inv : Sg → Prop) : Prop := ∀ (σ : Sg) (x1 x2 x3 : Int32), Inv σ → wp_X9_pool x1 x2 x3 σ (fun r τ => wp_X10_pool x1 x2 x3 τ (fun r' υ => r = r' ∧ Inv υ))
def Op_all (Inv : Sg → Prop) : Prop := ∀ (σ : Sg) (x1 : Int32), Inv σ → wp_X9_all x1 σ (fun r τ => wp_X10_all x1 τ (fun r' υ => r = r' ∧ Inv υ))
def Op_balance (Inv : Sg → Prop) : Prop := ∀ (σ : Sg) (x1 : Int32), Inv σ → wp_X9_balance x1 σ (fun r τ => wp_X10_balance x1 τ (fun r' υ => r = r' ∧ Inv υ))
def Op_fewest (Inv : Sg → Prop) : Prop := ∀ (σ : Sg) (x1 : Int32), Inv σ → wp_X9_fewest x1 σ (fun r τ => wp_X10_fewest x1 τ (fun r' υ => r = r' ∧ Inv υ))
def Op_pays (Inv : Sg → Prop) : Prop := ∀ (σ : Sg) (x1 x2 : Int32), Inv σ → wp_X9_pays x1 x2 σ (fun r τ => wp_X10_pays x1 x2 τ (fun r' υ => r = r' ∧ Inv υ))
def Op_mark (Inv : Sg → Prop) : Prop := ∀ (σ : Sg), Inv σ → wp_X9_mark  σ (fun r τ => wp_X10_mark  τ (fun r' υ => r = r' ∧ Inv υ))
def Op_met (Inv : Sg → Prop) : Prop := ∀ (σ : Sg) (x1 : Int32), Inv σ → wp_X9_met x1 σ (fun r τ => wp_X10_met x1 τ (fun r' υ => r = r' ∧ Inv υ))
def Op_chain (Inv : Sg → Prop) : Prop := ∀ (σ : Sg) (x1 x2 : Int32), Inv σ → wp_X9_chain x1 x2 σ (fun r τ => wp_X10_chain x1 x2 τ (fun r' υ => r = r' ∧ Inv υ))
def Op_in (Inv : Sg → Prop) : Prop := ∀ (σ : Sg) (x1 : Int32), Inv σ → wp_X9_in x1 σ (fun r τ => wp_X10_in x1 τ (fun r' υ => r = r' ∧ Inv υ))
def Op_ranked (Inv : Sg → Prop) : Prop := ∀ (σ : Sg) (x1 : Int32), Inv σ → wp_X9_ranked x1 σ (fun r τ => wp_X10_ranked x1 τ (fun r' υ => r = r' ∧ Inv υ))
def Op_bands (Inv : Sg → Prop) : Prop := ∀ (σ : Sg), Inv σ → wp_X9_bands  σ (fun r τ => wp_X10_bands  τ (fun r' υ => r = r' ∧ Inv υ))
def Op_brings (Inv : Sg → Prop) : Prop := ∀ (σ : Sg) (x1 x2 x3 : Int32), Inv σ → wp_X9_brings x1 x2 x3 σ (fun r τ => wp_X10_brings x1 x2 x3 τ (fun r' υ => r = r' ∧ Inv υ))
def Op_least (Inv : Sg → Prop) : Prop := ∀ (σ : Sg) (x1 x2 x3 : Int32), Inv σ → wp_X9_least x1 x2 x3 σ (fun r τ => wp_X10_least x1 x2 x3 τ (fun r' υ => r = r' ∧ Inv υ))
def Op_byCup (Inv : Sg → Prop) : Prop := ∀ (σ : Sg) (x1 x2 x3 : Int32), Inv σ → wp_X9_byCup x1 x2 x3 σ (fun r τ => wp_X10_byCup x1 x2 x3 τ (fun r' υ => r = r' ∧ Inv υ))
def Op_fairest (Inv : Sg → Prop) : Prop := ∀ (σ : Sg) (x1 : Int32), Inv σ → wp_X9_fairest x1 σ (fun r τ => wp_X10_fairest x1 τ (fun r' υ => r = r' ∧ Inv υ))
def Op_tempt (Inv : Sg → Prop) : Prop := ∀ (σ : Sg) (x1 x2 x3 : Int32), Inv σ → wp_X9_tempt x1 x2 x3 σ (fun r τ => wp_X10_tempt x1 x2 x3 τ (fun r' υ => r = r' ∧ Inv υ))
def Op_ifGate (Inv : Sg → Prop) : Prop := ∀ (σ : Sg) (x1 x2 x3 : Int32), Inv σ → wp_X9_ifGate x1 x2 x3 σ (fun r τ => wp_X10_ifGate x1 x2 x3 τ (fun r' υ => r = r' ∧ Inv υ))
def Op_count (Inv : Sg → Prop) : Prop := ∀ (σ : Sg) (x1 : Int32), Inv σ → wp_X9_count x1 σ (fun r τ => wp_X10_count x1 τ (fun r' υ => r = r' ∧ Inv υ))
def Ops (Inv : Sg → Prop) : Prop := Op_sign Inv ∧ Op_end Inv ∧ Op_book Inv ∧ Op_deeds Inv ∧ Op_fault Inv ∧ Op_tie Inv ∧ Op_play Inv ∧ Op_close Inv ∧ Op_undo Inv ∧ Op_keep Inv ∧ Op_again Inv ∧ Op_club Inv ∧ Op_cup Inv ∧ Op_tieOf Inv ∧ Op_game Inv ∧ Op_pool Inv ∧ Op_all Inv ∧ Op_balance Inv ∧ Op_fewest Inv ∧ Op_pays Inv ∧ Op_mark Inv ∧ Op_met Inv ∧ Op_chain Inv ∧ Op_in Inv ∧ Op_ranked Inv ∧ Op_bands Inv ∧ Op_brings Inv ∧ Op_least Inv ∧ Op_byCup Inv ∧ Op_fairest Inv ∧ Op_tempt Inv ∧ Op_ifGate Inv ∧ Op_count Inv
def XL (L0 : Nat) (xs : Nat → Int32) : Gx → Array Value → State → Code → Prop := fun G args s _ => (gL G = L0 ∧ gxs G = xs) ∧ G.1 = s.heap.size ∧ args = #[Value.ref (sad G 98)]
abbrev AVL (l : Launch) (L0 : Nat) (xs : Nat → Int32) (ce sl pc : Nat) (L : List (Nat × Value)) (st : List Value) (σ : Sg) : Prop :=
  AVg (XL L0 xs) l RL cL_law 7 (some .boolean) room_1 ce sl (fun _ args s below => lw_Z below args s) pc L st σ
def LL (y : Int32) : List (Nat × Value) := [(0, .retAddr 98), (1, .ref 0), (2, .ref 233), (3, .ref 259), (4, .int y)]
set_option maxRecDepth 20000 in
set_option maxHeartbeats 2000000 in
theorem law_sign (l : Launch) (hfl : l.stackTraces = false) {Inv : Sg → Prop} {L0 i : Nat} {xs : Nat → Int32} {y : Int32} {ce sl : Nat} (hXs : ∀ G args s c, XL L0 xs G args s c → gL G = L0 ∧ gxs G = xs) (hin : ∀ j : Nat, j < 5 → vp_in (y + Int32.ofNat j) L0) (hjx : ∀ j : Nat, j < 5 → (y + Int32.ofNat j).toNatClampNeg = i + j) (hce : ce ≤ room_1.cells ∧ sl ≤ room_1.slots) {σ : Sg} (hI : Inv σ) (hop : Op_sign Inv) (nx : ∀ υ, Inv υ → AVL l L0 xs ce sl 1281 [(0, .retAddr 98), (1, .ref 0), (2, .ref 233), (3, .ref 259), (4, .int y)] [] υ) : AVL l L0 xs ce sl 184 [(0, .retAddr 98), (1, .ref 0), (2, .ref 233), (3, .ref 259), (4, .int y)] [] σ := by
  have h := hop σ (xs (i + 1)) hI
  refine aw_aload_n (pc := 184) 1 dL_law_184 rfl ?_
  refine aw_aload_nS (pc := 185) 0 (by decide) dL_law_185 rfl ?_
  refine aw_iload (pc := 186) 4 dL_law_186 rfl ?_
  refine aw_iconst (pc := 188) 1 dL_law_188 (by decide) ?_
  refine aw_iadd (pc := 189) dL_law_189 ?_
  refine aw_xld (pc := 190) (j := i + 1) hXs dL_law_190 (hin 1 (by decide)) (hjx 1 (by decide)) ?_
  refine aw_callV (pc := 191) (As := [.int (xs (i + 1))]) (rest := []) kcX9 nn_0 ki_0 rfl (ev_X9_sign l (xs (i + 1)) h) mfX9_sign dL_law_191 lmL_19 hce (by decide +kernel) rfl rfl (Nat.le_of_ble_eq_true rfl) (nxI (fun r τ h => ?_))
  refine aw_aload_n (pc := 194) 2 dL_law_194 rfl ?_
  refine aw_aload_nS (pc := 195) 0 (by decide) dL_law_195 rfl ?_
  refine aw_iload (pc := 196) 4 dL_law_196 rfl ?_
  refine aw_iconst (pc := 198) 1 dL_law_198 (by decide) ?_
  refine aw_iadd (pc := 199) dL_law_199 ?_
  refine aw_xld (pc := 200) (j := i + 1) hXs dL_law_200 (hin 1 (by decide)) (hjx 1 (by decide)) ?_
  refine aw_callV (pc := 201) (As := [.int (xs (i + 1))]) (rest := [.int r]) kcX10 nn_233 ki_233 rfl (ev_X10_sign l (xs (i + 1)) h) mfX10_sign dL_law_201 lmL_23 hce (by decide +kernel) rfl rfl (Nat.le_of_ble_eq_true rfl) (nxI (fun r' υ h => ?_))
  refine aw_icmp_eq (pc := 204) 1281 dL_law_204 (by decide) (fun q => ?_) (fun q => absurd h.1 q)
  exact nx υ h.2
set_option maxRecDepth 20000 in
set_option maxHeartbeats 2000000 in
theorem law_end (l : Launch) (hfl : l.stackTraces = false) {Inv : Sg → Prop} {L0 i : Nat} {xs : Nat → Int32} {y : Int32} {ce sl : Nat} (hXs : ∀ G args s c, XL L0 xs G args s c → gL G = L0 ∧ gxs G = xs) (hin : ∀ j : Nat, j < 5 → vp_in (y + Int32.ofNat j) L0) (hjx : ∀ j : Nat, j < 5 → (y + Int32.ofNat j).toNatClampNeg = i + j) (hce : ce ≤ room_1.cells ∧ sl ≤ room_1.slots) {σ : Sg} (hI : Inv σ) (hop : Op_end Inv) (nx : ∀ υ, Inv υ → AVL l L0 xs ce sl 1281 [(0, .retAddr 98), (1, .ref 0), (2, .ref 233), (3, .ref 259), (4, .int y)] [] υ) : AVL l L0 xs ce sl 209 [(0, .retAddr 98), (1, .ref 0), (2, .ref 233), (3, .ref 259), (4, .int y)] [] σ := by
  have h := hop σ (xs (i + 1)) hI
  refine aw_aload_n (pc := 209) 1 dL_law_209 rfl ?_
  refine aw_aload_nS (pc := 210) 0 (by decide) dL_law_210 rfl ?_
  refine aw_iload (pc := 211) 4 dL_law_211 rfl ?_
  refine aw_iconst (pc := 213) 1 dL_law_213 (by decide) ?_
  refine aw_iadd (pc := 214) dL_law_214 ?_
  refine aw_xld (pc := 215) (j := i + 1) hXs dL_law_215 (hin 1 (by decide)) (hjx 1 (by decide)) ?_
  refine aw_callV (pc := 216) (As := [.int (xs (i + 1))]) (rest := []) kcX9 nn_0 ki_0 rfl (ev_X9_end l (xs (i + 1)) h) mfX9_end dL_law_216 lmL_24 hce (by decide +kernel) rfl rfl (Nat.le_of_ble_eq_true rfl) (nxI (fun r τ h => ?_))
  refine aw_aload_n (pc := 219) 2 dL_law_219 rfl ?_
  refine aw_aload_nS (pc := 220) 0 (by decide) dL_law_220 rfl ?_
  refine aw_iload (pc := 221) 4 dL_law_221 rfl ?_
  refine aw_iconst (pc := 223) 1 dL_law_223 (by decide) ?_
  refine aw_iadd (pc := 224) dL_law_224 ?_
  refine aw_xld (pc := 225) (j := i + 1) hXs dL_law_225 (hin 1 (by decide)) (hjx 1 (by decide)) ?_
  refine aw_callV (pc := 226) (As := [.int (xs (i + 1))]) (rest := [.int r]) kcX10 nn_233 ki_233 rfl (ev_X10_end l (xs (i + 1)) h) mfX10_end dL_law_226 lmL_28 hce (by decide +kernel) rfl rfl (Nat.le_of_ble_eq_true rfl) (nxI (fun r' υ h => ?_))
  refine aw_icmp_eq (pc := 229) 1281 dL_law_229 (by decide) (fun q => ?_) (fun q => absurd h.1 q)
  exact nx υ h.2
set_option maxRecDepth 20000 in
set_option maxHeartbeats 2000000 in
theorem law_book (l : Launch) (hfl : l.stackTraces = false) {Inv : Sg → Prop} {L0 i : Nat} {xs : Nat → Int32} {y : Int32} {ce sl : Nat} (hXs : ∀ G args s c, XL L0 xs G args s c → gL G = L0 ∧ gxs G = xs) (hin : ∀ j : Nat, j < 5 → vp_in (y + Int32.ofNat j) L0) (hjx : ∀ j : Nat, j < 5 → (y + Int32.ofNat j).toNatClampNeg = i + j) (hce : ce ≤ room_1.cells ∧ sl ≤ room_1.slots) {σ : Sg} (hI : Inv σ) (hop : Op_book Inv) (nx : ∀ υ, Inv υ → AVL l L0 xs ce sl 1281 [(0, .retAddr 98), (1, .ref 0), (2, .ref 233), (3, .ref 259), (4, .int y)] [] υ) : AVL l L0 xs ce sl 234 [(0, .retAddr 98), (1, .ref 0), (2, .ref 233), (3, .ref 259), (4, .int y)] [] σ := by
  have h := hop σ  hI
  refine aw_aload_n (pc := 234) 1 dL_law_234 rfl ?_
  refine aw_callV (pc := 235) (As := []) (rest := []) kcX9 nn_0 ki_0 rfl (ev_X9_book l  h) mfX9_book dL_law_235 lmL_29 hce (by decide +kernel) rfl rfl (Nat.le_of_ble_eq_true rfl) (nxI (fun r τ h => ?_))
  refine aw_aload_n (pc := 238) 2 dL_law_238 rfl ?_
  refine aw_callV (pc := 239) (As := []) (rest := [.int r]) kcX10 nn_233 ki_233 rfl (ev_X10_book l  h) mfX10_book dL_law_239 lmL_33 hce (by decide +kernel) rfl rfl (Nat.le_of_ble_eq_true rfl) (nxI (fun r' υ h => ?_))
  refine aw_icmp_eq (pc := 242) 1281 dL_law_242 (by decide) (fun q => ?_) (fun q => absurd h.1 q)
  exact nx υ h.2
set_option maxRecDepth 20000 in
set_option maxHeartbeats 2000000 in
theorem law_deeds (l : Launch) (hfl : l.stackTraces = false) {Inv : Sg → Prop} {L0 i : Nat} {xs : Nat → Int32} {y : Int32} {ce sl : Nat} (hXs : ∀ G args s c, XL L0 xs G args s c → gL G = L0 ∧ gxs G = xs) (hin : ∀ j : Nat, j < 5 → vp_in (y + Int32.ofNat j) L0) (hjx : ∀ j : Nat, j < 5 → (y + Int32.ofNat j).toNatClampNeg = i + j) (hce : ce ≤ room_1.cells ∧ sl ≤ room_1.slots) {σ : Sg} (hI : Inv σ) (hop : Op_deeds Inv) (nx : ∀ υ, Inv υ → AVL l L0 xs ce sl 1281 [(0, .retAddr 98), (1, .ref 0), (2, .ref 233), (3, .ref 259), (4, .int y)] [] υ) : AVL l L0 xs ce sl 247 [(0, .retAddr 98), (1, .ref 0), (2, .ref 233), (3, .ref 259), (4, .int y)] [] σ := by
  have h := hop σ  hI
  refine aw_aload_n (pc := 247) 1 dL_law_247 rfl ?_
  refine aw_callV (pc := 248) (As := []) (rest := []) kcX9 nn_0 ki_0 rfl (ev_X9_deeds l  h) mfX9_deeds dL_law_248 lmL_34 hce (by decide +kernel) rfl rfl (Nat.le_of_ble_eq_true rfl) (nxI (fun r τ h => ?_))
  refine aw_aload_n (pc := 251) 2 dL_law_251 rfl ?_
  refine aw_callV (pc := 252) (As := []) (rest := [.int r]) kcX10 nn_233 ki_233 rfl (ev_X10_deeds l  h) mfX10_deeds dL_law_252 lmL_37 hce (by decide +kernel) rfl rfl (Nat.le_of_ble_eq_true rfl) (nxI (fun r' υ h => ?_))
  refine aw_icmp_eq (pc := 255) 1281 dL_law_255 (by decide) (fun q => ?_) (fun q => absurd h.1 q)
  exact nx υ h.2
set_option maxRecDepth 20000 in
set_option maxHeartbeats 2000000 in
theorem law_fault (l : Launch) (hfl : l.stackTraces = false) {Inv : Sg → Prop} {L0 i : Nat} {xs : Nat → Int32} {y : Int32} {ce sl : Nat} (hXs : ∀ G args s c, XL L0 xs G args s c → gL G = L0 ∧ gxs G = xs) (hin : ∀ j : Nat, j < 5 → vp_in (y + Int32.ofNat j) L0) (hjx : ∀ j : Nat, j < 5 → (y + Int32.ofNat j).toNatClampNeg = i + j) (hce : ce ≤ room_1.cells ∧ sl ≤ room_1.slots) {σ : Sg} (hI : Inv σ) (hop : Op_fault Inv) (nx : ∀ υ, Inv υ → AVL l L0 xs ce sl 1281 [(0, .retAddr 98), (1, .ref 0), (2, .ref 233), (3, .ref 259), (4, .int y)] [] υ) : AVL l L0 xs ce sl 260 [(0, .retAddr 98), (1, .ref 0), (2, .ref 233), (3, .ref 259), (4, .int y)] [] σ := by
  have h := hop σ (xs (i + 1)) hI
  refine aw_aload_n (pc := 260) 1 dL_law_260 rfl ?_
  refine aw_aload_nS (pc := 261) 0 (by decide) dL_law_261 rfl ?_
  refine aw_iload (pc := 262) 4 dL_law_262 rfl ?_
  refine aw_iconst (pc := 264) 1 dL_law_264 (by decide) ?_
  refine aw_iadd (pc := 265) dL_law_265 ?_
  refine aw_xld (pc := 266) (j := i + 1) hXs dL_law_266 (hin 1 (by decide)) (hjx 1 (by decide)) ?_
  refine aw_callV (pc := 267) (As := [.int (xs (i + 1))]) (rest := []) kcX9 nn_0 ki_0 rfl (ev_X9_fault l (xs (i + 1)) h) mfX9_fault dL_law_267 lmL_38 hce (by decide +kernel) rfl rfl (Nat.le_of_ble_eq_true rfl) (nxI (fun r τ h => ?_))
  refine aw_aload_n (pc := 270) 2 dL_law_270 rfl ?_
  refine aw_aload_nS (pc := 271) 0 (by decide) dL_law_271 rfl ?_
  refine aw_iload (pc := 272) 4 dL_law_272 rfl ?_
  refine aw_iconst (pc := 274) 1 dL_law_274 (by decide) ?_
  refine aw_iadd (pc := 275) dL_law_275 ?_
  refine aw_xld (pc := 276) (j := i + 1) hXs dL_law_276 (hin 1 (by decide)) (hjx 1 (by decide)) ?_
  refine aw_callV (pc := 277) (As := [.int (xs (i + 1))]) (rest := [.int r]) kcX10 nn_233 ki_233 rfl (ev_X10_fault l (xs (i + 1)) h) mfX10_fault dL_law_277 lmL_41 hce (by decide +kernel) rfl rfl (Nat.le_of_ble_eq_true rfl) (nxI (fun r' υ h => ?_))
  refine aw_icmp_eq (pc := 280) 1281 dL_law_280 (by decide) (fun q => ?_) (fun q => absurd h.1 q)
  exact nx υ h.2
set_option maxRecDepth 20000 in
set_option maxHeartbeats 2000000 in
theorem law_tie (l : Launch) (hfl : l.stackTraces = false) {Inv : Sg → Prop} {L0 i : Nat} {xs : Nat → Int32} {y : Int32} {ce sl : Nat} (hXs : ∀ G args s c, XL L0 xs G args s c → gL G = L0 ∧ gxs G = xs) (hin : ∀ j : Nat, j < 5 → vp_in (y + Int32.ofNat j) L0) (hjx : ∀ j : Nat, j < 5 → (y + Int32.ofNat j).toNatClampNeg = i + j) (hce : ce ≤ room_1.cells ∧ sl ≤ room_1.slots) {σ : Sg} (hI : Inv σ) (hop : Op_tie Inv) (nx : ∀ υ, Inv υ → AVL l L0 xs ce sl 1281 [(0, .retAddr 98), (1, .ref 0), (2, .ref 233), (3, .ref 259), (4, .int y)] [] υ) : AVL l L0 xs ce sl 285 [(0, .retAddr 98), (1, .ref 0), (2, .ref 233), (3, .ref 259), (4, .int y)] [] σ := by
  have h := hop σ (xs (i + 1)) (xs (i + 2)) (xs (i + 3)) (xs (i + 4)) hI
  refine aw_aload_n (pc := 285) 1 dL_law_285 rfl ?_
  refine aw_aload_nS (pc := 286) 0 (by decide) dL_law_286 rfl ?_
  refine aw_iload (pc := 287) 4 dL_law_287 rfl ?_
  refine aw_iconst (pc := 289) 1 dL_law_289 (by decide) ?_
  refine aw_iadd (pc := 290) dL_law_290 ?_
  refine aw_xld (pc := 291) (j := i + 1) hXs dL_law_291 (hin 1 (by decide)) (hjx 1 (by decide)) ?_
  refine aw_aload_nS (pc := 292) 0 (by decide) dL_law_292 rfl ?_
  refine aw_iload (pc := 293) 4 dL_law_293 rfl ?_
  refine aw_iconst (pc := 295) 2 dL_law_295 (by decide) ?_
  refine aw_iadd (pc := 296) dL_law_296 ?_
  refine aw_xld (pc := 297) (j := i + 2) hXs dL_law_297 (hin 2 (by decide)) (hjx 2 (by decide)) ?_
  refine aw_aload_nS (pc := 298) 0 (by decide) dL_law_298 rfl ?_
  refine aw_iload (pc := 299) 4 dL_law_299 rfl ?_
  refine aw_iconst (pc := 301) 3 dL_law_301 (by decide) ?_
  refine aw_iadd (pc := 302) dL_law_302 ?_
  refine aw_xld (pc := 303) (j := i + 3) hXs dL_law_303 (hin 3 (by decide)) (hjx 3 (by decide)) ?_
  refine aw_aload_nS (pc := 304) 0 (by decide) dL_law_304 rfl ?_
  refine aw_iload (pc := 305) 4 dL_law_305 rfl ?_
  refine aw_iconst (pc := 307) 4 dL_law_307 (by decide) ?_
  refine aw_iadd (pc := 308) dL_law_308 ?_
  refine aw_xld (pc := 309) (j := i + 4) hXs dL_law_309 (hin 4 (by decide)) (hjx 4 (by decide)) ?_
  refine aw_callV (pc := 310) (As := [.int (xs (i + 1)), .int (xs (i + 2)), .int (xs (i + 3)), .int (xs (i + 4))]) (rest := []) kcX9 nn_0 ki_0 rfl (ev_X9_tie l (xs (i + 1)) (xs (i + 2)) (xs (i + 3)) (xs (i + 4)) h) mfX9_tie dL_law_310 lmL_42 hce (by decide +kernel) rfl rfl (Nat.le_of_ble_eq_true rfl) (nxI (fun r τ h => ?_))
  refine aw_aload_n (pc := 313) 2 dL_law_313 rfl ?_
  refine aw_aload_nS (pc := 314) 0 (by decide) dL_law_314 rfl ?_
  refine aw_iload (pc := 315) 4 dL_law_315 rfl ?_
  refine aw_iconst (pc := 317) 1 dL_law_317 (by decide) ?_
  refine aw_iadd (pc := 318) dL_law_318 ?_
  refine aw_xld (pc := 319) (j := i + 1) hXs dL_law_319 (hin 1 (by decide)) (hjx 1 (by decide)) ?_
  refine aw_aload_nS (pc := 320) 0 (by decide) dL_law_320 rfl ?_
  refine aw_iload (pc := 321) 4 dL_law_321 rfl ?_
  refine aw_iconst (pc := 323) 2 dL_law_323 (by decide) ?_
  refine aw_iadd (pc := 324) dL_law_324 ?_
  refine aw_xld (pc := 325) (j := i + 2) hXs dL_law_325 (hin 2 (by decide)) (hjx 2 (by decide)) ?_
  refine aw_aload_nS (pc := 326) 0 (by decide) dL_law_326 rfl ?_
  refine aw_iload (pc := 327) 4 dL_law_327 rfl ?_
  refine aw_iconst (pc := 329) 3 dL_law_329 (by decide) ?_
  refine aw_iadd (pc := 330) dL_law_330 ?_
  refine aw_xld (pc := 331) (j := i + 3) hXs dL_law_331 (hin 3 (by decide)) (hjx 3 (by decide)) ?_
  refine aw_aload_nS (pc := 332) 0 (by decide) dL_law_332 rfl ?_
  refine aw_iload (pc := 333) 4 dL_law_333 rfl ?_
  refine aw_iconst (pc := 335) 4 dL_law_335 (by decide) ?_
  refine aw_iadd (pc := 336) dL_law_336 ?_
  refine aw_xld (pc := 337) (j := i + 4) hXs dL_law_337 (hin 4 (by decide)) (hjx 4 (by decide)) ?_
  refine aw_callV (pc := 338) (As := [.int (xs (i + 1)), .int (xs (i + 2)), .int (xs (i + 3)), .int (xs (i + 4))]) (rest := [.int r]) kcX10 nn_233 ki_233 rfl (ev_X10_tie l (xs (i + 1)) (xs (i + 2)) (xs (i + 3)) (xs (i + 4)) h) mfX10_tie dL_law_338 lmL_46 hce (by decide +kernel) rfl rfl (Nat.le_of_ble_eq_true rfl) (nxI (fun r' υ h => ?_))
  refine aw_icmp_eq (pc := 341) 1281 dL_law_341 (by decide) (fun q => ?_) (fun q => absurd h.1 q)
  exact nx υ h.2
set_option maxRecDepth 20000 in
set_option maxHeartbeats 2000000 in
theorem law_play (l : Launch) (hfl : l.stackTraces = false) {Inv : Sg → Prop} {L0 i : Nat} {xs : Nat → Int32} {y : Int32} {ce sl : Nat} (hXs : ∀ G args s c, XL L0 xs G args s c → gL G = L0 ∧ gxs G = xs) (hin : ∀ j : Nat, j < 5 → vp_in (y + Int32.ofNat j) L0) (hjx : ∀ j : Nat, j < 5 → (y + Int32.ofNat j).toNatClampNeg = i + j) (hce : ce ≤ room_1.cells ∧ sl ≤ room_1.slots) {σ : Sg} (hI : Inv σ) (hop : Op_play Inv) (nx : ∀ υ, Inv υ → AVL l L0 xs ce sl 1281 [(0, .retAddr 98), (1, .ref 0), (2, .ref 233), (3, .ref 259), (4, .int y)] [] υ) : AVL l L0 xs ce sl 346 [(0, .retAddr 98), (1, .ref 0), (2, .ref 233), (3, .ref 259), (4, .int y)] [] σ := by
  have h := hop σ (xs (i + 1)) (xs (i + 2)) (xs (i + 3)) hI
  refine aw_aload_n (pc := 346) 1 dL_law_346 rfl ?_
  refine aw_aload_nS (pc := 347) 0 (by decide) dL_law_347 rfl ?_
  refine aw_iload (pc := 348) 4 dL_law_348 rfl ?_
  refine aw_iconst (pc := 350) 1 dL_law_350 (by decide) ?_
  refine aw_iadd (pc := 351) dL_law_351 ?_
  refine aw_xld (pc := 352) (j := i + 1) hXs dL_law_352 (hin 1 (by decide)) (hjx 1 (by decide)) ?_
  refine aw_aload_nS (pc := 353) 0 (by decide) dL_law_353 rfl ?_
  refine aw_iload (pc := 354) 4 dL_law_354 rfl ?_
  refine aw_iconst (pc := 356) 2 dL_law_356 (by decide) ?_
  refine aw_iadd (pc := 357) dL_law_357 ?_
  refine aw_xld (pc := 358) (j := i + 2) hXs dL_law_358 (hin 2 (by decide)) (hjx 2 (by decide)) ?_
  refine aw_aload_nS (pc := 359) 0 (by decide) dL_law_359 rfl ?_
  refine aw_iload (pc := 360) 4 dL_law_360 rfl ?_
  refine aw_iconst (pc := 362) 3 dL_law_362 (by decide) ?_
  refine aw_iadd (pc := 363) dL_law_363 ?_
  refine aw_xld (pc := 364) (j := i + 3) hXs dL_law_364 (hin 3 (by decide)) (hjx 3 (by decide)) ?_
  refine aw_callV (pc := 365) (As := [.int (xs (i + 1)), .int (xs (i + 2)), .int (xs (i + 3))]) (rest := []) kcX9 nn_0 ki_0 rfl (ev_X9_play l (xs (i + 1)) (xs (i + 2)) (xs (i + 3)) h) mfX9_play dL_law_365 lmL_47 hce (by decide +kernel) rfl rfl (Nat.le_of_ble_eq_true rfl) (nxI (fun r τ h => ?_))
  refine aw_aload_n (pc := 368) 2 dL_law_368 rfl ?_
  refine aw_aload_nS (pc := 369) 0 (by decide) dL_law_369 rfl ?_
  refine aw_iload (pc := 370) 4 dL_law_370 rfl ?_
  refine aw_iconst (pc := 372) 1 dL_law_372 (by decide) ?_
  refine aw_iadd (pc := 373) dL_law_373 ?_
  refine aw_xld (pc := 374) (j := i + 1) hXs dL_law_374 (hin 1 (by decide)) (hjx 1 (by decide)) ?_
  refine aw_aload_nS (pc := 375) 0 (by decide) dL_law_375 rfl ?_
  refine aw_iload (pc := 376) 4 dL_law_376 rfl ?_
  refine aw_iconst (pc := 378) 2 dL_law_378 (by decide) ?_
  refine aw_iadd (pc := 379) dL_law_379 ?_
  refine aw_xld (pc := 380) (j := i + 2) hXs dL_law_380 (hin 2 (by decide)) (hjx 2 (by decide)) ?_
  refine aw_aload_nS (pc := 381) 0 (by decide) dL_law_381 rfl ?_
  refine aw_iload (pc := 382) 4 dL_law_382 rfl ?_
  refine aw_iconst (pc := 384) 3 dL_law_384 (by decide) ?_
  refine aw_iadd (pc := 385) dL_law_385 ?_
  refine aw_xld (pc := 386) (j := i + 3) hXs dL_law_386 (hin 3 (by decide)) (hjx 3 (by decide)) ?_
  refine aw_callV (pc := 387) (As := [.int (xs (i + 1)), .int (xs (i + 2)), .int (xs (i + 3))]) (rest := [.int r]) kcX10 nn_233 ki_233 rfl (ev_X10_play l (xs (i + 1)) (xs (i + 2)) (xs (i + 3)) h) mfX10_play dL_law_387 lmL_51 hce (by decide +kernel) rfl rfl (Nat.le_of_ble_eq_true rfl) (nxI (fun r' υ h => ?_))
  refine aw_icmp_eq (pc := 390) 1281 dL_law_390 (by decide) (fun q => ?_) (fun q => absurd h.1 q)
  exact nx υ h.2
set_option maxRecDepth 20000 in
set_option maxHeartbeats 2000000 in
theorem law_close (l : Launch) (hfl : l.stackTraces = false) {Inv : Sg → Prop} {L0 i : Nat} {xs : Nat → Int32} {y : Int32} {ce sl : Nat} (hXs : ∀ G args s c, XL L0 xs G args s c → gL G = L0 ∧ gxs G = xs) (hin : ∀ j : Nat, j < 5 → vp_in (y + Int32.ofNat j) L0) (hjx : ∀ j : Nat, j < 5 → (y + Int32.ofNat j).toNatClampNeg = i + j) (hce : ce ≤ room_1.cells ∧ sl ≤ room_1.slots) {σ : Sg} (hI : Inv σ) (hop : Op_close Inv) (nx : ∀ υ, Inv υ → AVL l L0 xs ce sl 1281 [(0, .retAddr 98), (1, .ref 0), (2, .ref 233), (3, .ref 259), (4, .int y)] [] υ) : AVL l L0 xs ce sl 395 [(0, .retAddr 98), (1, .ref 0), (2, .ref 233), (3, .ref 259), (4, .int y)] [] σ := by
  have h := hop σ (xs (i + 1)) (xs (i + 2)) hI
  refine aw_aload_n (pc := 395) 1 dL_law_395 rfl ?_
  refine aw_aload_nS (pc := 396) 0 (by decide) dL_law_396 rfl ?_
  refine aw_iload (pc := 397) 4 dL_law_397 rfl ?_
  refine aw_iconst (pc := 399) 1 dL_law_399 (by decide) ?_
  refine aw_iadd (pc := 400) dL_law_400 ?_
  refine aw_xld (pc := 401) (j := i + 1) hXs dL_law_401 (hin 1 (by decide)) (hjx 1 (by decide)) ?_
  refine aw_aload_nS (pc := 402) 0 (by decide) dL_law_402 rfl ?_
  refine aw_iload (pc := 403) 4 dL_law_403 rfl ?_
  refine aw_iconst (pc := 405) 2 dL_law_405 (by decide) ?_
  refine aw_iadd (pc := 406) dL_law_406 ?_
  refine aw_xld (pc := 407) (j := i + 2) hXs dL_law_407 (hin 2 (by decide)) (hjx 2 (by decide)) ?_
  refine aw_callV (pc := 408) (As := [.int (xs (i + 1)), .int (xs (i + 2))]) (rest := []) kcX9 nn_0 ki_0 rfl (ev_X9_close l (xs (i + 1)) (xs (i + 2)) h) mfX9_close dL_law_408 lmL_52 hce (by decide +kernel) rfl rfl (Nat.le_of_ble_eq_true rfl) (nxI (fun r τ h => ?_))
  refine aw_aload_n (pc := 411) 2 dL_law_411 rfl ?_
  refine aw_aload_nS (pc := 412) 0 (by decide) dL_law_412 rfl ?_
  refine aw_iload (pc := 413) 4 dL_law_413 rfl ?_
  refine aw_iconst (pc := 415) 1 dL_law_415 (by decide) ?_
  refine aw_iadd (pc := 416) dL_law_416 ?_
  refine aw_xld (pc := 417) (j := i + 1) hXs dL_law_417 (hin 1 (by decide)) (hjx 1 (by decide)) ?_
  refine aw_aload_nS (pc := 418) 0 (by decide) dL_law_418 rfl ?_
  refine aw_iload (pc := 419) 4 dL_law_419 rfl ?_
  refine aw_iconst (pc := 421) 2 dL_law_421 (by decide) ?_
  refine aw_iadd (pc := 422) dL_law_422 ?_
  refine aw_xld (pc := 423) (j := i + 2) hXs dL_law_423 (hin 2 (by decide)) (hjx 2 (by decide)) ?_
  refine aw_callV (pc := 424) (As := [.int (xs (i + 1)), .int (xs (i + 2))]) (rest := [.int r]) kcX10 nn_233 ki_233 rfl (ev_X10_close l (xs (i + 1)) (xs (i + 2)) h) mfX10_close dL_law_424 lmL_55 hce (by decide +kernel) rfl rfl (Nat.le_of_ble_eq_true rfl) (nxI (fun r' υ h => ?_))
  refine aw_icmp_eq (pc := 427) 1281 dL_law_427 (by decide) (fun q => ?_) (fun q => absurd h.1 q)
  exact nx υ h.2
set_option maxRecDepth 20000 in
set_option maxHeartbeats 2000000 in
theorem law_undo (l : Launch) (hfl : l.stackTraces = false) {Inv : Sg → Prop} {L0 i : Nat} {xs : Nat → Int32} {y : Int32} {ce sl : Nat} (hXs : ∀ G args s c, XL L0 xs G args s c → gL G = L0 ∧ gxs G = xs) (hin : ∀ j : Nat, j < 5 → vp_in (y + Int32.ofNat j) L0) (hjx : ∀ j : Nat, j < 5 → (y + Int32.ofNat j).toNatClampNeg = i + j) (hce : ce ≤ room_1.cells ∧ sl ≤ room_1.slots) {σ : Sg} (hI : Inv σ) (hop : Op_undo Inv) (nx : ∀ υ, Inv υ → AVL l L0 xs ce sl 1281 [(0, .retAddr 98), (1, .ref 0), (2, .ref 233), (3, .ref 259), (4, .int y)] [] υ) : AVL l L0 xs ce sl 432 [(0, .retAddr 98), (1, .ref 0), (2, .ref 233), (3, .ref 259), (4, .int y)] [] σ := by
  have h := hop σ  hI
  refine aw_aload_n (pc := 432) 1 dL_law_432 rfl ?_
  refine aw_callV (pc := 433) (As := []) (rest := []) kcX9 nn_0 ki_0 rfl (ev_X9_undo l  h) mfX9_undo dL_law_433 lmL_56 hce (by decide +kernel) rfl rfl (Nat.le_of_ble_eq_true rfl) (nxI (fun r τ h => ?_))
  refine aw_aload_n (pc := 436) 2 dL_law_436 rfl ?_
  refine aw_callV (pc := 437) (As := []) (rest := [.int r]) kcX10 nn_233 ki_233 rfl (ev_X10_undo l  h) mfX10_undo dL_law_437 lmL_59 hce (by decide +kernel) rfl rfl (Nat.le_of_ble_eq_true rfl) (nxI (fun r' υ h => ?_))
  refine aw_icmp_eq (pc := 440) 1281 dL_law_440 (by decide) (fun q => ?_) (fun q => absurd h.1 q)
  exact nx υ h.2
set_option maxRecDepth 20000 in
set_option maxHeartbeats 2000000 in
theorem law_keep (l : Launch) (hfl : l.stackTraces = false) {Inv : Sg → Prop} {L0 i : Nat} {xs : Nat → Int32} {y : Int32} {ce sl : Nat} (hXs : ∀ G args s c, XL L0 xs G args s c → gL G = L0 ∧ gxs G = xs) (hin : ∀ j : Nat, j < 5 → vp_in (y + Int32.ofNat j) L0) (hjx : ∀ j : Nat, j < 5 → (y + Int32.ofNat j).toNatClampNeg = i + j) (hce : ce ≤ room_1.cells ∧ sl ≤ room_1.slots) {σ : Sg} (hI : Inv σ) (hop : Op_keep Inv) (nx : ∀ υ, Inv υ → AVL l L0 xs ce sl 1281 [(0, .retAddr 98), (1, .ref 0), (2, .ref 233), (3, .ref 259), (4, .int y)] [] υ) : AVL l L0 xs ce sl 445 [(0, .retAddr 98), (1, .ref 0), (2, .ref 233), (3, .ref 259), (4, .int y)] [] σ := by
  have h := hop σ (xs (i + 1)) hI
  refine aw_aload_n (pc := 445) 1 dL_law_445 rfl ?_
  refine aw_aload_nS (pc := 446) 0 (by decide) dL_law_446 rfl ?_
  refine aw_iload (pc := 447) 4 dL_law_447 rfl ?_
  refine aw_iconst (pc := 449) 1 dL_law_449 (by decide) ?_
  refine aw_iadd (pc := 450) dL_law_450 ?_
  refine aw_xld (pc := 451) (j := i + 1) hXs dL_law_451 (hin 1 (by decide)) (hjx 1 (by decide)) ?_
  refine aw_callV (pc := 452) (As := [.int (xs (i + 1))]) (rest := []) kcX9 nn_0 ki_0 rfl (ev_X9_keep l (xs (i + 1)) h) mfX9_keep dL_law_452 lmL_60 hce (by decide +kernel) rfl rfl (Nat.le_of_ble_eq_true rfl) (nxI (fun r τ h => ?_))
  refine aw_aload_n (pc := 455) 2 dL_law_455 rfl ?_
  refine aw_aload_nS (pc := 456) 0 (by decide) dL_law_456 rfl ?_
  refine aw_iload (pc := 457) 4 dL_law_457 rfl ?_
  refine aw_iconst (pc := 459) 1 dL_law_459 (by decide) ?_
  refine aw_iadd (pc := 460) dL_law_460 ?_
  refine aw_xld (pc := 461) (j := i + 1) hXs dL_law_461 (hin 1 (by decide)) (hjx 1 (by decide)) ?_
  refine aw_callV (pc := 462) (As := [.int (xs (i + 1))]) (rest := [.int r]) kcX10 nn_233 ki_233 rfl (ev_X10_keep l (xs (i + 1)) h) mfX10_keep dL_law_462 lmL_63 hce (by decide +kernel) rfl rfl (Nat.le_of_ble_eq_true rfl) (nxI (fun r' υ h => ?_))
  refine aw_icmp_eq (pc := 465) 1281 dL_law_465 (by decide) (fun q => ?_) (fun q => absurd h.1 q)
  exact nx υ h.2
set_option maxRecDepth 20000 in
set_option maxHeartbeats 2000000 in
theorem law_again (l : Launch) (hfl : l.stackTraces = false) {Inv : Sg → Prop} {L0 i : Nat} {xs : Nat → Int32} {y : Int32} {ce sl : Nat} (hXs : ∀ G args s c, XL L0 xs G args s c → gL G = L0 ∧ gxs G = xs) (hin : ∀ j : Nat, j < 5 → vp_in (y + Int32.ofNat j) L0) (hjx : ∀ j : Nat, j < 5 → (y + Int32.ofNat j).toNatClampNeg = i + j) (hce : ce ≤ room_1.cells ∧ sl ≤ room_1.slots) {σ : Sg} (hI : Inv σ) (hop : Op_again Inv) (nx : ∀ υ, Inv υ → AVL l L0 xs ce sl 1281 [(0, .retAddr 98), (1, .ref 0), (2, .ref 233), (3, .ref 259), (4, .int y)] [] υ) : AVL l L0 xs ce sl 470 [(0, .retAddr 98), (1, .ref 0), (2, .ref 233), (3, .ref 259), (4, .int y)] [] σ := by
  have h := hop σ (xs (i + 1)) hI
  refine aw_aload_n (pc := 470) 1 dL_law_470 rfl ?_
  refine aw_aload_nS (pc := 471) 0 (by decide) dL_law_471 rfl ?_
  refine aw_iload (pc := 472) 4 dL_law_472 rfl ?_
  refine aw_iconst (pc := 474) 1 dL_law_474 (by decide) ?_
  refine aw_iadd (pc := 475) dL_law_475 ?_
  refine aw_xld (pc := 476) (j := i + 1) hXs dL_law_476 (hin 1 (by decide)) (hjx 1 (by decide)) ?_
  refine aw_callV (pc := 477) (As := [.int (xs (i + 1))]) (rest := []) kcX9 nn_0 ki_0 rfl (ev_X9_again l (xs (i + 1)) h) mfX9_again dL_law_477 lmL_64 hce (by decide +kernel) rfl rfl (Nat.le_of_ble_eq_true rfl) (nxI (fun r τ h => ?_))
  refine aw_aload_n (pc := 480) 2 dL_law_480 rfl ?_
  refine aw_aload_nS (pc := 481) 0 (by decide) dL_law_481 rfl ?_
  refine aw_iload (pc := 482) 4 dL_law_482 rfl ?_
  refine aw_iconst (pc := 484) 1 dL_law_484 (by decide) ?_
  refine aw_iadd (pc := 485) dL_law_485 ?_
  refine aw_xld (pc := 486) (j := i + 1) hXs dL_law_486 (hin 1 (by decide)) (hjx 1 (by decide)) ?_
  refine aw_callV (pc := 487) (As := [.int (xs (i + 1))]) (rest := [.int r]) kcX10 nn_233 ki_233 rfl (ev_X10_again l (xs (i + 1)) h) mfX10_again dL_law_487 lmL_67 hce (by decide +kernel) rfl rfl (Nat.le_of_ble_eq_true rfl) (nxI (fun r' υ h => ?_))
  refine aw_icmp_eq (pc := 490) 1281 dL_law_490 (by decide) (fun q => ?_) (fun q => absurd h.1 q)
  exact nx υ h.2
theorem clb_1 : Cond.codeWith yL_club cL_club 5 (some .int) [(0, 10, 13, 13)] ∈ TBg ∧ Cond.methodLink RL 68 yL_club ∈ TBg ∧ Cond.static yL_club ∈ TBg ∧ Cond.initialized RL ∈ TBg := ⟨tb_in 1122 (by decide +kernel) rfl, tb_in 1120 (by decide +kernel) rfl, tb_in 1121 (by decide +kernel) rfl, tb_in 153 (by decide +kernel) rfl⟩
theorem wsC_good : GoodIn TBg wsC := by
  intro w hw
  rcases List.mem_cons.mp hw with e | hw
  · subst e
    exact ⟨clb_1.1, good_of_word (List.mem_filter.mp clb_1.1).2⟩
  · exact ⟨hw, good_of_word (List.mem_filter.mp hw).2⟩
set_option maxRecDepth 20000 in
set_option maxHeartbeats 2000000 in
theorem law_club (l : Launch) (hfl : l.stackTraces = false) {Inv : Sg → Prop} {L0 i : Nat} {xs : Nat → Int32} {y : Int32} {ce sl : Nat} (hXs : ∀ G args s c, XL L0 xs G args s c → gL G = L0 ∧ gxs G = xs) (hin : ∀ j : Nat, j < 5 → vp_in (y + Int32.ofNat j) L0) (hjx : ∀ j : Nat, j < 5 → (y + Int32.ofNat j).toNatClampNeg = i + j) (hce : ce ≤ room_1.cells ∧ sl ≤ room_1.slots) {σ : Sg} (hcm : ce + 1 ≤ room_1.cells ∧ sl + 6 ≤ room_1.slots) (hI : Inv σ) (hop : Op_club Inv) (nx : ∀ υ, Inv υ → AVL l L0 xs (ce + 1) (sl + 6) 1281 [(0, .retAddr 98), (1, .ref 0), (2, .ref 233), (3, .ref 259), (4, .int y)] [] υ) : AVL l L0 xs ce sl 495 [(0, .retAddr 98), (1, .ref 0), (2, .ref 233), (3, .ref 259), (4, .int y)] [] σ := by
  have h := hop σ (xs (i + 1)) (xs (i + 2)) hI
  refine aw_aload_n (pc := 495) 1 dL_law_495 rfl ?_
  refine aw_aload_nS (pc := 496) 0 (by decide) dL_law_496 rfl ?_
  refine aw_iload (pc := 497) 4 dL_law_497 rfl ?_
  refine aw_iconst (pc := 499) 1 dL_law_499 (by decide) ?_
  refine aw_iadd (pc := 500) dL_law_500 ?_
  refine aw_xld (pc := 501) (j := i + 1) hXs dL_law_501 (hin 1 (by decide)) (hjx 1 (by decide)) ?_
  refine aw_aload_nS (pc := 502) 0 (by decide) dL_law_502 rfl ?_
  refine aw_iload (pc := 503) 4 dL_law_503 rfl ?_
  refine aw_iconst (pc := 505) 2 dL_law_505 (by decide) ?_
  refine aw_iadd (pc := 506) dL_law_506 ?_
  refine aw_xld (pc := 507) (j := i + 2) hXs dL_law_507 (hin 2 (by decide)) (hjx 2 (by decide)) ?_
  refine aw_aload_n (pc := 508) 3 dL_law_508 rfl ?_
  have hk : ∀ k τ, kClub Inv (xs (i + 1)) (xs (i + 2)) k τ → AVL l L0 xs (ce + 1) (sl + 6) 512 [(0, .retAddr 98), (1, .ref 0), (2, .ref 233), (3, .ref 259), (4, .int y)] [.int k] τ := by
    intro k τ h
    refine aw_istore (pc := 512) [(5, .int k), (0, .retAddr 98), (1, .ref 0), (2, .ref 233), (3, .ref 259), (4, .int y)] dL_law_512 (by decide) rfl ?_
    refine aw_aload_n (pc := 514) 3 dL_law_514 rfl ?_
    refine aw_aload_nS (pc := 515) 1 (by decide) dL_law_515 rfl ?_
    refine aw_iload (pc := 516) 5 dL_law_516 rfl ?_
    refine aw_iconst (pc := 518) 1 dL_law_518 (by decide) ?_
    refine aw_iadd (pc := 519) dL_law_519 ?_
    refine aw_xld (pc := 520) (j := i + 1) hXs dL_law_520 (hin 1 (by decide)) (hjx 1 (by decide)) ?_
    refine aw_aload_nS (pc := 521) 1 (by decide) dL_law_521 rfl ?_
    refine aw_iload (pc := 522) 5 dL_law_522 rfl ?_
    refine aw_iconst (pc := 524) 2 dL_law_524 (by decide) ?_
    refine aw_iadd (pc := 525) dL_law_525 ?_
    refine aw_xld (pc := 526) (j := i + 2) hXs dL_law_526 (hin 2 (by decide)) (hjx 2 (by decide)) ?_
    refine aw_callV (pc := 527) (As := [.int (xs (i + 1)), .int (xs (i + 2))]) (rest := []) kcX10 nn_233 ki_233 rfl (ev_X10_club l (xs (i + 1)) (xs (i + 2)) h) mfX10_club dL_law_527 lmL_73 hcm (by decide +kernel) rfl rfl (Nat.le_of_ble_eq_true rfl) (nxI (fun bb υ h => ?_))
    refine aw_istore (pc := 530) [(6, .int bb), (5, .int k), (0, .retAddr 98), (1, .ref 0), (2, .ref 233), (3, .ref 259), (4, .int y)] dL_law_530 (by decide) rfl ?_
    refine aw_aload_n (pc := 532) 4 dL_law_532 rfl ?_
    refine aw_callV (pc := 533) (As := []) (rest := []) kcX10 nn_233 ki_233 rfl (ev_X10_thrown l h) mfX10_thrown dL_law_533 lmL_74 hcm (by decide +kernel) rfl rfl (Nat.le_of_ble_eq_true rfl) (nxI (fun t ω h => ?_))
    refine aw_iload (pc := 536) 1 dL_law_536 rfl ?_
    refine aw_icmp_eq (pc := 538) 543 dL_law_538 (by decide) (fun q => ?_) (fun q => absurd h.1 q)
    refine aw_iload (pc := 543) 1 dL_law_543 rfl ?_
    have fin : AVL l L0 xs (ce + 1) (sl + 6) 560 [(6, .int bb), (5, .int k), (0, .retAddr 98), (1, .ref 0), (2, .ref 233), (3, .ref 259), (4, .int y)] [] ω := by
      refine aw_goto (pc := 560) 1281 dL_law_560 (by decide) ?_
      refine aw_sub (L' := [(0, .retAddr 98), (1, .ref 0), (2, .ref 233), (3, .ref 259), (4, .int y)]) [2, 3, 4, 5, 6] rfl ?_
      exact nx ω h.2.2
    refine aw_if_ne (pc := 545) 560 dL_law_545 (by decide) (fun q => fin) (fun q => ?_)
    refine aw_aload_n (pc := 548) 5 dL_law_548 rfl ?_
    refine aw_iconst (pc := 549) 0 dL_law_549 (by decide) ?_
    refine aw_lald (pc := 550) (j := 0) dL_law_550 nn_259 ki_259 ln_259 (show vp_in _ _ by unfold vp_in; decide) (by decide) ?_
    refine aw_iload (pc := 551) 0 dL_law_551 rfl ?_
    refine aw_i2l (pc := 553) dL_law_553 ?_
    refine aw_lcmp (pc := 554) dL_law_554 ?_
    exact aw_if_eq (pc := 555) 560 dL_law_555 (by decide) (fun _ => fin) (fun q' => absurd (by rw [h.2.1 q]; exact lcmp_self _) q')
  intro G p e s m args below meth c H locs ls hX C hP hS hl
  obtain ⟨hx, hb, hml, hr, hlk, hown, hts, hK⟩ := id C
  have hrun := vx_runSW (e := e) (below := below) (meth := meth) (As := ([.ref 0, .int (xs (i + 1)), .int (xs (i + 2)), .ref 259] : List Value).map (tv G)) (rest := []) (Ts := TBg) (g := F0 m 509 ls (([.ref 259, .int (xs (i + 2)), .int (xs (i + 1)), .ref 0] : List Value).map (tv G))) (cells := ce) (slots := sl) (R := room_1) (locs := locs) (H := H) ⟨hx, hb, hml, hown, hts⟩ (evc_club l hfl (xs (i + 1)) (xs (i + 2)) h G) (vx_cwSW (own := RL) (index := 68) (ws' := TBg) 4 hts (fun w hw => ?_) rfl rfl rfl (by decide +kernel) (by decide +kernel)) ⟨PA_blind _ _ _, fun U hU hW => ⟨rfl, by rw [hU]; exact hP, hK.call hS hU hW⟩⟩ rfl rfl hl.1 rfl (lv_room (Nat.le_of_ble_eq_true rfl)) dL_law_509 hcm
  · intro T0 hT0 X0
    obtain ⟨v, st₀, t, T', L', h0, X', hL, e1, e2, ⟨⟨v', τ, hv, ⟨k, hv', hkk⟩, hp⟩, hz, hkeep⟩, stp⟩ := hrun T0 hT0 X0
    rw [h0] at hz hkeep
    have hv : v = some (.int k) := by rw [hv'] at hv; cases hv; rfl
    subst hv
    have hS' : va_S (Ab G) s.heap T'.heap (locs ++ L') := ⟨Nat.le_trans hS.1 (by rw [e1]; exact hz), fun q h1 h2 => by rw [e1, hkeep q (Nat.lt_of_lt_of_le h1 hS.1) h2]; exact hS.2.1 q h1 h2, fun q hq => by
      rcases List.mem_append.mp hq with h | h
      · exact hS.2.2 q h
      · exact hL q h⟩
    obtain ⟨t2, a1, b1⟩ := hk k τ hkk G p e s m args below meth c T'.heap (locs ++ L') ls hX C (by rw [e1]; exact hp) hS' hl T' rfl X'
    exact ⟨t2, stp t2 a1, b1⟩
  · rcases List.mem_append.mp hw with h | h
    · simp only [List.mem_cons, List.not_mem_nil, or_false] at h
      rcases h with rfl | rfl | rfl
      · exact ⟨clb_1.2.1, good_of_word (List.mem_filter.mp clb_1.2.1).2⟩
      · exact ⟨clb_1.2.2.1, good_of_word (List.mem_filter.mp clb_1.2.2.1).2⟩
      · exact ⟨clb_1.2.2.2, good_of_word (List.mem_filter.mp clb_1.2.2.2).2⟩
    · exact wsC_good w h
set_option maxRecDepth 20000 in
set_option maxHeartbeats 2000000 in
theorem law_cup (l : Launch) (hfl : l.stackTraces = false) {Inv : Sg → Prop} {L0 i : Nat} {xs : Nat → Int32} {y : Int32} {ce sl : Nat} (hXs : ∀ G args s c, XL L0 xs G args s c → gL G = L0 ∧ gxs G = xs) (hin : ∀ j : Nat, j < 5 → vp_in (y + Int32.ofNat j) L0) (hjx : ∀ j : Nat, j < 5 → (y + Int32.ofNat j).toNatClampNeg = i + j) (hce : ce ≤ room_1.cells ∧ sl ≤ room_1.slots) {σ : Sg} (hI : Inv σ) (hop : Op_cup Inv) (nx : ∀ υ, Inv υ → AVL l L0 xs ce sl 1281 [(0, .retAddr 98), (1, .ref 0), (2, .ref 233), (3, .ref 259), (4, .int y)] [] υ) : AVL l L0 xs ce sl 563 [(0, .retAddr 98), (1, .ref 0), (2, .ref 233), (3, .ref 259), (4, .int y)] [] σ := by
  have h := hop σ (xs (i + 1)) (xs (i + 2)) hI
  refine aw_aload_n (pc := 563) 1 dL_law_563 rfl ?_
  refine aw_aload_nS (pc := 564) 0 (by decide) dL_law_564 rfl ?_
  refine aw_iload (pc := 565) 4 dL_law_565 rfl ?_
  refine aw_iconst (pc := 567) 1 dL_law_567 (by decide) ?_
  refine aw_iadd (pc := 568) dL_law_568 ?_
  refine aw_xld (pc := 569) (j := i + 1) hXs dL_law_569 (hin 1 (by decide)) (hjx 1 (by decide)) ?_
  refine aw_aload_nS (pc := 570) 0 (by decide) dL_law_570 rfl ?_
  refine aw_iload (pc := 571) 4 dL_law_571 rfl ?_
  refine aw_iconst (pc := 573) 2 dL_law_573 (by decide) ?_
  refine aw_iadd (pc := 574) dL_law_574 ?_
  refine aw_xld (pc := 575) (j := i + 2) hXs dL_law_575 (hin 2 (by decide)) (hjx 2 (by decide)) ?_
  refine aw_callV (pc := 576) (As := [.int (xs (i + 1)), .int (xs (i + 2))]) (rest := []) kcX9 nn_0 ki_0 rfl (ev_X9_cup l (xs (i + 1)) (xs (i + 2)) h) mfX9_cup dL_law_576 lmL_77 hce (by decide +kernel) rfl rfl (Nat.le_of_ble_eq_true rfl) (nxI (fun r τ h => ?_))
  refine aw_aload_n (pc := 579) 2 dL_law_579 rfl ?_
  refine aw_aload_nS (pc := 580) 0 (by decide) dL_law_580 rfl ?_
  refine aw_iload (pc := 581) 4 dL_law_581 rfl ?_
  refine aw_iconst (pc := 583) 1 dL_law_583 (by decide) ?_
  refine aw_iadd (pc := 584) dL_law_584 ?_
  refine aw_xld (pc := 585) (j := i + 1) hXs dL_law_585 (hin 1 (by decide)) (hjx 1 (by decide)) ?_
  refine aw_aload_nS (pc := 586) 0 (by decide) dL_law_586 rfl ?_
  refine aw_iload (pc := 587) 4 dL_law_587 rfl ?_
  refine aw_iconst (pc := 589) 2 dL_law_589 (by decide) ?_
  refine aw_iadd (pc := 590) dL_law_590 ?_
  refine aw_xld (pc := 591) (j := i + 2) hXs dL_law_591 (hin 2 (by decide)) (hjx 2 (by decide)) ?_
  refine aw_callV (pc := 592) (As := [.int (xs (i + 1)), .int (xs (i + 2))]) (rest := [.int r]) kcX10 nn_233 ki_233 rfl (ev_X10_cup l (xs (i + 1)) (xs (i + 2)) h) mfX10_cup dL_law_592 lmL_80 hce (by decide +kernel) rfl rfl (Nat.le_of_ble_eq_true rfl) (nxI (fun r' υ h => ?_))
  refine aw_icmp_eq (pc := 595) 1281 dL_law_595 (by decide) (fun q => ?_) (fun q => absurd h.1 q)
  exact nx υ h.2
set_option maxRecDepth 20000 in
set_option maxHeartbeats 2000000 in
theorem law_tieOf (l : Launch) (hfl : l.stackTraces = false) {Inv : Sg → Prop} {L0 i : Nat} {xs : Nat → Int32} {y : Int32} {ce sl : Nat} (hXs : ∀ G args s c, XL L0 xs G args s c → gL G = L0 ∧ gxs G = xs) (hin : ∀ j : Nat, j < 5 → vp_in (y + Int32.ofNat j) L0) (hjx : ∀ j : Nat, j < 5 → (y + Int32.ofNat j).toNatClampNeg = i + j) (hce : ce ≤ room_1.cells ∧ sl ≤ room_1.slots) {σ : Sg} (hI : Inv σ) (hop : Op_tieOf Inv) (nx : ∀ υ, Inv υ → AVL l L0 xs ce sl 1281 [(0, .retAddr 98), (1, .ref 0), (2, .ref 233), (3, .ref 259), (4, .int y)] [] υ) : AVL l L0 xs ce sl 600 [(0, .retAddr 98), (1, .ref 0), (2, .ref 233), (3, .ref 259), (4, .int y)] [] σ := by
  have h := hop σ (xs (i + 1)) (xs (i + 2)) hI
  refine aw_aload_n (pc := 600) 1 dL_law_600 rfl ?_
  refine aw_aload_nS (pc := 601) 0 (by decide) dL_law_601 rfl ?_
  refine aw_iload (pc := 602) 4 dL_law_602 rfl ?_
  refine aw_iconst (pc := 604) 1 dL_law_604 (by decide) ?_
  refine aw_iadd (pc := 605) dL_law_605 ?_
  refine aw_xld (pc := 606) (j := i + 1) hXs dL_law_606 (hin 1 (by decide)) (hjx 1 (by decide)) ?_
  refine aw_aload_nS (pc := 607) 0 (by decide) dL_law_607 rfl ?_
  refine aw_iload (pc := 608) 4 dL_law_608 rfl ?_
  refine aw_iconst (pc := 610) 2 dL_law_610 (by decide) ?_
  refine aw_iadd (pc := 611) dL_law_611 ?_
  refine aw_xld (pc := 612) (j := i + 2) hXs dL_law_612 (hin 2 (by decide)) (hjx 2 (by decide)) ?_
  refine aw_callV (pc := 613) (As := [.int (xs (i + 1)), .int (xs (i + 2))]) (rest := []) kcX9 nn_0 ki_0 rfl (ev_X9_tieOf l (xs (i + 1)) (xs (i + 2)) h) mfX9_tieOf dL_law_613 lmL_81 hce (by decide +kernel) rfl rfl (Nat.le_of_ble_eq_true rfl) (nxI (fun r τ h => ?_))
  refine aw_aload_n (pc := 616) 2 dL_law_616 rfl ?_
  refine aw_aload_nS (pc := 617) 0 (by decide) dL_law_617 rfl ?_
  refine aw_iload (pc := 618) 4 dL_law_618 rfl ?_
  refine aw_iconst (pc := 620) 1 dL_law_620 (by decide) ?_
  refine aw_iadd (pc := 621) dL_law_621 ?_
  refine aw_xld (pc := 622) (j := i + 1) hXs dL_law_622 (hin 1 (by decide)) (hjx 1 (by decide)) ?_
  refine aw_aload_nS (pc := 623) 0 (by decide) dL_law_623 rfl ?_
  refine aw_iload (pc := 624) 4 dL_law_624 rfl ?_
  refine aw_iconst (pc := 626) 2 dL_law_626 (by decide) ?_
  refine aw_iadd (pc := 627) dL_law_627 ?_
  refine aw_xld (pc := 628) (j := i + 2) hXs dL_law_628 (hin 2 (by decide)) (hjx 2 (by decide)) ?_
  refine aw_callV (pc := 629) (As := [.int (xs (i + 1)), .int (xs (i + 2))]) (rest := [.int r]) kcX10 nn_233 ki_233 rfl (ev_X10_tieOf l (xs (i + 1)) (xs (i + 2)) h) mfX10_tieOf dL_law_629 lmL_84 hce (by decide +kernel) rfl rfl (Nat.le_of_ble_eq_true rfl) (nxI (fun r' υ h => ?_))
  refine aw_icmp_eq (pc := 632) 1281 dL_law_632 (by decide) (fun q => ?_) (fun q => absurd h.1 q)
  exact nx υ h.2
set_option maxRecDepth 20000 in
set_option maxHeartbeats 2000000 in
theorem law_game (l : Launch) (hfl : l.stackTraces = false) {Inv : Sg → Prop} {L0 i : Nat} {xs : Nat → Int32} {y : Int32} {ce sl : Nat} (hXs : ∀ G args s c, XL L0 xs G args s c → gL G = L0 ∧ gxs G = xs) (hin : ∀ j : Nat, j < 5 → vp_in (y + Int32.ofNat j) L0) (hjx : ∀ j : Nat, j < 5 → (y + Int32.ofNat j).toNatClampNeg = i + j) (hce : ce ≤ room_1.cells ∧ sl ≤ room_1.slots) {σ : Sg} (hI : Inv σ) (hop : Op_game Inv) (nx : ∀ υ, Inv υ → AVL l L0 xs ce sl 1281 [(0, .retAddr 98), (1, .ref 0), (2, .ref 233), (3, .ref 259), (4, .int y)] [] υ) : AVL l L0 xs ce sl 637 [(0, .retAddr 98), (1, .ref 0), (2, .ref 233), (3, .ref 259), (4, .int y)] [] σ := by
  have h := hop σ (xs (i + 1)) (xs (i + 2)) (xs (i + 3)) hI
  refine aw_aload_n (pc := 637) 1 dL_law_637 rfl ?_
  refine aw_aload_nS (pc := 638) 0 (by decide) dL_law_638 rfl ?_
  refine aw_iload (pc := 639) 4 dL_law_639 rfl ?_
  refine aw_iconst (pc := 641) 1 dL_law_641 (by decide) ?_
  refine aw_iadd (pc := 642) dL_law_642 ?_
  refine aw_xld (pc := 643) (j := i + 1) hXs dL_law_643 (hin 1 (by decide)) (hjx 1 (by decide)) ?_
  refine aw_aload_nS (pc := 644) 0 (by decide) dL_law_644 rfl ?_
  refine aw_iload (pc := 645) 4 dL_law_645 rfl ?_
  refine aw_iconst (pc := 647) 2 dL_law_647 (by decide) ?_
  refine aw_iadd (pc := 648) dL_law_648 ?_
  refine aw_xld (pc := 649) (j := i + 2) hXs dL_law_649 (hin 2 (by decide)) (hjx 2 (by decide)) ?_
  refine aw_aload_nS (pc := 650) 0 (by decide) dL_law_650 rfl ?_
  refine aw_iload (pc := 651) 4 dL_law_651 rfl ?_
  refine aw_iconst (pc := 653) 3 dL_law_653 (by decide) ?_
  refine aw_iadd (pc := 654) dL_law_654 ?_
  refine aw_xld (pc := 655) (j := i + 3) hXs dL_law_655 (hin 3 (by decide)) (hjx 3 (by decide)) ?_
  refine aw_callV (pc := 656) (As := [.int (xs (i + 1)), .int (xs (i + 2)), .int (xs (i + 3))]) (rest := []) kcX9 nn_0 ki_0 rfl (ev_X9_game l (xs (i + 1)) (xs (i + 2)) (xs (i + 3)) h) mfX9_game dL_law_656 lmL_85 hce (by decide +kernel) rfl rfl (Nat.le_of_ble_eq_true rfl) (nxI (fun r τ h => ?_))
  refine aw_aload_n (pc := 659) 2 dL_law_659 rfl ?_
  refine aw_aload_nS (pc := 660) 0 (by decide) dL_law_660 rfl ?_
  refine aw_iload (pc := 661) 4 dL_law_661 rfl ?_
  refine aw_iconst (pc := 663) 1 dL_law_663 (by decide) ?_
  refine aw_iadd (pc := 664) dL_law_664 ?_
  refine aw_xld (pc := 665) (j := i + 1) hXs dL_law_665 (hin 1 (by decide)) (hjx 1 (by decide)) ?_
  refine aw_aload_nS (pc := 666) 0 (by decide) dL_law_666 rfl ?_
  refine aw_iload (pc := 667) 4 dL_law_667 rfl ?_
  refine aw_iconst (pc := 669) 2 dL_law_669 (by decide) ?_
  refine aw_iadd (pc := 670) dL_law_670 ?_
  refine aw_xld (pc := 671) (j := i + 2) hXs dL_law_671 (hin 2 (by decide)) (hjx 2 (by decide)) ?_
  refine aw_aload_nS (pc := 672) 0 (by decide) dL_law_672 rfl ?_
  refine aw_iload (pc := 673) 4 dL_law_673 rfl ?_
  refine aw_iconst (pc := 675) 3 dL_law_675 (by decide) ?_
  refine aw_iadd (pc := 676) dL_law_676 ?_
  refine aw_xld (pc := 677) (j := i + 3) hXs dL_law_677 (hin 3 (by decide)) (hjx 3 (by decide)) ?_
  refine aw_callV (pc := 678) (As := [.int (xs (i + 1)), .int (xs (i + 2)), .int (xs (i + 3))]) (rest := [.int r]) kcX10 nn_233 ki_233 rfl (ev_X10_game l (xs (i + 1)) (xs (i + 2)) (xs (i + 3)) h) mfX10_game dL_law_678 lmL_88 hce (by decide +kernel) rfl rfl (Nat.le_of_ble_eq_true rfl) (nxI (fun r' υ h => ?_))
  refine aw_icmp_eq (pc := 681) 1281 dL_law_681 (by decide) (fun q => ?_) (fun q => absurd h.1 q)
  exact nx υ h.2
set_option maxRecDepth 20000 in
set_option maxHeartbeats 2000000 in
theorem law_pool (l : Launch) (hfl : l.stackTraces = false) {Inv : Sg → Prop} {L0 i : Nat} {xs : Nat → Int32} {y : Int32} {ce sl : Nat} (hXs : ∀ G args s c, XL L0 xs G args s c → gL G = L0 ∧ gxs G = xs) (hin : ∀ j : Nat, j < 5 → vp_in (y + Int32.ofNat j) L0) (hjx : ∀ j : Nat, j < 5 → (y + Int32.ofNat j).toNatClampNeg = i + j) (hce : ce ≤ room_1.cells ∧ sl ≤ room_1.slots) {σ : Sg} (hI : Inv σ) (hop : Op_pool Inv) (nx : ∀ υ, Inv υ → AVL l L0 xs ce sl 1281 [(0, .retAddr 98), (1, .ref 0), (2, .ref 233), (3, .ref 259), (4, .int y)] [] υ) : AVL l L0 xs ce sl 686 [(0, .retAddr 98), (1, .ref 0), (2, .ref 233), (3, .ref 259), (4, .int y)] [] σ := by
  have h := hop σ (xs (i + 1)) (xs (i + 2)) (xs (i + 3)) hI
  refine aw_aload_n (pc := 686) 1 dL_law_686 rfl ?_
  refine aw_aload_nS (pc := 687) 0 (by decide) dL_law_687 rfl ?_
  refine aw_iload (pc := 688) 4 dL_law_688 rfl ?_
  refine aw_iconst (pc := 690) 1 dL_law_690 (by decide) ?_
  refine aw_iadd (pc := 691) dL_law_691 ?_
  refine aw_xld (pc := 692) (j := i + 1) hXs dL_law_692 (hin 1 (by decide)) (hjx 1 (by decide)) ?_
  refine aw_aload_nS (pc := 693) 0 (by decide) dL_law_693 rfl ?_
  refine aw_iload (pc := 694) 4 dL_law_694 rfl ?_
  refine aw_iconst (pc := 696) 2 dL_law_696 (by decide) ?_
  refine aw_iadd (pc := 697) dL_law_697 ?_
  refine aw_xld (pc := 698) (j := i + 2) hXs dL_law_698 (hin 2 (by decide)) (hjx 2 (by decide)) ?_
  refine aw_aload_nS (pc := 699) 0 (by decide) dL_law_699 rfl ?_
  refine aw_iload (pc := 700) 4 dL_law_700 rfl ?_
  refine aw_iconst (pc := 702) 3 dL_law_702 (by decide) ?_
  refine aw_iadd (pc := 703) dL_law_703 ?_
  refine aw_xld (pc := 704) (j := i + 3) hXs dL_law_704 (hin 3 (by decide)) (hjx 3 (by decide)) ?_
  refine aw_callV (pc := 705) (As := [.int (xs (i + 1)), .int (xs (i + 2)), .int (xs (i + 3))]) (rest := []) kcX9 nn_0 ki_0 rfl (ev_X9_pool l (xs (i + 1)) (xs (i + 2)) (xs (i + 3)) h) mfX9_pool dL_law_705 lmL_89 hce (by decide +kernel) rfl rfl (Nat.le_of_ble_eq_true rfl) (nxI (fun r τ h => ?_))
  refine aw_aload_n (pc := 708) 2 dL_law_708 rfl ?_
  refine aw_aload_nS (pc := 709) 0 (by decide) dL_law_709 rfl ?_
  refine aw_iload (pc := 710) 4 dL_law_710 rfl ?_
  refine aw_iconst (pc := 712) 1 dL_law_712 (by decide) ?_
  refine aw_iadd (pc := 713) dL_law_713 ?_
  refine aw_xld (pc := 714) (j := i + 1) hXs dL_law_714 (hin 1 (by decide)) (hjx 1 (by decide)) ?_
  refine aw_aload_nS (pc := 715) 0 (by decide) dL_law_715 rfl ?_
  refine aw_iload (pc := 716) 4 dL_law_716 rfl ?_
  refine aw_iconst (pc := 718) 2 dL_law_718 (by decide) ?_
  refine aw_iadd (pc := 719) dL_law_719 ?_
  refine aw_xld (pc := 720) (j := i + 2) hXs dL_law_720 (hin 2 (by decide)) (hjx 2 (by decide)) ?_
  refine aw_aload_nS (pc := 721) 0 (by decide) dL_law_721 rfl ?_
  refine aw_iload (pc := 722) 4 dL_law_722 rfl ?_
  refine aw_iconst (pc := 724) 3 dL_law_724 (by decide) ?_
  refine aw_iadd (pc := 725) dL_law_725 ?_
  refine aw_xld (pc := 726) (j := i + 3) hXs dL_law_726 (hin 3 (by decide)) (hjx 3 (by decide)) ?_
  refine aw_callV (pc := 727) (As := [.int (xs (i + 1)), .int (xs (i + 2)), .int (xs (i + 3))]) (rest := [.int r]) kcX10 nn_233 ki_233 rfl (ev_X10_pool l (xs (i + 1)) (xs (i + 2)) (xs (i + 3)) h) mfX10_pool dL_law_727 lmL_92 hce (by decide +kernel) rfl rfl (Nat.le_of_ble_eq_true rfl) (nxI (fun r' υ h => ?_))
  refine aw_icmp_eq (pc := 730) 1281 dL_law_730 (by decide) (fun q => ?_) (fun q => absurd h.1 q)
  exact nx υ h.2
set_option maxRecDepth 20000 in
set_option maxHeartbeats 2000000 in
theorem law_all (l : Launch) (hfl : l.stackTraces = false) {Inv : Sg → Prop} {L0 i : Nat} {xs : Nat → Int32} {y : Int32} {ce sl : Nat} (hXs : ∀ G args s c, XL L0 xs G args s c → gL G = L0 ∧ gxs G = xs) (hin : ∀ j : Nat, j < 5 → vp_in (y + Int32.ofNat j) L0) (hjx : ∀ j : Nat, j < 5 → (y + Int32.ofNat j).toNatClampNeg = i + j) (hce : ce ≤ room_1.cells ∧ sl ≤ room_1.slots) {σ : Sg} (hI : Inv σ) (hop : Op_all Inv) (nx : ∀ υ, Inv υ → AVL l L0 xs ce sl 1281 [(0, .retAddr 98), (1, .ref 0), (2, .ref 233), (3, .ref 259), (4, .int y)] [] υ) : AVL l L0 xs ce sl 735 [(0, .retAddr 98), (1, .ref 0), (2, .ref 233), (3, .ref 259), (4, .int y)] [] σ := by
  have h := hop σ (xs (i + 1)) hI
  refine aw_aload_n (pc := 735) 1 dL_law_735 rfl ?_
  refine aw_aload_nS (pc := 736) 0 (by decide) dL_law_736 rfl ?_
  refine aw_iload (pc := 737) 4 dL_law_737 rfl ?_
  refine aw_iconst (pc := 739) 1 dL_law_739 (by decide) ?_
  refine aw_iadd (pc := 740) dL_law_740 ?_
  refine aw_xld (pc := 741) (j := i + 1) hXs dL_law_741 (hin 1 (by decide)) (hjx 1 (by decide)) ?_
  refine aw_callV (pc := 742) (As := [.int (xs (i + 1))]) (rest := []) kcX9 nn_0 ki_0 rfl (ev_X9_all l (xs (i + 1)) h) mfX9_all dL_law_742 lmL_93 hce (by decide +kernel) rfl rfl (Nat.le_of_ble_eq_true rfl) (nxI (fun r τ h => ?_))
  refine aw_aload_n (pc := 745) 2 dL_law_745 rfl ?_
  refine aw_aload_nS (pc := 746) 0 (by decide) dL_law_746 rfl ?_
  refine aw_iload (pc := 747) 4 dL_law_747 rfl ?_
  refine aw_iconst (pc := 749) 1 dL_law_749 (by decide) ?_
  refine aw_iadd (pc := 750) dL_law_750 ?_
  refine aw_xld (pc := 751) (j := i + 1) hXs dL_law_751 (hin 1 (by decide)) (hjx 1 (by decide)) ?_
  refine aw_callV (pc := 752) (As := [.int (xs (i + 1))]) (rest := [.int r]) kcX10 nn_233 ki_233 rfl (ev_X10_all l (xs (i + 1)) h) mfX10_all dL_law_752 lmL_96 hce (by decide +kernel) rfl rfl (Nat.le_of_ble_eq_true rfl) (nxI (fun r' υ h => ?_))
  refine aw_icmp_eq (pc := 755) 1281 dL_law_755 (by decide) (fun q => ?_) (fun q => absurd h.1 q)
  exact nx υ h.2
set_option maxRecDepth 20000 in
set_option maxHeartbeats 2000000 in
theorem law_balance (l : Launch) (hfl : l.stackTraces = false) {Inv : Sg → Prop} {L0 i : Nat} {xs : Nat → Int32} {y : Int32} {ce sl : Nat} (hXs : ∀ G args s c, XL L0 xs G args s c → gL G = L0 ∧ gxs G = xs) (hin : ∀ j : Nat, j < 5 → vp_in (y + Int32.ofNat j) L0) (hjx : ∀ j : Nat, j < 5 → (y + Int32.ofNat j).toNatClampNeg = i + j) (hce : ce ≤ room_1.cells ∧ sl ≤ room_1.slots) {σ : Sg} (hI : Inv σ) (hop : Op_balance Inv) (nx : ∀ υ, Inv υ → AVL l L0 xs ce sl 1281 [(0, .retAddr 98), (1, .ref 0), (2, .ref 233), (3, .ref 259), (4, .int y)] [] υ) : AVL l L0 xs ce sl 760 [(0, .retAddr 98), (1, .ref 0), (2, .ref 233), (3, .ref 259), (4, .int y)] [] σ := by
  have h := hop σ (xs (i + 1)) hI
  refine aw_aload_n (pc := 760) 1 dL_law_760 rfl ?_
  refine aw_aload_nS (pc := 761) 0 (by decide) dL_law_761 rfl ?_
  refine aw_iload (pc := 762) 4 dL_law_762 rfl ?_
  refine aw_iconst (pc := 764) 1 dL_law_764 (by decide) ?_
  refine aw_iadd (pc := 765) dL_law_765 ?_
  refine aw_xld (pc := 766) (j := i + 1) hXs dL_law_766 (hin 1 (by decide)) (hjx 1 (by decide)) ?_
  refine aw_callV (pc := 767) (As := [.int (xs (i + 1))]) (rest := []) kcX9 nn_0 ki_0 rfl (ev_X9_balance l (xs (i + 1)) h) mfX9_balance dL_law_767 lmL_97 hce (by decide +kernel) rfl rfl (Nat.le_of_ble_eq_true rfl) (nxI (fun r τ h => ?_))
  refine aw_aload_n (pc := 770) 2 dL_law_770 rfl ?_
  refine aw_aload_nS (pc := 771) 0 (by decide) dL_law_771 rfl ?_
  refine aw_iload (pc := 772) 4 dL_law_772 rfl ?_
  refine aw_iconst (pc := 774) 1 dL_law_774 (by decide) ?_
  refine aw_iadd (pc := 775) dL_law_775 ?_
  refine aw_xld (pc := 776) (j := i + 1) hXs dL_law_776 (hin 1 (by decide)) (hjx 1 (by decide)) ?_
  refine aw_callV (pc := 777) (As := [.int (xs (i + 1))]) (rest := [.int r]) kcX10 nn_233 ki_233 rfl (ev_X10_balance l (xs (i + 1)) h) mfX10_balance dL_law_777 lmL_100 hce (by decide +kernel) rfl rfl (Nat.le_of_ble_eq_true rfl) (nxI (fun r' υ h => ?_))
  refine aw_icmp_eq (pc := 780) 1281 dL_law_780 (by decide) (fun q => ?_) (fun q => absurd h.1 q)
  exact nx υ h.2
set_option maxRecDepth 20000 in
set_option maxHeartbeats 2000000 in
theorem law_fewest (l : Launch) (hfl : l.stackTraces = false) {Inv : Sg → Prop} {L0 i : Nat} {xs : Nat → Int32} {y : Int32} {ce sl : Nat} (hXs : ∀ G args s c, XL L0 xs G args s c → gL G = L0 ∧ gxs G = xs) (hin : ∀ j : Nat, j < 5 → vp_in (y + Int32.ofNat j) L0) (hjx : ∀ j : Nat, j < 5 → (y + Int32.ofNat j).toNatClampNeg = i + j) (hce : ce ≤ room_1.cells ∧ sl ≤ room_1.slots) {σ : Sg} (hI : Inv σ) (hop : Op_fewest Inv) (nx : ∀ υ, Inv υ → AVL l L0 xs ce sl 1281 [(0, .retAddr 98), (1, .ref 0), (2, .ref 233), (3, .ref 259), (4, .int y)] [] υ) : AVL l L0 xs ce sl 785 [(0, .retAddr 98), (1, .ref 0), (2, .ref 233), (3, .ref 259), (4, .int y)] [] σ := by
  have h := hop σ (xs (i + 1)) hI
  refine aw_aload_n (pc := 785) 1 dL_law_785 rfl ?_
  refine aw_aload_nS (pc := 786) 0 (by decide) dL_law_786 rfl ?_
  refine aw_iload (pc := 787) 4 dL_law_787 rfl ?_
  refine aw_iconst (pc := 789) 1 dL_law_789 (by decide) ?_
  refine aw_iadd (pc := 790) dL_law_790 ?_
  refine aw_xld (pc := 791) (j := i + 1) hXs dL_law_791 (hin 1 (by decide)) (hjx 1 (by decide)) ?_
  refine aw_callV (pc := 792) (As := [.int (xs (i + 1))]) (rest := []) kcX9 nn_0 ki_0 rfl (ev_X9_fewest l (xs (i + 1)) h) mfX9_fewest dL_law_792 lmL_101 hce (by decide +kernel) rfl rfl (Nat.le_of_ble_eq_true rfl) (nxI (fun r τ h => ?_))
  refine aw_aload_n (pc := 795) 2 dL_law_795 rfl ?_
  refine aw_aload_nS (pc := 796) 0 (by decide) dL_law_796 rfl ?_
  refine aw_iload (pc := 797) 4 dL_law_797 rfl ?_
  refine aw_iconst (pc := 799) 1 dL_law_799 (by decide) ?_
  refine aw_iadd (pc := 800) dL_law_800 ?_
  refine aw_xld (pc := 801) (j := i + 1) hXs dL_law_801 (hin 1 (by decide)) (hjx 1 (by decide)) ?_
  refine aw_callV (pc := 802) (As := [.int (xs (i + 1))]) (rest := [.int r]) kcX10 nn_233 ki_233 rfl (ev_X10_fewest l (xs (i + 1)) h) mfX10_fewest dL_law_802 lmL_104 hce (by decide +kernel) rfl rfl (Nat.le_of_ble_eq_true rfl) (nxI (fun r' υ h => ?_))
  refine aw_icmp_eq (pc := 805) 1281 dL_law_805 (by decide) (fun q => ?_) (fun q => absurd h.1 q)
  exact nx υ h.2
set_option maxRecDepth 20000 in
set_option maxHeartbeats 2000000 in
theorem law_pays (l : Launch) (hfl : l.stackTraces = false) {Inv : Sg → Prop} {L0 i : Nat} {xs : Nat → Int32} {y : Int32} {ce sl : Nat} (hXs : ∀ G args s c, XL L0 xs G args s c → gL G = L0 ∧ gxs G = xs) (hin : ∀ j : Nat, j < 5 → vp_in (y + Int32.ofNat j) L0) (hjx : ∀ j : Nat, j < 5 → (y + Int32.ofNat j).toNatClampNeg = i + j) (hce : ce ≤ room_1.cells ∧ sl ≤ room_1.slots) {σ : Sg} (hI : Inv σ) (hop : Op_pays Inv) (nx : ∀ υ, Inv υ → AVL l L0 xs ce sl 1281 [(0, .retAddr 98), (1, .ref 0), (2, .ref 233), (3, .ref 259), (4, .int y)] [] υ) : AVL l L0 xs ce sl 810 [(0, .retAddr 98), (1, .ref 0), (2, .ref 233), (3, .ref 259), (4, .int y)] [] σ := by
  have h := hop σ (xs (i + 1)) (xs (i + 2)) hI
  refine aw_aload_n (pc := 810) 1 dL_law_810 rfl ?_
  refine aw_aload_nS (pc := 811) 0 (by decide) dL_law_811 rfl ?_
  refine aw_iload (pc := 812) 4 dL_law_812 rfl ?_
  refine aw_iconst (pc := 814) 1 dL_law_814 (by decide) ?_
  refine aw_iadd (pc := 815) dL_law_815 ?_
  refine aw_xld (pc := 816) (j := i + 1) hXs dL_law_816 (hin 1 (by decide)) (hjx 1 (by decide)) ?_
  refine aw_aload_nS (pc := 817) 0 (by decide) dL_law_817 rfl ?_
  refine aw_iload (pc := 818) 4 dL_law_818 rfl ?_
  refine aw_iconst (pc := 820) 2 dL_law_820 (by decide) ?_
  refine aw_iadd (pc := 821) dL_law_821 ?_
  refine aw_xld (pc := 822) (j := i + 2) hXs dL_law_822 (hin 2 (by decide)) (hjx 2 (by decide)) ?_
  refine aw_callV (pc := 823) (As := [.int (xs (i + 1)), .int (xs (i + 2))]) (rest := []) kcX9 nn_0 ki_0 rfl (ev_X9_pays l (xs (i + 1)) (xs (i + 2)) h) mfX9_pays dL_law_823 lmL_105 hce (by decide +kernel) rfl rfl (Nat.le_of_ble_eq_true rfl) (nxI (fun r τ h => ?_))
  refine aw_aload_n (pc := 826) 2 dL_law_826 rfl ?_
  refine aw_aload_nS (pc := 827) 0 (by decide) dL_law_827 rfl ?_
  refine aw_iload (pc := 828) 4 dL_law_828 rfl ?_
  refine aw_iconst (pc := 830) 1 dL_law_830 (by decide) ?_
  refine aw_iadd (pc := 831) dL_law_831 ?_
  refine aw_xld (pc := 832) (j := i + 1) hXs dL_law_832 (hin 1 (by decide)) (hjx 1 (by decide)) ?_
  refine aw_aload_nS (pc := 833) 0 (by decide) dL_law_833 rfl ?_
  refine aw_iload (pc := 834) 4 dL_law_834 rfl ?_
  refine aw_iconst (pc := 836) 2 dL_law_836 (by decide) ?_
  refine aw_iadd (pc := 837) dL_law_837 ?_
  refine aw_xld (pc := 838) (j := i + 2) hXs dL_law_838 (hin 2 (by decide)) (hjx 2 (by decide)) ?_
  refine aw_callV (pc := 839) (As := [.int (xs (i + 1)), .int (xs (i + 2))]) (rest := [.int r]) kcX10 nn_233 ki_233 rfl (ev_X10_pays l (xs (i + 1)) (xs (i + 2)) h) mfX10_pays dL_law_839 lmL_108 hce (by decide +kernel) rfl rfl (Nat.le_of_ble_eq_true rfl) (nxI (fun r' υ h => ?_))
  refine aw_icmp_eq (pc := 842) 1281 dL_law_842 (by decide) (fun q => ?_) (fun q => absurd h.1 q)
  exact nx υ h.2
set_option maxRecDepth 20000 in
set_option maxHeartbeats 2000000 in
theorem law_mark (l : Launch) (hfl : l.stackTraces = false) {Inv : Sg → Prop} {L0 i : Nat} {xs : Nat → Int32} {y : Int32} {ce sl : Nat} (hXs : ∀ G args s c, XL L0 xs G args s c → gL G = L0 ∧ gxs G = xs) (hin : ∀ j : Nat, j < 5 → vp_in (y + Int32.ofNat j) L0) (hjx : ∀ j : Nat, j < 5 → (y + Int32.ofNat j).toNatClampNeg = i + j) (hce : ce ≤ room_1.cells ∧ sl ≤ room_1.slots) {σ : Sg} (hI : Inv σ) (hop : Op_mark Inv) (nx : ∀ υ, Inv υ → AVL l L0 xs ce sl 1281 [(0, .retAddr 98), (1, .ref 0), (2, .ref 233), (3, .ref 259), (4, .int y)] [] υ) : AVL l L0 xs ce sl 847 [(0, .retAddr 98), (1, .ref 0), (2, .ref 233), (3, .ref 259), (4, .int y)] [] σ := by
  have h := hop σ  hI
  refine aw_aload_n (pc := 847) 1 dL_law_847 rfl ?_
  refine aw_callV (pc := 848) (As := []) (rest := []) kcX9 nn_0 ki_0 rfl (ev_X9_mark l  h) mfX9_mark dL_law_848 lmL_109 hce (by decide +kernel) rfl rfl (Nat.le_of_ble_eq_true rfl) (nxL (fun r τ h => ?_))
  refine aw_aload_n (pc := 851) 2 dL_law_851 rfl ?_
  refine aw_callV (pc := 852) (As := []) (rest := [.long r]) kcX10 nn_233 ki_233 rfl (ev_X10_mark l  h) mfX10_mark dL_law_852 lmL_113 hce (by decide +kernel) rfl rfl (Nat.le_of_ble_eq_true rfl) (nxL (fun r' υ h => ?_))
  refine aw_lcmp (pc := 855) dL_law_855 ?_
  refine aw_if_eq (pc := 856) 1281 dL_law_856 (by decide) (fun q => ?_) (fun q => absurd (by rw [h.1]; exact lcmp_self _) q)
  exact nx υ h.2
set_option maxRecDepth 20000 in
set_option maxHeartbeats 2000000 in
theorem law_met (l : Launch) (hfl : l.stackTraces = false) {Inv : Sg → Prop} {L0 i : Nat} {xs : Nat → Int32} {y : Int32} {ce sl : Nat} (hXs : ∀ G args s c, XL L0 xs G args s c → gL G = L0 ∧ gxs G = xs) (hin : ∀ j : Nat, j < 5 → vp_in (y + Int32.ofNat j) L0) (hjx : ∀ j : Nat, j < 5 → (y + Int32.ofNat j).toNatClampNeg = i + j) (hce : ce ≤ room_1.cells ∧ sl ≤ room_1.slots) {σ : Sg} (hI : Inv σ) (hop : Op_met Inv) (nx : ∀ υ, Inv υ → AVL l L0 xs ce sl 1281 [(0, .retAddr 98), (1, .ref 0), (2, .ref 233), (3, .ref 259), (4, .int y)] [] υ) : AVL l L0 xs ce sl 861 [(0, .retAddr 98), (1, .ref 0), (2, .ref 233), (3, .ref 259), (4, .int y)] [] σ := by
  have h := hop σ (xs (i + 1)) hI
  refine aw_aload_n (pc := 861) 1 dL_law_861 rfl ?_
  refine aw_aload_nS (pc := 862) 0 (by decide) dL_law_862 rfl ?_
  refine aw_iload (pc := 863) 4 dL_law_863 rfl ?_
  refine aw_iconst (pc := 865) 1 dL_law_865 (by decide) ?_
  refine aw_iadd (pc := 866) dL_law_866 ?_
  refine aw_xld (pc := 867) (j := i + 1) hXs dL_law_867 (hin 1 (by decide)) (hjx 1 (by decide)) ?_
  refine aw_callV (pc := 868) (As := [.int (xs (i + 1))]) (rest := []) kcX9 nn_0 ki_0 rfl (ev_X9_met l (xs (i + 1)) h) mfX9_met dL_law_868 lmL_114 hce (by decide +kernel) rfl rfl (Nat.le_of_ble_eq_true rfl) (nxI (fun r τ h => ?_))
  refine aw_aload_n (pc := 871) 2 dL_law_871 rfl ?_
  refine aw_aload_nS (pc := 872) 0 (by decide) dL_law_872 rfl ?_
  refine aw_iload (pc := 873) 4 dL_law_873 rfl ?_
  refine aw_iconst (pc := 875) 1 dL_law_875 (by decide) ?_
  refine aw_iadd (pc := 876) dL_law_876 ?_
  refine aw_xld (pc := 877) (j := i + 1) hXs dL_law_877 (hin 1 (by decide)) (hjx 1 (by decide)) ?_
  refine aw_callV (pc := 878) (As := [.int (xs (i + 1))]) (rest := [.int r]) kcX10 nn_233 ki_233 rfl (ev_X10_met l (xs (i + 1)) h) mfX10_met dL_law_878 lmL_117 hce (by decide +kernel) rfl rfl (Nat.le_of_ble_eq_true rfl) (nxI (fun r' υ h => ?_))
  refine aw_icmp_eq (pc := 881) 1281 dL_law_881 (by decide) (fun q => ?_) (fun q => absurd h.1 q)
  exact nx υ h.2
set_option maxRecDepth 20000 in
set_option maxHeartbeats 2000000 in
theorem law_chain (l : Launch) (hfl : l.stackTraces = false) {Inv : Sg → Prop} {L0 i : Nat} {xs : Nat → Int32} {y : Int32} {ce sl : Nat} (hXs : ∀ G args s c, XL L0 xs G args s c → gL G = L0 ∧ gxs G = xs) (hin : ∀ j : Nat, j < 5 → vp_in (y + Int32.ofNat j) L0) (hjx : ∀ j : Nat, j < 5 → (y + Int32.ofNat j).toNatClampNeg = i + j) (hce : ce ≤ room_1.cells ∧ sl ≤ room_1.slots) {σ : Sg} (hI : Inv σ) (hop : Op_chain Inv) (nx : ∀ υ, Inv υ → AVL l L0 xs ce sl 1281 [(0, .retAddr 98), (1, .ref 0), (2, .ref 233), (3, .ref 259), (4, .int y)] [] υ) : AVL l L0 xs ce sl 886 [(0, .retAddr 98), (1, .ref 0), (2, .ref 233), (3, .ref 259), (4, .int y)] [] σ := by
  have h := hop σ (xs (i + 1)) (xs (i + 2)) hI
  refine aw_aload_n (pc := 886) 1 dL_law_886 rfl ?_
  refine aw_aload_nS (pc := 887) 0 (by decide) dL_law_887 rfl ?_
  refine aw_iload (pc := 888) 4 dL_law_888 rfl ?_
  refine aw_iconst (pc := 890) 1 dL_law_890 (by decide) ?_
  refine aw_iadd (pc := 891) dL_law_891 ?_
  refine aw_xld (pc := 892) (j := i + 1) hXs dL_law_892 (hin 1 (by decide)) (hjx 1 (by decide)) ?_
  refine aw_aload_nS (pc := 893) 0 (by decide) dL_law_893 rfl ?_
  refine aw_iload (pc := 894) 4 dL_law_894 rfl ?_
  refine aw_iconst (pc := 896) 2 dL_law_896 (by decide) ?_
  refine aw_iadd (pc := 897) dL_law_897 ?_
  refine aw_xld (pc := 898) (j := i + 2) hXs dL_law_898 (hin 2 (by decide)) (hjx 2 (by decide)) ?_
  refine aw_callV (pc := 899) (As := [.int (xs (i + 1)), .int (xs (i + 2))]) (rest := []) kcX9 nn_0 ki_0 rfl (ev_X9_chain l (xs (i + 1)) (xs (i + 2)) h) mfX9_chain dL_law_899 lmL_118 hce (by decide +kernel) rfl rfl (Nat.le_of_ble_eq_true rfl) (nxI (fun r τ h => ?_))
  refine aw_aload_n (pc := 902) 2 dL_law_902 rfl ?_
  refine aw_aload_nS (pc := 903) 0 (by decide) dL_law_903 rfl ?_
  refine aw_iload (pc := 904) 4 dL_law_904 rfl ?_
  refine aw_iconst (pc := 906) 1 dL_law_906 (by decide) ?_
  refine aw_iadd (pc := 907) dL_law_907 ?_
  refine aw_xld (pc := 908) (j := i + 1) hXs dL_law_908 (hin 1 (by decide)) (hjx 1 (by decide)) ?_
  refine aw_aload_nS (pc := 909) 0 (by decide) dL_law_909 rfl ?_
  refine aw_iload (pc := 910) 4 dL_law_910 rfl ?_
  refine aw_iconst (pc := 912) 2 dL_law_912 (by decide) ?_
  refine aw_iadd (pc := 913) dL_law_913 ?_
  refine aw_xld (pc := 914) (j := i + 2) hXs dL_law_914 (hin 2 (by decide)) (hjx 2 (by decide)) ?_
  refine aw_callV (pc := 915) (As := [.int (xs (i + 1)), .int (xs (i + 2))]) (rest := [.int r]) kcX10 nn_233 ki_233 rfl (ev_X10_chain l (xs (i + 1)) (xs (i + 2)) h) mfX10_chain dL_law_915 lmL_121 hce (by decide +kernel) rfl rfl (Nat.le_of_ble_eq_true rfl) (nxI (fun r' υ h => ?_))
  refine aw_icmp_eq (pc := 918) 1281 dL_law_918 (by decide) (fun q => ?_) (fun q => absurd h.1 q)
  exact nx υ h.2
set_option maxRecDepth 20000 in
set_option maxHeartbeats 2000000 in
theorem law_in (l : Launch) (hfl : l.stackTraces = false) {Inv : Sg → Prop} {L0 i : Nat} {xs : Nat → Int32} {y : Int32} {ce sl : Nat} (hXs : ∀ G args s c, XL L0 xs G args s c → gL G = L0 ∧ gxs G = xs) (hin : ∀ j : Nat, j < 5 → vp_in (y + Int32.ofNat j) L0) (hjx : ∀ j : Nat, j < 5 → (y + Int32.ofNat j).toNatClampNeg = i + j) (hce : ce ≤ room_1.cells ∧ sl ≤ room_1.slots) {σ : Sg} (hI : Inv σ) (hop : Op_in Inv) (nx : ∀ υ, Inv υ → AVL l L0 xs ce sl 1281 [(0, .retAddr 98), (1, .ref 0), (2, .ref 233), (3, .ref 259), (4, .int y)] [] υ) : AVL l L0 xs ce sl 923 [(0, .retAddr 98), (1, .ref 0), (2, .ref 233), (3, .ref 259), (4, .int y)] [] σ := by
  have h := hop σ (xs (i + 1)) hI
  refine aw_aload_n (pc := 923) 1 dL_law_923 rfl ?_
  refine aw_aload_nS (pc := 924) 0 (by decide) dL_law_924 rfl ?_
  refine aw_iload (pc := 925) 4 dL_law_925 rfl ?_
  refine aw_iconst (pc := 927) 1 dL_law_927 (by decide) ?_
  refine aw_iadd (pc := 928) dL_law_928 ?_
  refine aw_xld (pc := 929) (j := i + 1) hXs dL_law_929 (hin 1 (by decide)) (hjx 1 (by decide)) ?_
  refine aw_callV (pc := 930) (As := [.int (xs (i + 1))]) (rest := []) kcX9 nn_0 ki_0 rfl (ev_X9_in l (xs (i + 1)) h) mfX9_in dL_law_930 lmL_122 hce (by decide +kernel) rfl rfl (Nat.le_of_ble_eq_true rfl) (nxI (fun r τ h => ?_))
  refine aw_aload_n (pc := 933) 2 dL_law_933 rfl ?_
  refine aw_aload_nS (pc := 934) 0 (by decide) dL_law_934 rfl ?_
  refine aw_iload (pc := 935) 4 dL_law_935 rfl ?_
  refine aw_iconst (pc := 937) 1 dL_law_937 (by decide) ?_
  refine aw_iadd (pc := 938) dL_law_938 ?_
  refine aw_xld (pc := 939) (j := i + 1) hXs dL_law_939 (hin 1 (by decide)) (hjx 1 (by decide)) ?_
  refine aw_callV (pc := 940) (As := [.int (xs (i + 1))]) (rest := [.int r]) kcX10 nn_233 ki_233 rfl (ev_X10_in l (xs (i + 1)) h) mfX10_in dL_law_940 lmL_125 hce (by decide +kernel) rfl rfl (Nat.le_of_ble_eq_true rfl) (nxI (fun r' υ h => ?_))
  refine aw_icmp_eq (pc := 943) 1281 dL_law_943 (by decide) (fun q => ?_) (fun q => absurd h.1 q)
  exact nx υ h.2
set_option maxRecDepth 20000 in
set_option maxHeartbeats 2000000 in
theorem law_ranked (l : Launch) (hfl : l.stackTraces = false) {Inv : Sg → Prop} {L0 i : Nat} {xs : Nat → Int32} {y : Int32} {ce sl : Nat} (hXs : ∀ G args s c, XL L0 xs G args s c → gL G = L0 ∧ gxs G = xs) (hin : ∀ j : Nat, j < 5 → vp_in (y + Int32.ofNat j) L0) (hjx : ∀ j : Nat, j < 5 → (y + Int32.ofNat j).toNatClampNeg = i + j) (hce : ce ≤ room_1.cells ∧ sl ≤ room_1.slots) {σ : Sg} (hI : Inv σ) (hop : Op_ranked Inv) (nx : ∀ υ, Inv υ → AVL l L0 xs ce sl 1281 [(0, .retAddr 98), (1, .ref 0), (2, .ref 233), (3, .ref 259), (4, .int y)] [] υ) : AVL l L0 xs ce sl 948 [(0, .retAddr 98), (1, .ref 0), (2, .ref 233), (3, .ref 259), (4, .int y)] [] σ := by
  have h := hop σ (xs (i + 1)) hI
  refine aw_aload_n (pc := 948) 1 dL_law_948 rfl ?_
  refine aw_aload_nS (pc := 949) 0 (by decide) dL_law_949 rfl ?_
  refine aw_iload (pc := 950) 4 dL_law_950 rfl ?_
  refine aw_iconst (pc := 952) 1 dL_law_952 (by decide) ?_
  refine aw_iadd (pc := 953) dL_law_953 ?_
  refine aw_xld (pc := 954) (j := i + 1) hXs dL_law_954 (hin 1 (by decide)) (hjx 1 (by decide)) ?_
  refine aw_callV (pc := 955) (As := [.int (xs (i + 1))]) (rest := []) kcX9 nn_0 ki_0 rfl (ev_X9_ranked l (xs (i + 1)) h) mfX9_ranked dL_law_955 lmL_126 hce (by decide +kernel) rfl rfl (Nat.le_of_ble_eq_true rfl) (nxI (fun r τ h => ?_))
  refine aw_aload_n (pc := 958) 2 dL_law_958 rfl ?_
  refine aw_aload_nS (pc := 959) 0 (by decide) dL_law_959 rfl ?_
  refine aw_iload (pc := 960) 4 dL_law_960 rfl ?_
  refine aw_iconst (pc := 962) 1 dL_law_962 (by decide) ?_
  refine aw_iadd (pc := 963) dL_law_963 ?_
  refine aw_xld (pc := 964) (j := i + 1) hXs dL_law_964 (hin 1 (by decide)) (hjx 1 (by decide)) ?_
  refine aw_callV (pc := 965) (As := [.int (xs (i + 1))]) (rest := [.int r]) kcX10 nn_233 ki_233 rfl (ev_X10_ranked l (xs (i + 1)) h) mfX10_ranked dL_law_965 lmL_129 hce (by decide +kernel) rfl rfl (Nat.le_of_ble_eq_true rfl) (nxI (fun r' υ h => ?_))
  refine aw_icmp_eq (pc := 968) 1281 dL_law_968 (by decide) (fun q => ?_) (fun q => absurd h.1 q)
  exact nx υ h.2
set_option maxRecDepth 20000 in
set_option maxHeartbeats 2000000 in
theorem law_bands (l : Launch) (hfl : l.stackTraces = false) {Inv : Sg → Prop} {L0 i : Nat} {xs : Nat → Int32} {y : Int32} {ce sl : Nat} (hXs : ∀ G args s c, XL L0 xs G args s c → gL G = L0 ∧ gxs G = xs) (hin : ∀ j : Nat, j < 5 → vp_in (y + Int32.ofNat j) L0) (hjx : ∀ j : Nat, j < 5 → (y + Int32.ofNat j).toNatClampNeg = i + j) (hce : ce ≤ room_1.cells ∧ sl ≤ room_1.slots) {σ : Sg} (hI : Inv σ) (hop : Op_bands Inv) (nx : ∀ υ, Inv υ → AVL l L0 xs ce sl 1281 [(0, .retAddr 98), (1, .ref 0), (2, .ref 233), (3, .ref 259), (4, .int y)] [] υ) : AVL l L0 xs ce sl 973 [(0, .retAddr 98), (1, .ref 0), (2, .ref 233), (3, .ref 259), (4, .int y)] [] σ := by
  have h := hop σ  hI
  refine aw_aload_n (pc := 973) 1 dL_law_973 rfl ?_
  refine aw_callV (pc := 974) (As := []) (rest := []) kcX9 nn_0 ki_0 rfl (ev_X9_bands l  h) mfX9_bands dL_law_974 lmL_130 hce (by decide +kernel) rfl rfl (Nat.le_of_ble_eq_true rfl) (nxI (fun r τ h => ?_))
  refine aw_aload_n (pc := 977) 2 dL_law_977 rfl ?_
  refine aw_callV (pc := 978) (As := []) (rest := [.int r]) kcX10 nn_233 ki_233 rfl (ev_X10_bands l  h) mfX10_bands dL_law_978 lmL_133 hce (by decide +kernel) rfl rfl (Nat.le_of_ble_eq_true rfl) (nxI (fun r' υ h => ?_))
  refine aw_icmp_eq (pc := 981) 1281 dL_law_981 (by decide) (fun q => ?_) (fun q => absurd h.1 q)
  exact nx υ h.2
set_option maxRecDepth 20000 in
set_option maxHeartbeats 2000000 in
theorem law_brings (l : Launch) (hfl : l.stackTraces = false) {Inv : Sg → Prop} {L0 i : Nat} {xs : Nat → Int32} {y : Int32} {ce sl : Nat} (hXs : ∀ G args s c, XL L0 xs G args s c → gL G = L0 ∧ gxs G = xs) (hin : ∀ j : Nat, j < 5 → vp_in (y + Int32.ofNat j) L0) (hjx : ∀ j : Nat, j < 5 → (y + Int32.ofNat j).toNatClampNeg = i + j) (hce : ce ≤ room_1.cells ∧ sl ≤ room_1.slots) {σ : Sg} (hI : Inv σ) (hop : Op_brings Inv) (nx : ∀ υ, Inv υ → AVL l L0 xs ce sl 1281 [(0, .retAddr 98), (1, .ref 0), (2, .ref 233), (3, .ref 259), (4, .int y)] [] υ) : AVL l L0 xs ce sl 986 [(0, .retAddr 98), (1, .ref 0), (2, .ref 233), (3, .ref 259), (4, .int y)] [] σ := by
  have h := hop σ (xs (i + 1)) (xs (i + 2)) (xs (i + 3)) hI
  refine aw_aload_n (pc := 986) 1 dL_law_986 rfl ?_
  refine aw_aload_nS (pc := 987) 0 (by decide) dL_law_987 rfl ?_
  refine aw_iload (pc := 988) 4 dL_law_988 rfl ?_
  refine aw_iconst (pc := 990) 1 dL_law_990 (by decide) ?_
  refine aw_iadd (pc := 991) dL_law_991 ?_
  refine aw_xld (pc := 992) (j := i + 1) hXs dL_law_992 (hin 1 (by decide)) (hjx 1 (by decide)) ?_
  refine aw_aload_nS (pc := 993) 0 (by decide) dL_law_993 rfl ?_
  refine aw_iload (pc := 994) 4 dL_law_994 rfl ?_
  refine aw_iconst (pc := 996) 2 dL_law_996 (by decide) ?_
  refine aw_iadd (pc := 997) dL_law_997 ?_
  refine aw_xld (pc := 998) (j := i + 2) hXs dL_law_998 (hin 2 (by decide)) (hjx 2 (by decide)) ?_
  refine aw_aload_nS (pc := 999) 0 (by decide) dL_law_999 rfl ?_
  refine aw_iload (pc := 1000) 4 dL_law_1000 rfl ?_
  refine aw_iconst (pc := 1002) 3 dL_law_1002 (by decide) ?_
  refine aw_iadd (pc := 1003) dL_law_1003 ?_
  refine aw_xld (pc := 1004) (j := i + 3) hXs dL_law_1004 (hin 3 (by decide)) (hjx 3 (by decide)) ?_
  refine aw_callV (pc := 1005) (As := [.int (xs (i + 1)), .int (xs (i + 2)), .int (xs (i + 3))]) (rest := []) kcX9 nn_0 ki_0 rfl (ev_X9_brings l (xs (i + 1)) (xs (i + 2)) (xs (i + 3)) h) mfX9_brings dL_law_1005 lmL_134 hce (by decide +kernel) rfl rfl (Nat.le_of_ble_eq_true rfl) (nxI (fun r τ h => ?_))
  refine aw_aload_n (pc := 1008) 2 dL_law_1008 rfl ?_
  refine aw_aload_nS (pc := 1009) 0 (by decide) dL_law_1009 rfl ?_
  refine aw_iload (pc := 1010) 4 dL_law_1010 rfl ?_
  refine aw_iconst (pc := 1012) 1 dL_law_1012 (by decide) ?_
  refine aw_iadd (pc := 1013) dL_law_1013 ?_
  refine aw_xld (pc := 1014) (j := i + 1) hXs dL_law_1014 (hin 1 (by decide)) (hjx 1 (by decide)) ?_
  refine aw_aload_nS (pc := 1015) 0 (by decide) dL_law_1015 rfl ?_
  refine aw_iload (pc := 1016) 4 dL_law_1016 rfl ?_
  refine aw_iconst (pc := 1018) 2 dL_law_1018 (by decide) ?_
  refine aw_iadd (pc := 1019) dL_law_1019 ?_
  refine aw_xld (pc := 1020) (j := i + 2) hXs dL_law_1020 (hin 2 (by decide)) (hjx 2 (by decide)) ?_
  refine aw_aload_nS (pc := 1021) 0 (by decide) dL_law_1021 rfl ?_
  refine aw_iload (pc := 1022) 4 dL_law_1022 rfl ?_
  refine aw_iconst (pc := 1024) 3 dL_law_1024 (by decide) ?_
  refine aw_iadd (pc := 1025) dL_law_1025 ?_
  refine aw_xld (pc := 1026) (j := i + 3) hXs dL_law_1026 (hin 3 (by decide)) (hjx 3 (by decide)) ?_
  refine aw_callV (pc := 1027) (As := [.int (xs (i + 1)), .int (xs (i + 2)), .int (xs (i + 3))]) (rest := [.int r]) kcX10 nn_233 ki_233 rfl (ev_X10_brings l (xs (i + 1)) (xs (i + 2)) (xs (i + 3)) h) mfX10_brings dL_law_1027 lmL_137 hce (by decide +kernel) rfl rfl (Nat.le_of_ble_eq_true rfl) (nxI (fun r' υ h => ?_))
  refine aw_icmp_eq (pc := 1030) 1281 dL_law_1030 (by decide) (fun q => ?_) (fun q => absurd h.1 q)
  exact nx υ h.2
set_option maxRecDepth 20000 in
set_option maxHeartbeats 2000000 in
theorem law_least (l : Launch) (hfl : l.stackTraces = false) {Inv : Sg → Prop} {L0 i : Nat} {xs : Nat → Int32} {y : Int32} {ce sl : Nat} (hXs : ∀ G args s c, XL L0 xs G args s c → gL G = L0 ∧ gxs G = xs) (hin : ∀ j : Nat, j < 5 → vp_in (y + Int32.ofNat j) L0) (hjx : ∀ j : Nat, j < 5 → (y + Int32.ofNat j).toNatClampNeg = i + j) (hce : ce ≤ room_1.cells ∧ sl ≤ room_1.slots) {σ : Sg} (hI : Inv σ) (hop : Op_least Inv) (nx : ∀ υ, Inv υ → AVL l L0 xs ce sl 1281 [(0, .retAddr 98), (1, .ref 0), (2, .ref 233), (3, .ref 259), (4, .int y)] [] υ) : AVL l L0 xs ce sl 1035 [(0, .retAddr 98), (1, .ref 0), (2, .ref 233), (3, .ref 259), (4, .int y)] [] σ := by
  have h := hop σ (xs (i + 1)) (xs (i + 2)) (xs (i + 3)) hI
  refine aw_aload_n (pc := 1035) 1 dL_law_1035 rfl ?_
  refine aw_aload_nS (pc := 1036) 0 (by decide) dL_law_1036 rfl ?_
  refine aw_iload (pc := 1037) 4 dL_law_1037 rfl ?_
  refine aw_iconst (pc := 1039) 1 dL_law_1039 (by decide) ?_
  refine aw_iadd (pc := 1040) dL_law_1040 ?_
  refine aw_xld (pc := 1041) (j := i + 1) hXs dL_law_1041 (hin 1 (by decide)) (hjx 1 (by decide)) ?_
  refine aw_aload_nS (pc := 1042) 0 (by decide) dL_law_1042 rfl ?_
  refine aw_iload (pc := 1043) 4 dL_law_1043 rfl ?_
  refine aw_iconst (pc := 1045) 2 dL_law_1045 (by decide) ?_
  refine aw_iadd (pc := 1046) dL_law_1046 ?_
  refine aw_xld (pc := 1047) (j := i + 2) hXs dL_law_1047 (hin 2 (by decide)) (hjx 2 (by decide)) ?_
  refine aw_aload_nS (pc := 1048) 0 (by decide) dL_law_1048 rfl ?_
  refine aw_iload (pc := 1049) 4 dL_law_1049 rfl ?_
  refine aw_iconst (pc := 1051) 3 dL_law_1051 (by decide) ?_
  refine aw_iadd (pc := 1052) dL_law_1052 ?_
  refine aw_xld (pc := 1053) (j := i + 3) hXs dL_law_1053 (hin 3 (by decide)) (hjx 3 (by decide)) ?_
  refine aw_callV (pc := 1054) (As := [.int (xs (i + 1)), .int (xs (i + 2)), .int (xs (i + 3))]) (rest := []) kcX9 nn_0 ki_0 rfl (ev_X9_least l (xs (i + 1)) (xs (i + 2)) (xs (i + 3)) h) mfX9_least dL_law_1054 lmL_138 hce (by decide +kernel) rfl rfl (Nat.le_of_ble_eq_true rfl) (nxI (fun r τ h => ?_))
  refine aw_aload_n (pc := 1057) 2 dL_law_1057 rfl ?_
  refine aw_aload_nS (pc := 1058) 0 (by decide) dL_law_1058 rfl ?_
  refine aw_iload (pc := 1059) 4 dL_law_1059 rfl ?_
  refine aw_iconst (pc := 1061) 1 dL_law_1061 (by decide) ?_
  refine aw_iadd (pc := 1062) dL_law_1062 ?_
  refine aw_xld (pc := 1063) (j := i + 1) hXs dL_law_1063 (hin 1 (by decide)) (hjx 1 (by decide)) ?_
  refine aw_aload_nS (pc := 1064) 0 (by decide) dL_law_1064 rfl ?_
  refine aw_iload (pc := 1065) 4 dL_law_1065 rfl ?_
  refine aw_iconst (pc := 1067) 2 dL_law_1067 (by decide) ?_
  refine aw_iadd (pc := 1068) dL_law_1068 ?_
  refine aw_xld (pc := 1069) (j := i + 2) hXs dL_law_1069 (hin 2 (by decide)) (hjx 2 (by decide)) ?_
  refine aw_aload_nS (pc := 1070) 0 (by decide) dL_law_1070 rfl ?_
  refine aw_iload (pc := 1071) 4 dL_law_1071 rfl ?_
  refine aw_iconst (pc := 1073) 3 dL_law_1073 (by decide) ?_
  refine aw_iadd (pc := 1074) dL_law_1074 ?_
  refine aw_xld (pc := 1075) (j := i + 3) hXs dL_law_1075 (hin 3 (by decide)) (hjx 3 (by decide)) ?_
  refine aw_callV (pc := 1076) (As := [.int (xs (i + 1)), .int (xs (i + 2)), .int (xs (i + 3))]) (rest := [.int r]) kcX10 nn_233 ki_233 rfl (ev_X10_least l (xs (i + 1)) (xs (i + 2)) (xs (i + 3)) h) mfX10_least dL_law_1076 lmL_141 hce (by decide +kernel) rfl rfl (Nat.le_of_ble_eq_true rfl) (nxI (fun r' υ h => ?_))
  refine aw_icmp_eq (pc := 1079) 1281 dL_law_1079 (by decide) (fun q => ?_) (fun q => absurd h.1 q)
  exact nx υ h.2
set_option maxRecDepth 20000 in
set_option maxHeartbeats 2000000 in
theorem law_byCup (l : Launch) (hfl : l.stackTraces = false) {Inv : Sg → Prop} {L0 i : Nat} {xs : Nat → Int32} {y : Int32} {ce sl : Nat} (hXs : ∀ G args s c, XL L0 xs G args s c → gL G = L0 ∧ gxs G = xs) (hin : ∀ j : Nat, j < 5 → vp_in (y + Int32.ofNat j) L0) (hjx : ∀ j : Nat, j < 5 → (y + Int32.ofNat j).toNatClampNeg = i + j) (hce : ce ≤ room_1.cells ∧ sl ≤ room_1.slots) {σ : Sg} (hI : Inv σ) (hop : Op_byCup Inv) (nx : ∀ υ, Inv υ → AVL l L0 xs ce sl 1281 [(0, .retAddr 98), (1, .ref 0), (2, .ref 233), (3, .ref 259), (4, .int y)] [] υ) : AVL l L0 xs ce sl 1084 [(0, .retAddr 98), (1, .ref 0), (2, .ref 233), (3, .ref 259), (4, .int y)] [] σ := by
  have h := hop σ (xs (i + 1)) (xs (i + 2)) (xs (i + 3)) hI
  refine aw_aload_n (pc := 1084) 1 dL_law_1084 rfl ?_
  refine aw_aload_nS (pc := 1085) 0 (by decide) dL_law_1085 rfl ?_
  refine aw_iload (pc := 1086) 4 dL_law_1086 rfl ?_
  refine aw_iconst (pc := 1088) 1 dL_law_1088 (by decide) ?_
  refine aw_iadd (pc := 1089) dL_law_1089 ?_
  refine aw_xld (pc := 1090) (j := i + 1) hXs dL_law_1090 (hin 1 (by decide)) (hjx 1 (by decide)) ?_
  refine aw_aload_nS (pc := 1091) 0 (by decide) dL_law_1091 rfl ?_
  refine aw_iload (pc := 1092) 4 dL_law_1092 rfl ?_
  refine aw_iconst (pc := 1094) 2 dL_law_1094 (by decide) ?_
  refine aw_iadd (pc := 1095) dL_law_1095 ?_
  refine aw_xld (pc := 1096) (j := i + 2) hXs dL_law_1096 (hin 2 (by decide)) (hjx 2 (by decide)) ?_
  refine aw_aload_nS (pc := 1097) 0 (by decide) dL_law_1097 rfl ?_
  refine aw_iload (pc := 1098) 4 dL_law_1098 rfl ?_
  refine aw_iconst (pc := 1100) 3 dL_law_1100 (by decide) ?_
  refine aw_iadd (pc := 1101) dL_law_1101 ?_
  refine aw_xld (pc := 1102) (j := i + 3) hXs dL_law_1102 (hin 3 (by decide)) (hjx 3 (by decide)) ?_
  refine aw_callV (pc := 1103) (As := [.int (xs (i + 1)), .int (xs (i + 2)), .int (xs (i + 3))]) (rest := []) kcX9 nn_0 ki_0 rfl (ev_X9_byCup l (xs (i + 1)) (xs (i + 2)) (xs (i + 3)) h) mfX9_byCup dL_law_1103 lmL_142 hce (by decide +kernel) rfl rfl (Nat.le_of_ble_eq_true rfl) (nxI (fun r τ h => ?_))
  refine aw_aload_n (pc := 1106) 2 dL_law_1106 rfl ?_
  refine aw_aload_nS (pc := 1107) 0 (by decide) dL_law_1107 rfl ?_
  refine aw_iload (pc := 1108) 4 dL_law_1108 rfl ?_
  refine aw_iconst (pc := 1110) 1 dL_law_1110 (by decide) ?_
  refine aw_iadd (pc := 1111) dL_law_1111 ?_
  refine aw_xld (pc := 1112) (j := i + 1) hXs dL_law_1112 (hin 1 (by decide)) (hjx 1 (by decide)) ?_
  refine aw_aload_nS (pc := 1113) 0 (by decide) dL_law_1113 rfl ?_
  refine aw_iload (pc := 1114) 4 dL_law_1114 rfl ?_
  refine aw_iconst (pc := 1116) 2 dL_law_1116 (by decide) ?_
  refine aw_iadd (pc := 1117) dL_law_1117 ?_
  refine aw_xld (pc := 1118) (j := i + 2) hXs dL_law_1118 (hin 2 (by decide)) (hjx 2 (by decide)) ?_
  refine aw_aload_nS (pc := 1119) 0 (by decide) dL_law_1119 rfl ?_
  refine aw_iload (pc := 1120) 4 dL_law_1120 rfl ?_
  refine aw_iconst (pc := 1122) 3 dL_law_1122 (by decide) ?_
  refine aw_iadd (pc := 1123) dL_law_1123 ?_
  refine aw_xld (pc := 1124) (j := i + 3) hXs dL_law_1124 (hin 3 (by decide)) (hjx 3 (by decide)) ?_
  refine aw_callV (pc := 1125) (As := [.int (xs (i + 1)), .int (xs (i + 2)), .int (xs (i + 3))]) (rest := [.int r]) kcX10 nn_233 ki_233 rfl (ev_X10_byCup l (xs (i + 1)) (xs (i + 2)) (xs (i + 3)) h) mfX10_byCup dL_law_1125 lmL_145 hce (by decide +kernel) rfl rfl (Nat.le_of_ble_eq_true rfl) (nxI (fun r' υ h => ?_))
  refine aw_icmp_eq (pc := 1128) 1281 dL_law_1128 (by decide) (fun q => ?_) (fun q => absurd h.1 q)
  exact nx υ h.2
set_option maxRecDepth 20000 in
set_option maxHeartbeats 2000000 in
theorem law_fairest (l : Launch) (hfl : l.stackTraces = false) {Inv : Sg → Prop} {L0 i : Nat} {xs : Nat → Int32} {y : Int32} {ce sl : Nat} (hXs : ∀ G args s c, XL L0 xs G args s c → gL G = L0 ∧ gxs G = xs) (hin : ∀ j : Nat, j < 5 → vp_in (y + Int32.ofNat j) L0) (hjx : ∀ j : Nat, j < 5 → (y + Int32.ofNat j).toNatClampNeg = i + j) (hce : ce ≤ room_1.cells ∧ sl ≤ room_1.slots) {σ : Sg} (hI : Inv σ) (hop : Op_fairest Inv) (nx : ∀ υ, Inv υ → AVL l L0 xs ce sl 1281 [(0, .retAddr 98), (1, .ref 0), (2, .ref 233), (3, .ref 259), (4, .int y)] [] υ) : AVL l L0 xs ce sl 1133 [(0, .retAddr 98), (1, .ref 0), (2, .ref 233), (3, .ref 259), (4, .int y)] [] σ := by
  have h := hop σ (xs (i + 1)) hI
  refine aw_aload_n (pc := 1133) 1 dL_law_1133 rfl ?_
  refine aw_aload_nS (pc := 1134) 0 (by decide) dL_law_1134 rfl ?_
  refine aw_iload (pc := 1135) 4 dL_law_1135 rfl ?_
  refine aw_iconst (pc := 1137) 1 dL_law_1137 (by decide) ?_
  refine aw_iadd (pc := 1138) dL_law_1138 ?_
  refine aw_xld (pc := 1139) (j := i + 1) hXs dL_law_1139 (hin 1 (by decide)) (hjx 1 (by decide)) ?_
  refine aw_callV (pc := 1140) (As := [.int (xs (i + 1))]) (rest := []) kcX9 nn_0 ki_0 rfl (ev_X9_fairest l (xs (i + 1)) h) mfX9_fairest dL_law_1140 lmL_146 hce (by decide +kernel) rfl rfl (Nat.le_of_ble_eq_true rfl) (nxI (fun r τ h => ?_))
  refine aw_aload_n (pc := 1143) 2 dL_law_1143 rfl ?_
  refine aw_aload_nS (pc := 1144) 0 (by decide) dL_law_1144 rfl ?_
  refine aw_iload (pc := 1145) 4 dL_law_1145 rfl ?_
  refine aw_iconst (pc := 1147) 1 dL_law_1147 (by decide) ?_
  refine aw_iadd (pc := 1148) dL_law_1148 ?_
  refine aw_xld (pc := 1149) (j := i + 1) hXs dL_law_1149 (hin 1 (by decide)) (hjx 1 (by decide)) ?_
  refine aw_callV (pc := 1150) (As := [.int (xs (i + 1))]) (rest := [.int r]) kcX10 nn_233 ki_233 rfl (ev_X10_fairest l (xs (i + 1)) h) mfX10_fairest dL_law_1150 lmL_149 hce (by decide +kernel) rfl rfl (Nat.le_of_ble_eq_true rfl) (nxI (fun r' υ h => ?_))
  refine aw_icmp_eq (pc := 1153) 1281 dL_law_1153 (by decide) (fun q => ?_) (fun q => absurd h.1 q)
  exact nx υ h.2
set_option maxRecDepth 20000 in
set_option maxHeartbeats 2000000 in
theorem law_tempt (l : Launch) (hfl : l.stackTraces = false) {Inv : Sg → Prop} {L0 i : Nat} {xs : Nat → Int32} {y : Int32} {ce sl : Nat} (hXs : ∀ G args s c, XL L0 xs G args s c → gL G = L0 ∧ gxs G = xs) (hin : ∀ j : Nat, j < 5 → vp_in (y + Int32.ofNat j) L0) (hjx : ∀ j : Nat, j < 5 → (y + Int32.ofNat j).toNatClampNeg = i + j) (hce : ce ≤ room_1.cells ∧ sl ≤ room_1.slots) {σ : Sg} (hI : Inv σ) (hop : Op_tempt Inv) (nx : ∀ υ, Inv υ → AVL l L0 xs ce sl 1281 [(0, .retAddr 98), (1, .ref 0), (2, .ref 233), (3, .ref 259), (4, .int y)] [] υ) : AVL l L0 xs ce sl 1158 [(0, .retAddr 98), (1, .ref 0), (2, .ref 233), (3, .ref 259), (4, .int y)] [] σ := by
  have h := hop σ (xs (i + 1)) (xs (i + 2)) (xs (i + 3)) hI
  refine aw_aload_n (pc := 1158) 1 dL_law_1158 rfl ?_
  refine aw_aload_nS (pc := 1159) 0 (by decide) dL_law_1159 rfl ?_
  refine aw_iload (pc := 1160) 4 dL_law_1160 rfl ?_
  refine aw_iconst (pc := 1162) 1 dL_law_1162 (by decide) ?_
  refine aw_iadd (pc := 1163) dL_law_1163 ?_
  refine aw_xld (pc := 1164) (j := i + 1) hXs dL_law_1164 (hin 1 (by decide)) (hjx 1 (by decide)) ?_
  refine aw_aload_nS (pc := 1165) 0 (by decide) dL_law_1165 rfl ?_
  refine aw_iload (pc := 1166) 4 dL_law_1166 rfl ?_
  refine aw_iconst (pc := 1168) 2 dL_law_1168 (by decide) ?_
  refine aw_iadd (pc := 1169) dL_law_1169 ?_
  refine aw_xld (pc := 1170) (j := i + 2) hXs dL_law_1170 (hin 2 (by decide)) (hjx 2 (by decide)) ?_
  refine aw_aload_nS (pc := 1171) 0 (by decide) dL_law_1171 rfl ?_
  refine aw_iload (pc := 1172) 4 dL_law_1172 rfl ?_
  refine aw_iconst (pc := 1174) 3 dL_law_1174 (by decide) ?_
  refine aw_iadd (pc := 1175) dL_law_1175 ?_
  refine aw_xld (pc := 1176) (j := i + 3) hXs dL_law_1176 (hin 3 (by decide)) (hjx 3 (by decide)) ?_
  refine aw_callV (pc := 1177) (As := [.int (xs (i + 1)), .int (xs (i + 2)), .int (xs (i + 3))]) (rest := []) kcX9 nn_0 ki_0 rfl (ev_X9_tempt l (xs (i + 1)) (xs (i + 2)) (xs (i + 3)) h) mfX9_tempt dL_law_1177 lmL_150 hce (by decide +kernel) rfl rfl (Nat.le_of_ble_eq_true rfl) (nxI (fun r τ h => ?_))
  refine aw_aload_n (pc := 1180) 2 dL_law_1180 rfl ?_
  refine aw_aload_nS (pc := 1181) 0 (by decide) dL_law_1181 rfl ?_
  refine aw_iload (pc := 1182) 4 dL_law_1182 rfl ?_
  refine aw_iconst (pc := 1184) 1 dL_law_1184 (by decide) ?_
  refine aw_iadd (pc := 1185) dL_law_1185 ?_
  refine aw_xld (pc := 1186) (j := i + 1) hXs dL_law_1186 (hin 1 (by decide)) (hjx 1 (by decide)) ?_
  refine aw_aload_nS (pc := 1187) 0 (by decide) dL_law_1187 rfl ?_
  refine aw_iload (pc := 1188) 4 dL_law_1188 rfl ?_
  refine aw_iconst (pc := 1190) 2 dL_law_1190 (by decide) ?_
  refine aw_iadd (pc := 1191) dL_law_1191 ?_
  refine aw_xld (pc := 1192) (j := i + 2) hXs dL_law_1192 (hin 2 (by decide)) (hjx 2 (by decide)) ?_
  refine aw_aload_nS (pc := 1193) 0 (by decide) dL_law_1193 rfl ?_
  refine aw_iload (pc := 1194) 4 dL_law_1194 rfl ?_
  refine aw_iconst (pc := 1196) 3 dL_law_1196 (by decide) ?_
  refine aw_iadd (pc := 1197) dL_law_1197 ?_
  refine aw_xld (pc := 1198) (j := i + 3) hXs dL_law_1198 (hin 3 (by decide)) (hjx 3 (by decide)) ?_
  refine aw_callV (pc := 1199) (As := [.int (xs (i + 1)), .int (xs (i + 2)), .int (xs (i + 3))]) (rest := [.int r]) kcX10 nn_233 ki_233 rfl (ev_X10_tempt l (xs (i + 1)) (xs (i + 2)) (xs (i + 3)) h) mfX10_tempt dL_law_1199 lmL_153 hce (by decide +kernel) rfl rfl (Nat.le_of_ble_eq_true rfl) (nxI (fun r' υ h => ?_))
  refine aw_icmp_eq (pc := 1202) 1281 dL_law_1202 (by decide) (fun q => ?_) (fun q => absurd h.1 q)
  exact nx υ h.2
set_option maxRecDepth 20000 in
set_option maxHeartbeats 2000000 in
theorem law_ifGate (l : Launch) (hfl : l.stackTraces = false) {Inv : Sg → Prop} {L0 i : Nat} {xs : Nat → Int32} {y : Int32} {ce sl : Nat} (hXs : ∀ G args s c, XL L0 xs G args s c → gL G = L0 ∧ gxs G = xs) (hin : ∀ j : Nat, j < 5 → vp_in (y + Int32.ofNat j) L0) (hjx : ∀ j : Nat, j < 5 → (y + Int32.ofNat j).toNatClampNeg = i + j) (hce : ce ≤ room_1.cells ∧ sl ≤ room_1.slots) {σ : Sg} (hI : Inv σ) (hop : Op_ifGate Inv) (nx : ∀ υ, Inv υ → AVL l L0 xs ce sl 1281 [(0, .retAddr 98), (1, .ref 0), (2, .ref 233), (3, .ref 259), (4, .int y)] [] υ) : AVL l L0 xs ce sl 1207 [(0, .retAddr 98), (1, .ref 0), (2, .ref 233), (3, .ref 259), (4, .int y)] [] σ := by
  have h := hop σ (xs (i + 1)) (xs (i + 2)) (xs (i + 3)) hI
  refine aw_aload_n (pc := 1207) 1 dL_law_1207 rfl ?_
  refine aw_aload_nS (pc := 1208) 0 (by decide) dL_law_1208 rfl ?_
  refine aw_iload (pc := 1209) 4 dL_law_1209 rfl ?_
  refine aw_iconst (pc := 1211) 1 dL_law_1211 (by decide) ?_
  refine aw_iadd (pc := 1212) dL_law_1212 ?_
  refine aw_xld (pc := 1213) (j := i + 1) hXs dL_law_1213 (hin 1 (by decide)) (hjx 1 (by decide)) ?_
  refine aw_aload_nS (pc := 1214) 0 (by decide) dL_law_1214 rfl ?_
  refine aw_iload (pc := 1215) 4 dL_law_1215 rfl ?_
  refine aw_iconst (pc := 1217) 2 dL_law_1217 (by decide) ?_
  refine aw_iadd (pc := 1218) dL_law_1218 ?_
  refine aw_xld (pc := 1219) (j := i + 2) hXs dL_law_1219 (hin 2 (by decide)) (hjx 2 (by decide)) ?_
  refine aw_aload_nS (pc := 1220) 0 (by decide) dL_law_1220 rfl ?_
  refine aw_iload (pc := 1221) 4 dL_law_1221 rfl ?_
  refine aw_iconst (pc := 1223) 3 dL_law_1223 (by decide) ?_
  refine aw_iadd (pc := 1224) dL_law_1224 ?_
  refine aw_xld (pc := 1225) (j := i + 3) hXs dL_law_1225 (hin 3 (by decide)) (hjx 3 (by decide)) ?_
  refine aw_callV (pc := 1226) (As := [.int (xs (i + 1)), .int (xs (i + 2)), .int (xs (i + 3))]) (rest := []) kcX9 nn_0 ki_0 rfl (ev_X9_ifGate l (xs (i + 1)) (xs (i + 2)) (xs (i + 3)) h) mfX9_ifGate dL_law_1226 lmL_154 hce (by decide +kernel) rfl rfl (Nat.le_of_ble_eq_true rfl) (nxI (fun r τ h => ?_))
  refine aw_aload_n (pc := 1229) 2 dL_law_1229 rfl ?_
  refine aw_aload_nS (pc := 1230) 0 (by decide) dL_law_1230 rfl ?_
  refine aw_iload (pc := 1231) 4 dL_law_1231 rfl ?_
  refine aw_iconst (pc := 1233) 1 dL_law_1233 (by decide) ?_
  refine aw_iadd (pc := 1234) dL_law_1234 ?_
  refine aw_xld (pc := 1235) (j := i + 1) hXs dL_law_1235 (hin 1 (by decide)) (hjx 1 (by decide)) ?_
  refine aw_aload_nS (pc := 1236) 0 (by decide) dL_law_1236 rfl ?_
  refine aw_iload (pc := 1237) 4 dL_law_1237 rfl ?_
  refine aw_iconst (pc := 1239) 2 dL_law_1239 (by decide) ?_
  refine aw_iadd (pc := 1240) dL_law_1240 ?_
  refine aw_xld (pc := 1241) (j := i + 2) hXs dL_law_1241 (hin 2 (by decide)) (hjx 2 (by decide)) ?_
  refine aw_aload_nS (pc := 1242) 0 (by decide) dL_law_1242 rfl ?_
  refine aw_iload (pc := 1243) 4 dL_law_1243 rfl ?_
  refine aw_iconst (pc := 1245) 3 dL_law_1245 (by decide) ?_
  refine aw_iadd (pc := 1246) dL_law_1246 ?_
  refine aw_xld (pc := 1247) (j := i + 3) hXs dL_law_1247 (hin 3 (by decide)) (hjx 3 (by decide)) ?_
  refine aw_callV (pc := 1248) (As := [.int (xs (i + 1)), .int (xs (i + 2)), .int (xs (i + 3))]) (rest := [.int r]) kcX10 nn_233 ki_233 rfl (ev_X10_ifGate l (xs (i + 1)) (xs (i + 2)) (xs (i + 3)) h) mfX10_ifGate dL_law_1248 lmL_157 hce (by decide +kernel) rfl rfl (Nat.le_of_ble_eq_true rfl) (nxI (fun r' υ h => ?_))
  refine aw_icmp_eq (pc := 1251) 1281 dL_law_1251 (by decide) (fun q => ?_) (fun q => absurd h.1 q)
  exact nx υ h.2
set_option maxRecDepth 20000 in
set_option maxHeartbeats 2000000 in
theorem law_count (l : Launch) (hfl : l.stackTraces = false) {Inv : Sg → Prop} {L0 i : Nat} {xs : Nat → Int32} {y : Int32} {ce sl : Nat} (hXs : ∀ G args s c, XL L0 xs G args s c → gL G = L0 ∧ gxs G = xs) (hin : ∀ j : Nat, j < 5 → vp_in (y + Int32.ofNat j) L0) (hjx : ∀ j : Nat, j < 5 → (y + Int32.ofNat j).toNatClampNeg = i + j) (hce : ce ≤ room_1.cells ∧ sl ≤ room_1.slots) {σ : Sg} (hI : Inv σ) (hop : Op_count Inv) (nx : ∀ υ, Inv υ → AVL l L0 xs ce sl 1281 [(0, .retAddr 98), (1, .ref 0), (2, .ref 233), (3, .ref 259), (4, .int y)] [] υ) : AVL l L0 xs ce sl 1256 [(0, .retAddr 98), (1, .ref 0), (2, .ref 233), (3, .ref 259), (4, .int y)] [] σ := by
  have h := hop σ (xs (i + 1)) hI
  refine aw_aload_n (pc := 1256) 1 dL_law_1256 rfl ?_
  refine aw_aload_nS (pc := 1257) 0 (by decide) dL_law_1257 rfl ?_
  refine aw_iload (pc := 1258) 4 dL_law_1258 rfl ?_
  refine aw_iconst (pc := 1260) 1 dL_law_1260 (by decide) ?_
  refine aw_iadd (pc := 1261) dL_law_1261 ?_
  refine aw_xld (pc := 1262) (j := i + 1) hXs dL_law_1262 (hin 1 (by decide)) (hjx 1 (by decide)) ?_
  refine aw_callV (pc := 1263) (As := [.int (xs (i + 1))]) (rest := []) kcX9 nn_0 ki_0 rfl (ev_X9_count l (xs (i + 1)) h) mfX9_count dL_law_1263 lmL_158 hce (by decide +kernel) rfl rfl (Nat.le_of_ble_eq_true rfl) (nxI (fun r τ h => ?_))
  refine aw_aload_n (pc := 1266) 2 dL_law_1266 rfl ?_
  refine aw_aload_nS (pc := 1267) 0 (by decide) dL_law_1267 rfl ?_
  refine aw_iload (pc := 1268) 4 dL_law_1268 rfl ?_
  refine aw_iconst (pc := 1270) 1 dL_law_1270 (by decide) ?_
  refine aw_iadd (pc := 1271) dL_law_1271 ?_
  refine aw_xld (pc := 1272) (j := i + 1) hXs dL_law_1272 (hin 1 (by decide)) (hjx 1 (by decide)) ?_
  refine aw_callV (pc := 1273) (As := [.int (xs (i + 1))]) (rest := [.int r]) kcX10 nn_233 ki_233 rfl (ev_X10_count l (xs (i + 1)) h) mfX10_count dL_law_1273 lmL_161 hce (by decide +kernel) rfl rfl (Nat.le_of_ble_eq_true rfl) (nxI (fun r' υ h => ?_))
  refine aw_icmp_eq (pc := 1276) 1281 dL_law_1276 (by decide) (fun q => ?_) (fun q => absurd h.1 q)
  exact nx υ h.2
set_option maxRecDepth 40000 in
set_option maxHeartbeats 4000000 in
theorem law_body (l : Launch) (hfl : l.stackTraces = false) {Inv : Sg → Prop} (hops : Ops Inv) {L0 i : Nat} {xs : Nat → Int32} {y : Int32} {ce sl : Nat} (hXs : ∀ G args s c, XL L0 xs G args s c → gL G = L0 ∧ gxs G = xs) (hin : ∀ j : Nat, j < 5 → vp_in (y + Int32.ofNat j) L0) (hjx : ∀ j : Nat, j < 5 → (y + Int32.ofNat j).toNatClampNeg = i + j) (hce : ce ≤ room_1.cells ∧ sl ≤ room_1.slots) (hcm : ce + 1 ≤ room_1.cells ∧ sl + 6 ≤ room_1.slots) {σ : Sg} (hI : Inv σ)
    (nx : ∀ υ, Inv υ → ∀ ce' sl', ce' ≤ ce + 1 → sl' ≤ sl + 6 → AVL l L0 xs ce' sl' 1281 [(0, .retAddr 98), (1, .ref 0), (2, .ref 233), (3, .ref 259), (4, .int y)] [] υ) : AVL l L0 xs ce sl 39 [(0, .retAddr 98), (1, .ref 0), (2, .ref 233), (3, .ref 259), (4, .int y)] [.int (xs i &&& 63)] σ := by
  by_cases q0 : xs i &&& 63 = 0
  · refine aw_tableIn (pc := 39) 184 dL_law_39 (by rw [q0]; decide) (by rw [q0]; decide) (by rw [q0]; rfl) (by decide) ?_
    exact law_sign l hfl hXs hin hjx hce hI (hops.1) (fun υ hυ => nx υ hυ _ _ (Nat.le_succ _) (Nat.le_add_right _ _))
  by_cases q1 : xs i &&& 63 = 1
  · refine aw_tableIn (pc := 39) 209 dL_law_39 (by rw [q1]; decide) (by rw [q1]; decide) (by rw [q1]; rfl) (by decide) ?_
    exact law_end l hfl hXs hin hjx hce hI (hops.2.1) (fun υ hυ => nx υ hυ _ _ (Nat.le_succ _) (Nat.le_add_right _ _))
  by_cases q2 : xs i &&& 63 = 2
  · refine aw_tableIn (pc := 39) 234 dL_law_39 (by rw [q2]; decide) (by rw [q2]; decide) (by rw [q2]; rfl) (by decide) ?_
    exact law_book l hfl hXs hin hjx hce hI (hops.2.2.1) (fun υ hυ => nx υ hυ _ _ (Nat.le_succ _) (Nat.le_add_right _ _))
  by_cases q3 : xs i &&& 63 = 3
  · refine aw_tableIn (pc := 39) 247 dL_law_39 (by rw [q3]; decide) (by rw [q3]; decide) (by rw [q3]; rfl) (by decide) ?_
    exact law_deeds l hfl hXs hin hjx hce hI (hops.2.2.2.1) (fun υ hυ => nx υ hυ _ _ (Nat.le_succ _) (Nat.le_add_right _ _))
  by_cases q4 : xs i &&& 63 = 4
  · refine aw_tableIn (pc := 39) 260 dL_law_39 (by rw [q4]; decide) (by rw [q4]; decide) (by rw [q4]; rfl) (by decide) ?_
    exact law_fault l hfl hXs hin hjx hce hI (hops.2.2.2.2.1) (fun υ hυ => nx υ hυ _ _ (Nat.le_succ _) (Nat.le_add_right _ _))
  by_cases q5 : xs i &&& 63 = 5
  · refine aw_tableIn (pc := 39) 285 dL_law_39 (by rw [q5]; decide) (by rw [q5]; decide) (by rw [q5]; rfl) (by decide) ?_
    exact law_tie l hfl hXs hin hjx hce hI (hops.2.2.2.2.2.1) (fun υ hυ => nx υ hυ _ _ (Nat.le_succ _) (Nat.le_add_right _ _))
  by_cases q6 : xs i &&& 63 = 6
  · refine aw_tableIn (pc := 39) 346 dL_law_39 (by rw [q6]; decide) (by rw [q6]; decide) (by rw [q6]; rfl) (by decide) ?_
    exact law_play l hfl hXs hin hjx hce hI (hops.2.2.2.2.2.2.1) (fun υ hυ => nx υ hυ _ _ (Nat.le_succ _) (Nat.le_add_right _ _))
  by_cases q7 : xs i &&& 63 = 7
  · refine aw_tableIn (pc := 39) 395 dL_law_39 (by rw [q7]; decide) (by rw [q7]; decide) (by rw [q7]; rfl) (by decide) ?_
    exact law_close l hfl hXs hin hjx hce hI (hops.2.2.2.2.2.2.2.1) (fun υ hυ => nx υ hυ _ _ (Nat.le_succ _) (Nat.le_add_right _ _))
  by_cases q8 : xs i &&& 63 = 8
  · refine aw_tableIn (pc := 39) 432 dL_law_39 (by rw [q8]; decide) (by rw [q8]; decide) (by rw [q8]; rfl) (by decide) ?_
    exact law_undo l hfl hXs hin hjx hce hI (hops.2.2.2.2.2.2.2.2.1) (fun υ hυ => nx υ hυ _ _ (Nat.le_succ _) (Nat.le_add_right _ _))
  by_cases q9 : xs i &&& 63 = 9
  · refine aw_tableIn (pc := 39) 445 dL_law_39 (by rw [q9]; decide) (by rw [q9]; decide) (by rw [q9]; rfl) (by decide) ?_
    exact law_keep l hfl hXs hin hjx hce hI (hops.2.2.2.2.2.2.2.2.2.1) (fun υ hυ => nx υ hυ _ _ (Nat.le_succ _) (Nat.le_add_right _ _))
  by_cases q10 : xs i &&& 63 = 10
  · refine aw_tableIn (pc := 39) 470 dL_law_39 (by rw [q10]; decide) (by rw [q10]; decide) (by rw [q10]; rfl) (by decide) ?_
    exact law_again l hfl hXs hin hjx hce hI (hops.2.2.2.2.2.2.2.2.2.2.1) (fun υ hυ => nx υ hυ _ _ (Nat.le_succ _) (Nat.le_add_right _ _))
  by_cases q11 : xs i &&& 63 = 11
  · refine aw_tableIn (pc := 39) 495 dL_law_39 (by rw [q11]; decide) (by rw [q11]; decide) (by rw [q11]; rfl) (by decide) ?_
    exact law_club l hfl hXs hin hjx hce hcm hI (hops.2.2.2.2.2.2.2.2.2.2.2.1) (fun υ hυ => nx υ hυ _ _ (Nat.le_refl _) (Nat.le_refl _))
  by_cases q12 : xs i &&& 63 = 12
  · refine aw_tableIn (pc := 39) 563 dL_law_39 (by rw [q12]; decide) (by rw [q12]; decide) (by rw [q12]; rfl) (by decide) ?_
    exact law_cup l hfl hXs hin hjx hce hI (hops.2.2.2.2.2.2.2.2.2.2.2.2.1) (fun υ hυ => nx υ hυ _ _ (Nat.le_succ _) (Nat.le_add_right _ _))
  by_cases q13 : xs i &&& 63 = 13
  · refine aw_tableIn (pc := 39) 600 dL_law_39 (by rw [q13]; decide) (by rw [q13]; decide) (by rw [q13]; rfl) (by decide) ?_
    exact law_tieOf l hfl hXs hin hjx hce hI (hops.2.2.2.2.2.2.2.2.2.2.2.2.2.1) (fun υ hυ => nx υ hυ _ _ (Nat.le_succ _) (Nat.le_add_right _ _))
  by_cases q14 : xs i &&& 63 = 14
  · refine aw_tableIn (pc := 39) 637 dL_law_39 (by rw [q14]; decide) (by rw [q14]; decide) (by rw [q14]; rfl) (by decide) ?_
    exact law_game l hfl hXs hin hjx hce hI (hops.2.2.2.2.2.2.2.2.2.2.2.2.2.2.1) (fun υ hυ => nx υ hυ _ _ (Nat.le_succ _) (Nat.le_add_right _ _))
  by_cases q15 : xs i &&& 63 = 15
  · refine aw_tableIn (pc := 39) 686 dL_law_39 (by rw [q15]; decide) (by rw [q15]; decide) (by rw [q15]; rfl) (by decide) ?_
    exact law_pool l hfl hXs hin hjx hce hI (hops.2.2.2.2.2.2.2.2.2.2.2.2.2.2.2.1) (fun υ hυ => nx υ hυ _ _ (Nat.le_succ _) (Nat.le_add_right _ _))
  by_cases q16 : xs i &&& 63 = 16
  · refine aw_tableIn (pc := 39) 735 dL_law_39 (by rw [q16]; decide) (by rw [q16]; decide) (by rw [q16]; rfl) (by decide) ?_
    exact law_all l hfl hXs hin hjx hce hI (hops.2.2.2.2.2.2.2.2.2.2.2.2.2.2.2.2.1) (fun υ hυ => nx υ hυ _ _ (Nat.le_succ _) (Nat.le_add_right _ _))
  by_cases q17 : xs i &&& 63 = 17
  · refine aw_tableIn (pc := 39) 760 dL_law_39 (by rw [q17]; decide) (by rw [q17]; decide) (by rw [q17]; rfl) (by decide) ?_
    exact law_balance l hfl hXs hin hjx hce hI (hops.2.2.2.2.2.2.2.2.2.2.2.2.2.2.2.2.2.1) (fun υ hυ => nx υ hυ _ _ (Nat.le_succ _) (Nat.le_add_right _ _))
  by_cases q18 : xs i &&& 63 = 18
  · refine aw_tableIn (pc := 39) 785 dL_law_39 (by rw [q18]; decide) (by rw [q18]; decide) (by rw [q18]; rfl) (by decide) ?_
    exact law_fewest l hfl hXs hin hjx hce hI (hops.2.2.2.2.2.2.2.2.2.2.2.2.2.2.2.2.2.2.1) (fun υ hυ => nx υ hυ _ _ (Nat.le_succ _) (Nat.le_add_right _ _))
  by_cases q19 : xs i &&& 63 = 19
  · refine aw_tableIn (pc := 39) 810 dL_law_39 (by rw [q19]; decide) (by rw [q19]; decide) (by rw [q19]; rfl) (by decide) ?_
    exact law_pays l hfl hXs hin hjx hce hI (hops.2.2.2.2.2.2.2.2.2.2.2.2.2.2.2.2.2.2.2.1) (fun υ hυ => nx υ hυ _ _ (Nat.le_succ _) (Nat.le_add_right _ _))
  by_cases q20 : xs i &&& 63 = 20
  · refine aw_tableIn (pc := 39) 847 dL_law_39 (by rw [q20]; decide) (by rw [q20]; decide) (by rw [q20]; rfl) (by decide) ?_
    exact law_mark l hfl hXs hin hjx hce hI (hops.2.2.2.2.2.2.2.2.2.2.2.2.2.2.2.2.2.2.2.2.1) (fun υ hυ => nx υ hυ _ _ (Nat.le_succ _) (Nat.le_add_right _ _))
  by_cases q21 : xs i &&& 63 = 21
  · refine aw_tableIn (pc := 39) 861 dL_law_39 (by rw [q21]; decide) (by rw [q21]; decide) (by rw [q21]; rfl) (by decide) ?_
    exact law_met l hfl hXs hin hjx hce hI (hops.2.2.2.2.2.2.2.2.2.2.2.2.2.2.2.2.2.2.2.2.2.1) (fun υ hυ => nx υ hυ _ _ (Nat.le_succ _) (Nat.le_add_right _ _))
  by_cases q22 : xs i &&& 63 = 22
  · refine aw_tableIn (pc := 39) 886 dL_law_39 (by rw [q22]; decide) (by rw [q22]; decide) (by rw [q22]; rfl) (by decide) ?_
    exact law_chain l hfl hXs hin hjx hce hI (hops.2.2.2.2.2.2.2.2.2.2.2.2.2.2.2.2.2.2.2.2.2.2.1) (fun υ hυ => nx υ hυ _ _ (Nat.le_succ _) (Nat.le_add_right _ _))
  by_cases q23 : xs i &&& 63 = 23
  · refine aw_tableIn (pc := 39) 923 dL_law_39 (by rw [q23]; decide) (by rw [q23]; decide) (by rw [q23]; rfl) (by decide) ?_
    exact law_in l hfl hXs hin hjx hce hI (hops.2.2.2.2.2.2.2.2.2.2.2.2.2.2.2.2.2.2.2.2.2.2.2.1) (fun υ hυ => nx υ hυ _ _ (Nat.le_succ _) (Nat.le_add_right _ _))
  by_cases q24 : xs i &&& 63 = 24
  · refine aw_tableIn (pc := 39) 948 dL_law_39 (by rw [q24]; decide) (by rw [q24]; decide) (by rw [q24]; rfl) (by decide) ?_
    exact law_ranked l hfl hXs hin hjx hce hI (hops.2.2.2.2.2.2.2.2.2.2.2.2.2.2.2.2.2.2.2.2.2.2.2.2.1) (fun υ hυ => nx υ hυ _ _ (Nat.le_succ _) (Nat.le_add_right _ _))
  by_cases q25 : xs i &&& 63 = 25
  · refine aw_tableIn (pc := 39) 973 dL_law_39 (by rw [q25]; decide) (by rw [q25]; decide) (by rw [q25]; rfl) (by decide) ?_
    exact law_bands l hfl hXs hin hjx hce hI (hops.2.2.2.2.2.2.2.2.2.2.2.2.2.2.2.2.2.2.2.2.2.2.2.2.2.1) (fun υ hυ => nx υ hυ _ _ (Nat.le_succ _) (Nat.le_add_right _ _))
  by_cases q26 : xs i &&& 63 = 26
  · refine aw_tableIn (pc := 39) 986 dL_law_39 (by rw [q26]; decide) (by rw [q26]; decide) (by rw [q26]; rfl) (by decide) ?_
    exact law_brings l hfl hXs hin hjx hce hI (hops.2.2.2.2.2.2.2.2.2.2.2.2.2.2.2.2.2.2.2.2.2.2.2.2.2.2.1) (fun υ hυ => nx υ hυ _ _ (Nat.le_succ _) (Nat.le_add_right _ _))
  by_cases q27 : xs i &&& 63 = 27
  · refine aw_tableIn (pc := 39) 1035 dL_law_39 (by rw [q27]; decide) (by rw [q27]; decide) (by rw [q27]; rfl) (by decide) ?_
    exact law_least l hfl hXs hin hjx hce hI (hops.2.2.2.2.2.2.2.2.2.2.2.2.2.2.2.2.2.2.2.2.2.2.2.2.2.2.2.1) (fun υ hυ => nx υ hυ _ _ (Nat.le_succ _) (Nat.le_add_right _ _))
  by_cases q28 : xs i &&& 63 = 28
  · refine aw_tableIn (pc := 39) 1084 dL_law_39 (by rw [q28]; decide) (by rw [q28]; decide) (by rw [q28]; rfl) (by decide) ?_
    exact law_byCup l hfl hXs hin hjx hce hI (hops.2.2.2.2.2.2.2.2.2.2.2.2.2.2.2.2.2.2.2.2.2.2.2.2.2.2.2.2.1) (fun υ hυ => nx υ hυ _ _ (Nat.le_succ _) (Nat.le_add_right _ _))
  by_cases q29 : xs i &&& 63 = 29
  · refine aw_tableIn (pc := 39) 1133 dL_law_39 (by rw [q29]; decide) (by rw [q29]; decide) (by rw [q29]; rfl) (by decide) ?_
    exact law_fairest l hfl hXs hin hjx hce hI (hops.2.2.2.2.2.2.2.2.2.2.2.2.2.2.2.2.2.2.2.2.2.2.2.2.2.2.2.2.2.1) (fun υ hυ => nx υ hυ _ _ (Nat.le_succ _) (Nat.le_add_right _ _))
  by_cases q30 : xs i &&& 63 = 30
  · refine aw_tableIn (pc := 39) 1158 dL_law_39 (by rw [q30]; decide) (by rw [q30]; decide) (by rw [q30]; rfl) (by decide) ?_
    exact law_tempt l hfl hXs hin hjx hce hI (hops.2.2.2.2.2.2.2.2.2.2.2.2.2.2.2.2.2.2.2.2.2.2.2.2.2.2.2.2.2.2.1) (fun υ hυ => nx υ hυ _ _ (Nat.le_succ _) (Nat.le_add_right _ _))
  by_cases q31 : xs i &&& 63 = 31
  · refine aw_tableIn (pc := 39) 1207 dL_law_39 (by rw [q31]; decide) (by rw [q31]; decide) (by rw [q31]; rfl) (by decide) ?_
    exact law_ifGate l hfl hXs hin hjx hce hI (hops.2.2.2.2.2.2.2.2.2.2.2.2.2.2.2.2.2.2.2.2.2.2.2.2.2.2.2.2.2.2.2.1) (fun υ hυ => nx υ hυ _ _ (Nat.le_succ _) (Nat.le_add_right _ _))
  by_cases q32 : xs i &&& 63 = 32
  · refine aw_tableIn (pc := 39) 1256 dL_law_39 (by rw [q32]; decide) (by rw [q32]; decide) (by rw [q32]; rfl) (by decide) ?_
    exact law_count l hfl hXs hin hjx hce hI (hops.2.2.2.2.2.2.2.2.2.2.2.2.2.2.2.2.2.2.2.2.2.2.2.2.2.2.2.2.2.2.2.2) (fun υ hυ => nx υ hυ _ _ (Nat.le_succ _) (Nat.le_add_right _ _))
  have t0 := lv_neT (a := 0) q0 rfl
  have t1 := lv_neT (a := 1) q1 rfl
  have t2 := lv_neT (a := 2) q2 rfl
  have t3 := lv_neT (a := 3) q3 rfl
  have t4 := lv_neT (a := 4) q4 rfl
  have t5 := lv_neT (a := 5) q5 rfl
  have t6 := lv_neT (a := 6) q6 rfl
  have t7 := lv_neT (a := 7) q7 rfl
  have t8 := lv_neT (a := 8) q8 rfl
  have t9 := lv_neT (a := 9) q9 rfl
  have t10 := lv_neT (a := 10) q10 rfl
  have t11 := lv_neT (a := 11) q11 rfl
  have t12 := lv_neT (a := 12) q12 rfl
  have t13 := lv_neT (a := 13) q13 rfl
  have t14 := lv_neT (a := 14) q14 rfl
  have t15 := lv_neT (a := 15) q15 rfl
  have t16 := lv_neT (a := 16) q16 rfl
  have t17 := lv_neT (a := 17) q17 rfl
  have t18 := lv_neT (a := 18) q18 rfl
  have t19 := lv_neT (a := 19) q19 rfl
  have t20 := lv_neT (a := 20) q20 rfl
  have t21 := lv_neT (a := 21) q21 rfl
  have t22 := lv_neT (a := 22) q22 rfl
  have t23 := lv_neT (a := 23) q23 rfl
  have t24 := lv_neT (a := 24) q24 rfl
  have t25 := lv_neT (a := 25) q25 rfl
  have t26 := lv_neT (a := 26) q26 rfl
  have t27 := lv_neT (a := 27) q27 rfl
  have t28 := lv_neT (a := 28) q28 rfl
  have t29 := lv_neT (a := 29) q29 rfl
  have t30 := lv_neT (a := 30) q30 rfl
  have t31 := lv_neT (a := 31) q31 rfl
  have t32 := lv_neT (a := 32) q32 rfl
  exact aw_tableOut (pc := 39) 1281 dL_law_39 (by omega) (by decide) (nx σ hI _ _ (Nat.le_succ _) (Nat.le_add_right _ _))
theorem law_exit (l : Launch) {L0 : Nat} {xs : Nat → Int32} {L : List (Nat × Value)} {ce sl : Nat} {σ : Sg} (h1 : ce ≤ 601024) (h2 : sl ≤ 7293034) : AVL l L0 xs ce sl 1287 L [] σ := by
  refine aw_iconst (pc := 1287) 1 dL_law_1287 (by decide) ?_
  intro G p e s m args below meth c H locs ls hX C hP hS hl
  obtain ⟨hx, hb, hml, hr, hlk, hown, hts, hK⟩ := id C
  obtain ⟨-, hG, rfl⟩ := hX
  refine va_forget (fun q hq => by rw [← hG]; exact hS.2.2 q hq) ?_
  refine W.widen (k := 601024) (n := 7293034) h1 h2 ?_
  exact lw_ret hx hb hr hlk dL_law_1288
theorem law_gt {L0 i : Nat} (hL : L0 ≤ 2560) (h : L0 < i + 5) (hi : i ≤ L0 + 5) : Int32.ofNat L0 - 5 < nI i := by
  show nI L0 - nI 5 < nI i
  rw [Int32.lt_iff_toInt_lt, pk_sub_toInt (by omega) (by omega), nI_toInt (by omega)]
  omega
set_option maxRecDepth 20000 in
set_option maxHeartbeats 2000000 in
theorem law_loop (l : Launch) (hfl : l.stackTraces = false) {Inv : Sg → Prop} (hops : Ops Inv) {L0 : Nat} (hL : L0 ≤ 2560) (xs : Nat → Int32) : ∀ (k i : Nat) (σ : Sg), L0 < i + 5 * k → i ≤ L0 + 5 → Inv σ → ∀ ce sl, ce ≤ 300 + i → sl ≤ 60000 + 10 * i → AVL l L0 xs ce sl 23 [(0, .retAddr 98), (1, .ref 0), (2, .ref 233), (3, .ref 259), (4, .int (nI i))] [] σ := by
  intro k
  induction k with
  | zero =>
    intro i σ hk hi hI ce sl hce hsl
    refine aw_iload (pc := 23) 4 dL_law_23 rfl ?_
    refine aw_aload_nS (pc := 25) 0 (by decide) dL_law_25 rfl ?_
    refine aw_xlen (pc := 26) (L0 := L0) (xs := xs) (fun _ _ _ _ h => h.1) dL_law_26 ?_
    refine aw_iconst (pc := 27) 5 dL_law_27 (by decide) ?_
    refine aw_isub (pc := 28) dL_law_28 ?_
    refine aw_icmp_gt (pc := 29) 1287 dL_law_29 (by decide) (fun q => law_exit l (by omega) (by omega)) (fun q => ?_)
    exact absurd (law_gt hL (by omega) (by omega)) q
  | succ k ih =>
    intro i σ hk hi hI ce sl hce hsl
    refine aw_iload (pc := 23) 4 dL_law_23 rfl ?_
    refine aw_aload_nS (pc := 25) 0 (by decide) dL_law_25 rfl ?_
    refine aw_xlen (pc := 26) (L0 := L0) (xs := xs) (fun _ _ _ _ h => h.1) dL_law_26 ?_
    refine aw_iconst (pc := 27) 5 dL_law_27 (by decide) ?_
    refine aw_isub (pc := 28) dL_law_28 ?_
    refine aw_icmp_gt (pc := 29) 1287 dL_law_29 (by decide) (fun q => law_exit l (by omega) (by omega)) (fun q => ?_)
    have h5 : i + 5 ≤ L0 := by
      rcases Nat.lt_or_ge L0 (i + 5) with h | h
      · exact absurd (law_gt hL h hi) q
      · exact h
    have hin : ∀ j : Nat, j < 5 → vp_in (nI i + Int32.ofNat j) L0 := fun j hj => by
      show vp_in (nI i + nI j) L0
      rw [nI_add]
      exact vp_in_nI (by omega) (by omega)
    have hjx : ∀ j : Nat, j < 5 → (nI i + Int32.ofNat j).toNatClampNeg = i + j := fun j hj => by
      show (nI i + nI j).toNatClampNeg = i + j
      rw [nI_add]
      exact nI_clamp (by omega)
    refine aw_aload_nS (pc := 32) 0 (by decide) dL_law_32 rfl ?_
    refine aw_iload (pc := 33) 4 dL_law_33 rfl ?_
    refine aw_xld (pc := 35) (j := i) (fun _ _ _ _ h => h.1) dL_law_35 (vp_in_nI (by omega) (by omega)) (nI_clamp (by omega)) ?_
    refine aw_bipush (pc := 36) 63 dL_law_36 (by decide) ?_
    refine aw_iand (pc := 38) dL_law_38 ?_
    refine law_body l hfl hops (fun _ _ _ _ h => h.1) hin hjx ⟨?_, ?_⟩ ⟨?_, ?_⟩ hI (fun υ hυ ce' sl' c1 c2 => ?_)
    · show ce ≤ 601024
      omega
    · show sl ≤ 7293034
      omega
    · show ce + 1 ≤ 601024
      omega
    · show sl + 6 ≤ 7293034
      omega
    · refine aw_iinc (pc := 1281) 4 (nI (i + 5)) [(4, .int (nI (i + 5))), (0, .retAddr 98), (1, .ref 0), (2, .ref 233), (3, .ref 259)] dL_law_1281 rfl (by show nI i + nI 5 = nI (i + 5); exact nI_add i 5) (by decide) rfl ?_
      refine aw_goto (pc := 1284) 23 dL_law_1284 (by decide) ?_
      refine aw_sub (L' := [(0, .retAddr 98), (1, .ref 0), (2, .ref 233), (3, .ref 259), (4, .int (nI (i + 5)))]) [1, 2, 3, 4, 0] rfl ?_
      exact ih (i + 5) υ (by omega) (by omega) hυ ce' sl' (by omega) (by omega)
