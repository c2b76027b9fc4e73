def BW (G : Gx) : Sg → State → Prop := fun u t => va_P (gD G) vwCl (WL G u) t.heap
def BX (G : Gx) : String → Sg → State → Prop := fun E u t => E = NSE ∧ va_P (gD G) vwCl (WL G u) t.heap
def RmX : Room := { frames := 7, cells := 1, slots := 6, locals := 37 * 7 }
abbrev AVX (l : Launch) (K : Int32 → Sg → Prop) (KX : Sg → Prop) (pc : Nat) (L : List (Nat × Value)) (st : List Value) (σ : Sg) : Prop :=
  AVg (fun _ _ _ c => ∀ x ∈ c.exceptionTable.toList, False) l RX9 cX9_club 3 (some .int) RmX 0 0 (fun G args s below => vx_MQ below (va_Qi K (BW G) (Ab G)) (vx_X KX (BX G) (Ab G)) args s 1 6 (Ab G)) pc L st σ
theorem awx_iret {l : Launch} {K : Int32 → Sg → Prop} {KX : Sg → Prop} {pc : Nat} {L : List (Nat × Value)} {σ : Sg} {v : Int32} (hd : decode cX9_club pc = .ok (.ireturn, 1)) (q : K v σ) : AVX l K KX pc L [.int v] σ := by
  intro G p e s m args below meth c H locs ls hX C hP hS hl
  obtain ⟨hx, hb, hml, hr, hlk, hown, hts, hK⟩ := id C
  refine vx_ret (W.widen (k := 1) (n := 6) (by decide) (by decide) ?_)
  exact W.iret hx hb hr (fun t ht hW => ⟨⟨v, σ, rfl, q, by show va_P _ _ _ t.heap; rw [ht]; exact hP⟩, hS.F ht⟩) hS.2.2 hd hlk
theorem thr_ins : Cond.instantiable NSE 6 ∈ TBg := List.mem_filter.mpr ⟨wsC_in.2.2.2.2.2.2, by decide⟩
theorem awx_throw {l : Launch} {K : Int32 → Sg → Prop} {KX : Sg → Prop} {L : List (Nat × Value)} {σ : Sg} (hfl : l.stackTraces = false) (q : KX σ) : AVX l K KX 18 L [] σ := by
  intro G p e s m args below meth c H locs ls hX C hP hS hl
  obtain ⟨hx, hb, hml, hr, hlk, hown, hts, hK⟩ := id C
  obtain ⟨k1, k2, k3, k4, k5, k6, k7, k8, hU, hN, k9⟩ := id hK
  have hstr := k3 ("CupPot", 190, "no such club, or no such thing of a club", 14) (by decide)
  exact throwT hx hb hfl hown hts hstr hU hN hS (by rw [hml]; exact hl.1) dX9_club_18 dX9_club_21 dX9_club_22 dX9_club_24 dX9_club_27 (fun x hx' => (hX x hx').elim) (by decide) (Nat.le_of_ble_eq_true rfl) (by decide) (by decide) hlk
    (fun t ha h1 h2 => ⟨σ, q, ⟨rfl, hP.kept (fun k q9 hk => h2 _ (hP k q9 hk).lt)⟩, ⟨Nat.le_trans hS.1 h1, fun q9 hq hA => (h2 q9 (Nat.lt_of_lt_of_le hq hS.1)).trans (hS.2.1 q9 hq hA)⟩⟩) hS.2.2 (by decide) (by decide)
def bx_club_18 (x1 : Int32) (x2 : Int32)  (K : Int32 → Sg → Prop) (KX : Sg → Prop)  (σ : Sg) : Prop :=
  KX σ
set_option maxRecDepth 20000 in
set_option maxHeartbeats 2000000 in
theorem btx_club_18 (l : Launch) (hfl : l.stackTraces = false) (x1 : Int32) (x2 : Int32) {K : Int32 → Sg → Prop} {KX : Sg → Prop}     (σ : Sg) (h : bx_club_18 x1 x2 K KX  σ) : AVX l K KX 18 [] [] σ := by
  exact awx_throw hfl h
def wpx_club (x1 : Int32) (x2 : Int32) (σ : Sg) (K : Int32 → Sg → Prop) (KX : Sg → Prop) : Prop :=
  wp_X9_isClub x1 σ <| fun r2_ τ2 => (br (r2_ = 0) (bx_club_18 x1 x2 K KX  τ2) (br (x2 < 0) (bx_club_18 x1 x2 K KX  τ2) (br (x2 < 12) (br (2 < x2) (wp_X9_reckon  τ2 <| fun τ46 => (vp_in x1 12 ∧ (vp_in x2 12 ∧ (K (τ46 (181 + 1 + x1.toNatClampNeg) x2.toNatClampNeg) τ46)))) (vp_in x1 12 ∧ (vp_in x2 3 ∧ (K (τ2 (4 + 1 + x1.toNatClampNeg) x2.toNatClampNeg) τ2)))) (bx_club_18 x1 x2 K KX  τ2))))

set_option maxRecDepth 20000 in
set_option maxHeartbeats 2000000 in
theorem walkx_club (l : Launch) (hfl : l.stackTraces = false) (x1 x2 : Int32) {σ : Sg} {K : Int32 → Sg → Prop} {KX : Sg → Prop} (h : wpx_club x1 x2 σ K KX) : AVX l K KX 0 [(0, .ref 0), (1, .int x1), (2, .int x2)] [] σ := by
  refine aw_aload_n (pc := 0) 0 dX9_club_0 rfl ?_
  refine aw_iload_n (pc := 1) 1 dX9_club_1 rfl ?_
  refine aw_callV (pc := 2) (As := [.int x1]) (rest := []) kcX9 nn_0 ki_0 rfl (ev_X9_isClub l x1 h) mfX9_isClub dX9_club_2 lmX9_185 ⟨Nat.zero_le _, Nat.zero_le _⟩ (by decide) rfl rfl (Nat.le_of_ble_eq_true rfl) (nxI (fun r2_ τ2 h => ?_))
  refine aw_if_eq (pc := 5) 18 dX9_club_5 (by decide) (fun q => ?_) (fun q => ?_)
  · have h := h.1 q
    refine aw_sub (L' := []) [] rfl ?_
    exact btx_club_18 l hfl x1 x2     _ h
  · have h := h.2 q
    refine aw_iload_n (pc := 8) 2 dX9_club_8 rfl ?_
    refine aw_if_lt (pc := 9) 18 dX9_club_9 (by decide) (fun q => ?_) (fun q => ?_)
    · have h := h.1 q
      refine aw_sub (L' := []) [] rfl ?_
      exact btx_club_18 l hfl x1 x2     _ h
    · have h := h.2 q
      refine aw_iload_n (pc := 12) 2 dX9_club_12 rfl ?_
      refine aw_bipush (pc := 13) 12 dX9_club_13 (by decide) ?_
      refine aw_icmp_lt (pc := 15) 28 dX9_club_15 (by decide) (fun q => ?_) (fun q => ?_)
      · have h := h.1 q
        refine aw_iload_n (pc := 28) 2 dX9_club_28 rfl ?_
        refine aw_iconst (pc := 29) 2 dX9_club_29 (by decide) ?_
        refine aw_icmp_gt (pc := 30) 45 dX9_club_30 (by decide) (fun q => ?_) (fun q => ?_)
        · have h := h.1 q
          refine aw_aload_n (pc := 45) 0 dX9_club_45 rfl ?_
          refine aw_callV (pc := 46) (As := []) (rest := []) kcX9 nn_0 ki_0 rfl (ev_X9_reckon l  h) mfX9_reckon dX9_club_46 lmX9_171 ⟨Nat.zero_le _, Nat.zero_le _⟩ (by decide) rfl rfl (Nat.le_of_ble_eq_true rfl) (nxV (fun τ46 h => ?_))
          refine aw_aload_n (pc := 49) 0 dX9_club_49 rfl ?_
          refine aw_getR (pc := 50) 9 kcX9 dX9_club_50 lfX9_73 nn_0 ki_0 (by decide) rfl rf_0_9 ?_
          refine aw_getRN (pc := 53) 0 kcX3 dX9_club_53 lfnX9_198 nn_180 ki_180 (by decide) rfl rf_180_0 ?_
          refine aw_iload_n (pc := 56) 1 dX9_club_56 rfl ?_
          have hin57 := h.1
          have h := h.2
          refine aw_aldI (pc := 57) dX9_club_57 nn_181 ki_181 ln_181 hin57 (rf15 ki_181) ?_
          refine aw_iload_n (pc := 58) 2 dX9_club_58 rfl ?_
          refine aw_iald (pc := 59) (j := x2.toNatClampNeg) dX9_club_59 (row_181 _ (vp_lt hin57)).1 (row_181 _ (vp_lt hin57)).2.1 (row_181 _ (vp_lt hin57)).2.2 h.1 rfl ?_
          have h := h.2
          exact awx_iret (pc := 60) dX9_club_60 h
        · have h := h.2 q
          refine aw_aload_n (pc := 33) 0 dX9_club_33 rfl ?_
          refine aw_getR (pc := 34) 1 kcX9 dX9_club_34 lfX9_21 nn_0 ki_0 (by decide) rfl rf_0_1 ?_
          refine aw_getRN (pc := 37) 2 kcX5 dX9_club_37 lfnX9_195 nn_3 ki_3 (by decide) rfl rf_3_2 ?_
          refine aw_iload_n (pc := 40) 1 dX9_club_40 rfl ?_
          have hin41 := h.1
          have h := h.2
          refine aw_aldI (pc := 41) dX9_club_41 nn_4 ki_4 ln_4 hin41 (rf15 ki_4) ?_
          refine aw_iload_n (pc := 42) 2 dX9_club_42 rfl ?_
          refine aw_iald (pc := 43) (j := x2.toNatClampNeg) dX9_club_43 (row_4 _ (vp_lt hin41)).1 (row_4 _ (vp_lt hin41)).2.1 (row_4 _ (vp_lt hin41)).2.2 h.1 rfl ?_
          have h := h.2
          exact awx_iret (pc := 44) dX9_club_44 h
      · have h := h.2 q
        refine aw_sub (L' := []) [] rfl ?_
        exact btx_club_18 l hfl x1 x2     _ h
theorem evx_club (l : Launch) (hfl : l.stackTraces = false) (x1 x2 : Int32) {σ : Sg} {K : Int32 → Sg → Prop} {KX : Sg → Prop} (h : wpx_club x1 x2 σ K KX) (G : Gx) : vx_Met l yX9_club (wsO yX9_club cX9_club 3 (some .int)) RmX (PA G [.ref 0, .int x1, .int x2] σ) (va_Qi K (BW G) (Ab G)) (vx_X KX (BX G) (Ab G)) 1 6 (Ab G) := by
  refine vx_ofW (cc := cX9_club) (maxL := 3) (ret := some .int) (by decide) rfl ?_
  intro p e s m args below meth c s₁ B hml hex hv
  obtain ⟨rfl, hP, hK⟩ := hv
  have hts := atoms_spec (ws := wsO yX9_club cX9_club 3 (some .int)) B.pre
  have hl := lv_entry (([.ref 0, .int x1, .int x2] : List Value).map (tv G)) (n := 3) (Nat.le_of_ble_eq_true rfl)
  rw [lg_entry_eq]
  rw [lv_args_tv] at hl
  exact walkx_club l hfl x1 x2 h G p e s m _ below meth c s.heap [] _ hex ⟨B.exec, B.bytes, hml, B.returns, B.notSynchronized, findClass_of_methodNamed B.named, fun w hw => hts w (List.mem_cons_of_mem _ hw), hK⟩ hP va_S.rf hl
section AWX
variable {X : Gx → Array Value → State → Code → Prop} {l : Launch} {own : String} {cc : ByteArray} {nL : Nat} {ret : Option FieldType} {R : Room} {ce sl : Nat} {QQ : Gx → Array Value → State → List Frame → State → Prop} {pc : Nat} {L : List (Nat × Value)} {st : List Value} {σ : Sg}
theorem el_l {G : Gx} {k : Nat} (hki : ki k = 16) : el G σ k = .inl (cy G 16, ln k, .inr (.inl (fun j => (σ k j).toInt64))) := by
  unfold el
  rw [if_neg (by omega), if_neg (by omega), if_pos hki]
theorem aw_lald {k N j : Nat} {i : Int32} (hd : decode cc pc = .ok (.laload, 1)) (hk : k < NN) (hki : ki k = 16) (hln : ln k = N) (hi : vp_in i N) (hj : i.toNatClampNeg = j) (n : AVg X l own cc nL ret R ce sl QQ (pc + 1) L (.long (σ k j).toInt64 :: st) σ) : AVg X l own cc nL ret R ce sl QQ pc L (.int i :: .ref k :: st) σ := by
  intro G p e s m args below meth c H locs ls hX C hP hS hl
  obtain ⟨hx, hb, hml, hr, hlk, hown, hts, hK⟩ := id C
  subst hj
  exact va_lald (f := fun j => (σ k j).toInt64) hx hb hK.1 hP k 5 (by rw [WL_get hk, el_l hki]) rfl (by rw [hln]; exact hi) hd (n G p e s m args below meth c H locs ls hX C hP hS hl)
theorem aw_last {k N j : Nat} {i v : Int32} (hd : decode cc pc = .ok (.lastore, 1)) (hk : k < NN) (hki : ki k = 16) (hln : ln k = N) (hi : vp_in i N) (hj : i.toNatClampNeg = j) (n : AVg X l own cc nL ret R ce sl QQ (pc + 1) L st (up σ k j v)) : AVg X l own cc nL ret R ce sl QQ pc L (.long v.toInt64 :: .int i :: .ref k :: st) σ := by
  intro G p e s m args below meth c H locs ls hX C hP hS hl
  obtain ⟨hx, hb, hml, hr, hlk, hown, hts, hK⟩ := id C
  subst hj
  refine va_last (f := fun j => (σ k j).toInt64) hx hb hK.1 hP (WL_D G σ) hS k 5 (by rw [WL_get hk, el_l hki]) rfl (by rw [hln]; exact hi) hd (fun H locs hP _ hS => ?_)
  refine n G p e s m args below meth c H locs ls hX C ?_ hS hl
  rw [← WL_set (σ := σ) (τ := up σ k i.toNatClampNeg v) (k := k) rfl up_ne, el_l hki, up_k]
  have e : (fun j => (upd (σ k) i.toNatClampNeg v j).toInt64) = vp_updL (fun j => (σ k j).toInt64) i.toNatClampNeg v.toInt64 := by
    funext j
    unfold upd vp_updL
    split <;> rfl
  rw [e]
  exact hP
theorem aw_widen {ce' sl' : Nat} (h1 : ce ≤ ce') (h2 : sl ≤ sl') (n : AVg X l own cc nL ret R ce' sl' QQ pc L st σ) : AVg X l own cc nL ret R ce sl QQ pc L st σ := by
  intro G p e s m args below meth c H locs ls hX C hP hS hl
  exact W.widen h1 h2 (n G p e s m args below meth c H locs ls hX C hP hS hl)
end AWX
/-- the law's own club: 0 and the answer in out, or 1 -/
def wsC : List Cond := Cond.codeWith yL_club cL_club 5 (some .int) [(0, 10, 13, 13)] :: TBg
def RmC2 : Room := { frames := 8, cells := 1, slots := 6, locals := 37 * 8 }
abbrev AVC (l : Launch) (ce sl : Nat) (K : Int32 → Sg → Prop) (pc : Nat) (L : List (Nat × Value)) (st : List Value) (σ : Sg) : Prop :=
  AVg (fun _ _ _ c => c.exceptionTable.toList = tableOf [(0, 10, 13, 13)]) l RL cL_club 5 (some .int) RmC2 ce sl (fun G args s below => MQ below (QA G (qI K)) args s 1 6 (Ab G)) pc L st σ
theorem awc_iret {l : Launch} {K : Int32 → Sg → Prop} {pc : Nat} {L : List (Nat × Value)} {σ : Sg} {v : Int32} (hd : decode cL_club pc = .ok (.ireturn, 1)) (q : K v σ) : AVC l 1 6 K pc L [.int v] σ := by
  intro G p e s m args below meth c H locs ls hX C hP hS hl
  obtain ⟨hx, hb, hml, hr, hlk, hown, hts, hK⟩ := id C
  exact W.iret hx hb hr (fun t ht hW => ⟨⟨some (.int v), σ, rfl, ⟨_, rfl, q⟩, by rw [ht]; exact hP⟩, hS.F ht⟩) hS.2.2 hd hlk
theorem clk_1 : Cond.classLink RL 13 NSE ∈ TBg ∧ Cond.methodLink RL 7 yX9_club ∈ TBg := ⟨tb_in 1123 (by decide +kernel) rfl, tb_in 1124 (by decide +kernel) rfl⟩
set_option maxRecDepth 20000 in
set_option maxHeartbeats 2000000 in
theorem walkc_club (l : Launch) (hfl : l.stackTraces = false) (x1 x2 : Int32) {σ : Sg} {K : Int32 → Sg → Prop} (h : wpx_club x1 x2 σ (fun r τ => K 0 (up τ 259 0 r)) (fun τ => K 1 τ)) : AVC l 0 0 K 0 [(0, .ref 0), (1, .int x1), (2, .int x2), (3, .ref 259)] [] σ := by
  refine aw_aload_n (pc := 0) 3 dL_club_0 rfl ?_
  refine aw_iconst (pc := 1) 0 dL_club_1 (by decide) ?_
  refine aw_aload_n (pc := 2) 0 dL_club_2 rfl ?_
  refine aw_iload_n (pc := 3) 1 dL_club_3 rfl ?_
  refine aw_iload_n (pc := 4) 2 dL_club_4 rfl ?_
  intro G p e s m args below meth c H locs ls hX C hP hS hl
  obtain ⟨hx, hb, hml, hr, hlk, hown, hts, hK⟩ := id C
  have hrec : ∃ cellB : Cell, H[G.1 + 0]? = some cellB ∧ cellB.vm.isStatics = false ∧ s.vm.findClass RX9 = some cellB.cls := by
    have h1 := hP 0 _ (WL_get nn_0)
    rw [el_o ki_0 kcX9.2.2.2.2.2] at h1
    obtain ⟨r, q1, cell, q2, q3, q4, -⟩ := h1
    exact ⟨cell, q2, by rw [q4]; rfl, by rw [q3]; exact (hK.1.1 9 _ kcX9.1).2.1⟩
  have hrun := vx_runV (e := e) (below := below) (meth := meth) (C := RX9) (Ts := TBg) (b := G.1 + 0) (As := [.int x1, .int x2]) (rest := [.int 0, .ref (G.1 + 259)]) (g := F0 m 5 ls (([.int x2, .int x1, .ref 0, .int 0, .ref 259] : List Value).map (tv G))) (cells := 0) (slots := 0) (R := RmC2) (locs := locs) ⟨hx, hb, hml, hown, hts⟩ (evx_club l hfl x1 x2 h G) ⟨callB_of 2 hts (wsO_good mfX9_club.1) rfl rfl rfl (hts _ mfX9_club.2.2.2.1) (hts _ clk_1.2) mfX9_club.2.2.2.2 (by decide), hts _ mfX9_club.2.1, hts _ mfX9_club.2.2.1⟩ ⟨PA_blind _ _ _, hrec, fun U hU hW => ⟨rfl, by rw [hU]; exact hP, hK.call hS hU hW⟩⟩ rfl rfl hl.1 rfl (lv_room (Nat.le_of_ble_eq_true rfl)) dL_club_5 ⟨by decide, by decide⟩
  refine vx_calli hrun hS (fun _ _ h => h) (fun _ h => h) (fun _ _ h => h) ?_ ?_
  · intro E cell q9 u t H1 locs1 ht hal hu hBX hz hk hS1 hcell hv hcl
    obtain ⟨rfl, hP1⟩ := hBX
    rw [ht] at hP1
    refine vx_catch (own := RL) (name := NSE) (E := NSE) hown [] ⟨0, 10, 13, 13⟩ [] hX (fun z hz => by cases hz) rfl (by decide) (hts _ clk_1.1) (cast_self (hts _ thr_ins)) hcell hv hcl ?_
    refine lv_astore hx hb dL_club_13 hl (by decide) rfl (fun ls hl => ?_)
    have hl2 : lv_has ls 5 (([] : List (Nat × Value)).map (tq G)) := lv_sub hl [] rfl
    have hw : AVC l 1 6 K 15 [] [] u := by
      refine aw_iconst (pc := 15) 1 dL_club_15 (by decide) ?_
      exact awc_iret (pc := 16) dL_club_16 hu
    exact hw G p e s m args below meth c H1 locs1 ls hX C hP1 hS1 hl2
  · intro r u t H1 locs1 ht hal hu hBW hz hk hS1
    have hP1 : va_P (gD G) vwCl (WL G u) H1 := by rw [← ht]; exact hBW
    have hw : AVC l 1 6 K 8 [(0, .ref 0), (1, .int x1), (2, .int x2), (3, .ref 259)] [.int r, .int 0, .ref 259] u := by
      refine aw_i2l (pc := 8) dL_club_8 ?_
      refine aw_last (pc := 9) (j := 0) (v := r) dL_club_9 nn_259 ki_259 ln_259 (show vp_in _ _ by unfold vp_in; decide) (by decide) ?_
      refine aw_goto (pc := 10) 17 dL_club_10 (by decide) ?_
      refine aw_iconst (pc := 17) 0 dL_club_17 (by decide) ?_
      exact awc_iret (pc := 18) dL_club_18 hu
    exact hw G p e s m args below meth c H1 locs1 ls hX C hP1 hS1 hl
theorem evc_club (l : Launch) (hfl : l.stackTraces = false) (x1 x2 : Int32) {σ : Sg} {K : Int32 → Sg → Prop} (h : wpx_club x1 x2 σ (fun r τ => K 0 (up τ 259 0 r)) (fun τ => K 1 τ)) (G : Gx) : Met l yL_club wsC RmC2 (PA G [.ref 0, .int x1, .int x2, .ref 259] σ) (QA G (qI K)) 1 6 (Ab G) := by
  refine va_MetW (cc := cL_club) (maxL := 5) (ret := some .int) (hh := [(0, 10, 13, 13)]) (by decide) rfl ?_
  intro p e s m args below meth c s₁ B hml hv
  obtain ⟨rfl, hP, hK⟩ := hv
  have hts := atoms_spec (ws := wsC) B.pre
  have htab := vx_table (x := yL_club) B (hts _ List.mem_cons_self)
  have hl := lv_entry (([.ref 0, .int x1, .int x2, .ref 259] : List Value).map (tv G)) (n := 5) (Nat.le_of_ble_eq_true rfl)
  rw [lg_entry_eq]
  rw [lv_args_tv] at hl
  exact walkc_club l hfl x1 x2 h G p e s m _ below meth c s.heap [] _ htab ⟨B.exec, B.bytes, hml, B.returns, B.notSynchronized, findClass_of_methodNamed B.named, fun w hw => hts w (List.mem_cons_of_mem _ hw), hK⟩ hP va_S.rf hl
