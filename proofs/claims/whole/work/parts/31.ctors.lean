def mR (ρ : Rh) (n N : Nat) : Rh := fun q => if q = n then (fun j => if j < N then some (n + 1 + j) else none) else ρ q
theorem obj_1 : Cond.instanceMethod objectInit ∈ TBg := tb_in 182 (by decide +kernel) rfl
theorem obj_2 : Cond.code objectInit ⟨#[0xb1]⟩ 1 none ∈ TBg := tb_in 183 (by decide +kernel) rfl
theorem ac_int : Cond.arrayClass .int ∈ TBg := tb_in 217 (by decide +kernel) rfl
theorem ac_byte : Cond.arrayClass .byte ∈ TBg := tb_in 676 (by decide +kernel) rfl
theorem ac_boolean : Cond.arrayClass .boolean ∈ TBg := tb_in 414 (by decide +kernel) rfl
theorem ac_long : Cond.arrayClass .long ∈ TBg := tb_in 1778 (by decide +kernel) rfl
theorem nwX0 : Cond.instantiable RX0 4 ∈ TBg ∧ Cond.initialized RX0 ∈ TBg ∧ (∀ j, j < 4 → defaultValue (tyX0 j) = if fk 0 j then .null else .int 0) := ⟨tb_in 258 (by decide +kernel) rfl, tb_in 157 (by decide +kernel) rfl, by decide +kernel⟩
theorem nwX1 : Cond.instantiable RX1 3 ∈ TBg ∧ Cond.initialized RX1 ∈ TBg ∧ (∀ j, j < 3 → defaultValue (tyX1 j) = if fk 1 j then .null else .int 0) := ⟨tb_in 281 (by decide +kernel) rfl, tb_in 158 (by decide +kernel) rfl, by decide +kernel⟩
theorem nwX2 : Cond.instantiable RX2 3 ∈ TBg ∧ Cond.initialized RX2 ∈ TBg ∧ (∀ j, j < 3 → defaultValue (tyX2 j) = if fk 2 j then .null else .int 0) := ⟨tb_in 347 (by decide +kernel) rfl, tb_in 160 (by decide +kernel) rfl, by decide +kernel⟩
theorem nwX3 : Cond.instantiable RX3 7 ∈ TBg ∧ Cond.initialized RX3 ∈ TBg ∧ (∀ j, j < 7 → defaultValue (tyX3 j) = if fk 3 j then .null else .int 0) := ⟨tb_in 416 (by decide +kernel) rfl, tb_in 162 (by decide +kernel) rfl, by decide +kernel⟩
theorem nwX4 : Cond.instantiable RX4 7 ∈ TBg ∧ Cond.initialized RX4 ∈ TBg ∧ (∀ j, j < 7 → defaultValue (tyX4 j) = if fk 4 j then .null else .int 0) := ⟨tb_in 185 (by decide +kernel) rfl, tb_in 155 (by decide +kernel) rfl, by decide +kernel⟩
theorem nwX5 : Cond.instantiable RX5 5 ∈ TBg ∧ Cond.initialized RX5 ∈ TBg ∧ (∀ j, j < 5 → defaultValue (tyX5 j) = if fk 5 j then .null else .int 0) := ⟨tb_in 219 (by decide +kernel) rfl, tb_in 156 (by decide +kernel) rfl, by decide +kernel⟩
theorem nwX6 : Cond.instantiable RX6 9 ∈ TBg ∧ Cond.initialized RX6 ∈ TBg ∧ (∀ j, j < 9 → defaultValue (tyX6 j) = if fk 6 j then .null else .int 0) := ⟨tb_in 299 (by decide +kernel) rfl, tb_in 159 (by decide +kernel) rfl, by decide +kernel⟩
theorem nwX7 : Cond.instantiable RX7 7 ∈ TBg ∧ Cond.initialized RX7 ∈ TBg ∧ (∀ j, j < 7 → defaultValue (tyX7 j) = if fk 7 j then .null else .int 0) := ⟨tb_in 451 (by decide +kernel) rfl, tb_in 163 (by decide +kernel) rfl, by decide +kernel⟩
theorem nwX8 : Cond.instantiable RX8 9 ∈ TBg ∧ Cond.initialized RX8 ∈ TBg ∧ (∀ j, j < 9 → defaultValue (tyX8 j) = if fk 8 j then .null else .int 0) := ⟨tb_in 367 (by decide +kernel) rfl, tb_in 161 (by decide +kernel) rfl, by decide +kernel⟩
theorem nwX9 : Cond.instantiable RX9 11 ∈ TBg ∧ Cond.initialized RX9 ∈ TBg ∧ (∀ j, j < 11 → defaultValue (tyX9 j) = if fk 9 j then .null else .int 0) := ⟨tb_in 177 (by decide +kernel) rfl, tb_in 154 (by decide +kernel) rfl, by decide +kernel⟩
theorem nwX10 : Cond.instantiable RX10 45 ∈ TBg ∧ Cond.initialized RX10 ∈ TBg ∧ (∀ j, j < 45 → defaultValue (tyX10 j) = if fk 10 j then .null else .int 0) := ⟨tb_in 1194 (by decide +kernel) rfl, tb_in 164 (by decide +kernel) rfl, by decide +kernel⟩
theorem lkL_8 : Cond.classLink RL 8 RX9 ∈ TBg := tb_in 176 (by decide +kernel) rfl
theorem lkX9_9 : Cond.classLink RX9 9 RX4 ∈ TBg := tb_in 184 (by decide +kernel) rfl
theorem lkX9_18 : Cond.classLink RX9 18 RX5 ∈ TBg := tb_in 218 (by decide +kernel) rfl
theorem lkX5_9 : Cond.classLink RX5 9 ("[" ++ (FieldType.array .int).toString) ∈ TBg := tb_in 224 (by decide +kernel) rfl
theorem lkX9_25 : Cond.classLink RX9 25 RX0 ∈ TBg := tb_in 257 (by decide +kernel) rfl
theorem lkX0_9 : Cond.classLink RX0 9 RX5 ∈ TBg := tb_in 263 (by decide +kernel) rfl
theorem lkX9_34 : Cond.classLink RX9 34 RX1 ∈ TBg := tb_in 280 (by decide +kernel) rfl
theorem lkX9_41 : Cond.classLink RX9 41 RX6 ∈ TBg := tb_in 298 (by decide +kernel) rfl
theorem lkX9_48 : Cond.classLink RX9 48 RX2 ∈ TBg := tb_in 346 (by decide +kernel) rfl
theorem lkX2_9 : Cond.classLink RX2 9 RX6 ∈ TBg := tb_in 352 (by decide +kernel) rfl
theorem lkX9_63 : Cond.classLink RX9 63 RX8 ∈ TBg := tb_in 366 (by decide +kernel) rfl
theorem lkX9_70 : Cond.classLink RX9 70 RX3 ∈ TBg := tb_in 415 (by decide +kernel) rfl
theorem lkX3_9 : Cond.classLink RX3 9 ("[" ++ (FieldType.array .int).toString) ∈ TBg := tb_in 421 (by decide +kernel) rfl
theorem lkX9_77 : Cond.classLink RX9 77 RX7 ∈ TBg := tb_in 450 (by decide +kernel) rfl
theorem lkL_16 : Cond.classLink RL 16 RX10 ∈ TBg := tb_in 1193 (by decide +kernel) rfl
theorem liL_15 : Cond.methodLink RL 15 yX9_init ∈ TBg := tb_in 178 (by decide +kernel) rfl
theorem loX9_3 : Cond.methodLink RX9 3 objectInit ∈ TBg := tb_in 181 (by decide +kernel) rfl
theorem loX4_3 : Cond.methodLink RX4 3 objectInit ∈ TBg := tb_in 189 (by decide +kernel) rfl
theorem loX5_3 : Cond.methodLink RX5 3 objectInit ∈ TBg := tb_in 223 (by decide +kernel) rfl
theorem loX0_3 : Cond.methodLink RX0 3 objectInit ∈ TBg := tb_in 262 (by decide +kernel) rfl
theorem loX1_3 : Cond.methodLink RX1 3 objectInit ∈ TBg := tb_in 285 (by decide +kernel) rfl
theorem loX6_3 : Cond.methodLink RX6 3 objectInit ∈ TBg := tb_in 303 (by decide +kernel) rfl
theorem loX2_3 : Cond.methodLink RX2 3 objectInit ∈ TBg := tb_in 351 (by decide +kernel) rfl
theorem loX8_3 : Cond.methodLink RX8 3 objectInit ∈ TBg := tb_in 371 (by decide +kernel) rfl
theorem loX3_3 : Cond.methodLink RX3 3 objectInit ∈ TBg := tb_in 420 (by decide +kernel) rfl
theorem loX7_3 : Cond.methodLink RX7 3 objectInit ∈ TBg := tb_in 455 (by decide +kernel) rfl
theorem liL_18 : Cond.methodLink RL 18 yX10_init ∈ TBg := tb_in 1195 (by decide +kernel) rfl
theorem loX10_1 : Cond.methodLink RX10 1 objectInit ∈ TBg := tb_in 1198 (by decide +kernel) rfl
theorem linX9_11 : Cond.methodLinkNest RX9 11 yX4_init "CupPot" ∈ NLs := nl_in 33 (by decide +kernel) rfl
theorem linX9_20 : Cond.methodLinkNest RX9 20 yX5_init "CupPot" ∈ NLs := nl_in 67 (by decide +kernel) rfl
theorem linX9_27 : Cond.methodLinkNest RX9 27 yX0_init "CupPot" ∈ NLs := nl_in 106 (by decide +kernel) rfl
theorem linX0_11 : Cond.methodLinkNest RX0 11 yX5_init "CupPot" ∈ NLs := nl_in 111 (by decide +kernel) rfl
theorem linX9_36 : Cond.methodLinkNest RX9 36 yX1_init "CupPot" ∈ NLs := nl_in 129 (by decide +kernel) rfl
theorem linX9_43 : Cond.methodLinkNest RX9 43 yX6_init "CupPot" ∈ NLs := nl_in 147 (by decide +kernel) rfl
theorem linX9_50 : Cond.methodLinkNest RX9 50 yX2_init "CupPot" ∈ NLs := nl_in 195 (by decide +kernel) rfl
theorem linX2_17 : Cond.methodLinkNest RX2 17 yX6_init "CupPot" ∈ NLs := nl_in 201 (by decide +kernel) rfl
theorem linX9_65 : Cond.methodLinkNest RX9 65 yX8_init "CupPot" ∈ NLs := nl_in 215 (by decide +kernel) rfl
theorem linX9_72 : Cond.methodLinkNest RX9 72 yX3_init "CupPot" ∈ NLs := nl_in 264 (by decide +kernel) rfl
theorem linX9_79 : Cond.methodLinkNest RX9 79 yX7_init "CupPot" ∈ NLs := nl_in 299 (by decide +kernel) rfl
theorem mfX6_init : MFc yX6_init cX6_init 1 0 := ⟨tb_in 302 (by decide +kernel) rfl, tb_in 301 (by decide +kernel) rfl, tb_in 159 (by decide +kernel) rfl, by decide +kernel, by decide +kernel, by decide +kernel⟩
theorem mfX5_init : MFc yX5_init cX5_init 1 0 := ⟨tb_in 222 (by decide +kernel) rfl, tb_in 221 (by decide +kernel) rfl, tb_in 156 (by decide +kernel) rfl, by decide +kernel, by decide +kernel, by decide +kernel⟩
theorem mfX4_init : MFc yX4_init cX4_init 1 0 := ⟨tb_in 188 (by decide +kernel) rfl, tb_in 187 (by decide +kernel) rfl, tb_in 155 (by decide +kernel) rfl, by decide +kernel, by decide +kernel, by decide +kernel⟩
theorem mfX0_init : MFc yX0_init cX0_init 2 1 := ⟨tb_in 261 (by decide +kernel) rfl, tb_in 260 (by decide +kernel) rfl, tb_in 157 (by decide +kernel) rfl, by decide +kernel, by decide +kernel, by decide +kernel⟩
theorem mfX1_init : MFc yX1_init cX1_init 2 1 := ⟨tb_in 284 (by decide +kernel) rfl, tb_in 283 (by decide +kernel) rfl, tb_in 158 (by decide +kernel) rfl, by decide +kernel, by decide +kernel, by decide +kernel⟩
theorem mfX2_init : MFc yX2_init cX2_init 2 0 := ⟨tb_in 350 (by decide +kernel) rfl, tb_in 349 (by decide +kernel) rfl, tb_in 160 (by decide +kernel) rfl, by decide +kernel, by decide +kernel, by decide +kernel⟩
theorem mfX3_init : MFc yX3_init cX3_init 1 0 := ⟨tb_in 419 (by decide +kernel) rfl, tb_in 418 (by decide +kernel) rfl, tb_in 162 (by decide +kernel) rfl, by decide +kernel, by decide +kernel, by decide +kernel⟩
theorem mfX7_init : MFc yX7_init cX7_init 1 0 := ⟨tb_in 454 (by decide +kernel) rfl, tb_in 453 (by decide +kernel) rfl, tb_in 163 (by decide +kernel) rfl, by decide +kernel, by decide +kernel, by decide +kernel⟩
theorem mfX8_init : MFc yX8_init cX8_init 1 0 := ⟨tb_in 370 (by decide +kernel) rfl, tb_in 369 (by decide +kernel) rfl, tb_in 161 (by decide +kernel) rfl, by decide +kernel, by decide +kernel, by decide +kernel⟩
theorem mfX9_init : MFc yX9_init cX9_init 1 0 := ⟨tb_in 180 (by decide +kernel) rfl, tb_in 179 (by decide +kernel) rfl, tb_in 154 (by decide +kernel) rfl, by decide +kernel, by decide +kernel, by decide +kernel⟩
theorem mfX10_init : MFc yX10_init cX10_init 1 0 := ⟨tb_in 1197 (by decide +kernel) rfl, tb_in 1196 (by decide +kernel) rfl, tb_in 164 (by decide +kernel) rfl, by decide +kernel, by decide +kernel, by decide +kernel⟩
def rho_X6 (ρ : Rh) (k0 : Nat) : Rh := (upR (upR (upR (upR (upR (upR (upR ρ k0 2 (some (k0 + 1))) k0 3 (some (k0 + 2))) k0 4 (some (k0 + 3))) k0 5 (some (k0 + 4))) k0 6 (some (k0 + 5))) k0 7 (some (k0 + 6))) k0 8 (some (k0 + 7)))
set_option maxRecDepth 20000 in
set_option maxHeartbeats 4000000 in
theorem evc_X6 (l : Launch) (k0 : Nat) (hk0 : k0 ∈ seaL) {ρ : Rh} {σ : Sg} {K : Nat → Rh → Sg → Prop} (h : K (k0 + 8) (rho_X6 ρ k0) σ) : EvC l yX6_init cX6_init 1 1 [.ref k0] (k0 + 1) ρ σ 7 390 K := by
  refine evc_of (by decide) rfl (Nat.le_of_ble_eq_true rfl) ?_
  show AWc (fun _ _ _ _ => True) l RX6 cX6_init 1 true none (RmC 1 7 390) 0 0 _ 0 [(0, .ref k0)] [] (k0 + 1) ρ σ
  refine ac_aload_n (pc := 0) (n := k0 + 1) 0 dX6_init_0 rfl ?_
  refine ac_obj (pc := 1) (n := k0 + 1) dX6_init_1 loX6_3 obj_1 obj_2 (Nat.le_of_ble_eq_true rfl) (Nat.le_of_ble_eq_true rfl) (Nat.le_of_ble_eq_true rfl) ?_
  refine ac_aload_n (pc := 4) (n := k0 + 1) 0 dX6_init_4 rfl ?_
  refine ac_bipush (pc := 5) (n := k0 + 1) 30 dX6_init_5 (by decide) ?_
  refine ac_newI (pc := 7) (n := k0 + 1) dX6_init_7 ac_int (sea_a1 hk0).1 (sea_a1 hk0).2.1 (sea_a1 hk0).2.2 (by decide) (by decide) (Nat.le_of_ble_eq_true rfl) (Nat.le_of_ble_eq_true rfl) (Nat.le_of_ble_eq_true rfl) ?_
  refine ac_putR (pc := 9) (n := k0 + 2) 2 kcX6 rfl dX6_init_9 lfX6_9 (sea_nn hk0) (by omega) (sea_ki hk0) (by decide) rfl rfl rfl (fun _ => rfl) (fun _ => rfl) ?_
  refine ac_aload_n (pc := 12) (n := k0 + 2) 0 dX6_init_12 rfl ?_
  refine ac_bipush (pc := 13) (n := k0 + 2) 30 dX6_init_13 (by decide) ?_
  refine ac_newI (pc := 15) (n := k0 + 2) dX6_init_15 ac_int (sea_a2 hk0).1 (sea_a2 hk0).2.1 (sea_a2 hk0).2.2 (by decide) (by decide) (Nat.le_of_ble_eq_true rfl) (Nat.le_of_ble_eq_true rfl) (Nat.le_of_ble_eq_true rfl) ?_
  refine ac_putR (pc := 17) (n := k0 + 3) 3 kcX6 rfl dX6_init_17 lfX6_15 (sea_nn hk0) (by omega) (sea_ki hk0) (by decide) rfl rfl rfl (fun _ => rfl) (fun _ => rfl) ?_
  refine ac_aload_n (pc := 20) (n := k0 + 3) 0 dX6_init_20 rfl ?_
  refine ac_bipush (pc := 21) (n := k0 + 3) 30 dX6_init_21 (by decide) ?_
  refine ac_newI (pc := 23) (n := k0 + 3) dX6_init_23 ac_int (sea_a3 hk0).1 (sea_a3 hk0).2.1 (sea_a3 hk0).2.2 (by decide) (by decide) (Nat.le_of_ble_eq_true rfl) (Nat.le_of_ble_eq_true rfl) (Nat.le_of_ble_eq_true rfl) ?_
  refine ac_putR (pc := 25) (n := k0 + 4) 4 kcX6 rfl dX6_init_25 lfX6_18 (sea_nn hk0) (by omega) (sea_ki hk0) (by decide) rfl rfl rfl (fun _ => rfl) (fun _ => rfl) ?_
  refine ac_aload_n (pc := 28) (n := k0 + 4) 0 dX6_init_28 rfl ?_
  refine ac_bipush (pc := 29) (n := k0 + 4) 30 dX6_init_29 (by decide) ?_
  refine ac_newI (pc := 31) (n := k0 + 4) dX6_init_31 ac_int (sea_a4 hk0).1 (sea_a4 hk0).2.1 (sea_a4 hk0).2.2 (by decide) (by decide) (Nat.le_of_ble_eq_true rfl) (Nat.le_of_ble_eq_true rfl) (Nat.le_of_ble_eq_true rfl) ?_
  refine ac_putR (pc := 33) (n := k0 + 5) 5 kcX6 rfl dX6_init_33 lfX6_21 (sea_nn hk0) (by omega) (sea_ki hk0) (by decide) rfl rfl rfl (fun _ => rfl) (fun _ => rfl) ?_
  refine ac_aload_n (pc := 36) (n := k0 + 5) 0 dX6_init_36 rfl ?_
  refine ac_bipush (pc := 37) (n := k0 + 5) 30 dX6_init_37 (by decide) ?_
  refine ac_newI (pc := 39) (n := k0 + 5) dX6_init_39 ac_int (sea_a5 hk0).1 (sea_a5 hk0).2.1 (sea_a5 hk0).2.2 (by decide) (by decide) (Nat.le_of_ble_eq_true rfl) (Nat.le_of_ble_eq_true rfl) (Nat.le_of_ble_eq_true rfl) ?_
  refine ac_putR (pc := 41) (n := k0 + 6) 6 kcX6 rfl dX6_init_41 lfX6_24 (sea_nn hk0) (by omega) (sea_ki hk0) (by decide) rfl rfl rfl (fun _ => rfl) (fun _ => rfl) ?_
  refine ac_aload_n (pc := 44) (n := k0 + 6) 0 dX6_init_44 rfl ?_
  refine ac_bipush (pc := 45) (n := k0 + 6) 120 dX6_init_45 (by decide) ?_
  refine ac_newI (pc := 47) (n := k0 + 6) dX6_init_47 ac_int (sea_a6 hk0).1 (sea_a6 hk0).2.1 (sea_a6 hk0).2.2 (by decide) (by decide) (Nat.le_of_ble_eq_true rfl) (Nat.le_of_ble_eq_true rfl) (Nat.le_of_ble_eq_true rfl) ?_
  refine ac_putR (pc := 49) (n := k0 + 7) 7 kcX6 rfl dX6_init_49 lfX6_27 (sea_nn hk0) (by omega) (sea_ki hk0) (by decide) rfl rfl rfl (fun _ => rfl) (fun _ => rfl) ?_
  refine ac_aload_n (pc := 52) (n := k0 + 7) 0 dX6_init_52 rfl ?_
  refine ac_bipush (pc := 53) (n := k0 + 7) 120 dX6_init_53 (by decide) ?_
  refine ac_newI (pc := 55) (n := k0 + 7) dX6_init_55 ac_int (sea_a7 hk0).1 (sea_a7 hk0).2.1 (sea_a7 hk0).2.2 (by decide) (by decide) (Nat.le_of_ble_eq_true rfl) (Nat.le_of_ble_eq_true rfl) (Nat.le_of_ble_eq_true rfl) ?_
  refine ac_putR (pc := 57) (n := k0 + 8) 8 kcX6 rfl dX6_init_57 lfX6_30 (sea_nn hk0) (by omega) (sea_ki hk0) (by decide) rfl rfl rfl (fun _ => rfl) (fun _ => rfl) ?_
  exact ac_vret (pc := 60) dX6_init_60 h
def rho_X5 (ρ : Rh) (k0 : Nat) : Rh := (upR (mR (upR (mR (upR (mR ρ (k0 + 1) 12) k0 2 (some (k0 + 1))) (k0 + 14) 4) k0 3 (some (k0 + 14))) (k0 + 19) 4) k0 4 (some (k0 + 19)))
set_option maxRecDepth 20000 in
set_option maxHeartbeats 4000000 in
theorem evc_X5 (l : Launch) (k0 : Nat) (hk0 : k0 ∈ rulL) {ρ : Rh} {σ : Sg} {K : Nat → Rh → Sg → Prop} (h : K (k0 + 24) (rho_X5 ρ k0) σ) : EvC l yX5_init cX5_init 1 1 [.ref k0] (k0 + 1) ρ σ 23 124 K := by
  refine evc_of (by decide) rfl (Nat.le_of_ble_eq_true rfl) ?_
  show AWc (fun _ _ _ _ => True) l RX5 cX5_init 1 true none (RmC 1 23 124) 0 0 _ 0 [(0, .ref k0)] [] (k0 + 1) ρ σ
  refine ac_aload_n (pc := 0) (n := k0 + 1) 0 dX5_init_0 rfl ?_
  refine ac_obj (pc := 1) (n := k0 + 1) dX5_init_1 loX5_3 obj_1 obj_2 (Nat.le_of_ble_eq_true rfl) (Nat.le_of_ble_eq_true rfl) (Nat.le_of_ble_eq_true rfl) ?_
  refine ac_aload_n (pc := 4) (n := k0 + 1) 0 dX5_init_4 rfl ?_
  refine ac_bipush (pc := 5) (n := k0 + 1) 12 dX5_init_5 (by decide) ?_
  refine ac_iconst (pc := 7) (n := k0 + 1) 3 dX5_init_7 (by decide) ?_
  refine ac_multi (pc := 8) (n := k0 + 1) dX5_init_8 lkX5_9 ac_int (rul_o1 hk0).2.1 (rul_o1 hk0).2.2 (fun j hj => (rul_row1 hk0 hj).2) (by decide) (by decide) (by decide) (by decide) (Nat.le_of_ble_eq_true rfl) (Nat.le_of_ble_eq_true rfl) (Nat.le_of_ble_eq_true rfl) (Nat.le_of_ble_eq_true rfl) (Nat.le_of_ble_eq_true rfl) ?_
  refine ac_putR (pc := 12) (n := k0 + 14) 2 kcX5 rfl dX5_init_12 lfX5_11 (rul_nn hk0) (by omega) (rul_ki hk0) (by decide) rfl rfl rfl (fun _ => rfl) (fun _ => rfl) ?_
  refine ac_aload_n (pc := 15) (n := k0 + 14) 0 dX5_init_15 rfl ?_
  refine ac_iconst (pc := 16) (n := k0 + 14) 4 dX5_init_16 (by decide) ?_
  refine ac_bipush (pc := 17) (n := k0 + 14) 11 dX5_init_17 (by decide) ?_
  refine ac_multi (pc := 19) (n := k0 + 14) dX5_init_19 lkX5_9 ac_int (rul_o14 hk0).2.1 (rul_o14 hk0).2.2 (fun j hj => (rul_row14 hk0 hj).2) (by decide) (by decide) (by decide) (by decide) (Nat.le_of_ble_eq_true rfl) (Nat.le_of_ble_eq_true rfl) (Nat.le_of_ble_eq_true rfl) (Nat.le_of_ble_eq_true rfl) (Nat.le_of_ble_eq_true rfl) ?_
  refine ac_putR (pc := 23) (n := k0 + 19) 3 kcX5 rfl dX5_init_23 lfX5_16 (rul_nn hk0) (by omega) (rul_ki hk0) (by decide) rfl rfl rfl (fun _ => rfl) (fun _ => rfl) ?_
  refine ac_aload_n (pc := 26) (n := k0 + 19) 0 dX5_init_26 rfl ?_
  refine ac_iconst (pc := 27) (n := k0 + 19) 4 dX5_init_27 (by decide) ?_
  refine ac_bipush (pc := 28) (n := k0 + 19) 6 dX5_init_28 (by decide) ?_
  refine ac_multi (pc := 30) (n := k0 + 19) dX5_init_30 lkX5_9 ac_int (rul_o19 hk0).2.1 (rul_o19 hk0).2.2 (fun j hj => (rul_row19 hk0 hj).2) (by decide) (by decide) (by decide) (by decide) (Nat.le_of_ble_eq_true rfl) (Nat.le_of_ble_eq_true rfl) (Nat.le_of_ble_eq_true rfl) (Nat.le_of_ble_eq_true rfl) (Nat.le_of_ble_eq_true rfl) ?_
  refine ac_putR (pc := 34) (n := k0 + 24) 4 kcX5 rfl dX5_init_34 lfX5_19 (rul_nn hk0) (by omega) (rul_ki hk0) (by decide) rfl rfl rfl (fun _ => rfl) (fun _ => rfl) ?_
  exact ac_vret (pc := 37) dX5_init_37 h
def rho_X4 (ρ : Rh)  : Rh := (upR ρ 1 0 (some 2))
set_option maxRecDepth 20000 in
set_option maxHeartbeats 4000000 in
theorem evc_X4 (l : Launch)  {ρ : Rh} {σ : Sg} {K : Nat → Rh → Sg → Prop} (h : K (3) (rho_X4 ρ ) (up σ 1 6 (-1))) : EvC l yX4_init cX4_init 1 1 [.ref 1] (2) ρ σ 1 600 K := by
  refine evc_of (by decide) rfl (Nat.le_of_ble_eq_true rfl) ?_
  show AWc (fun _ _ _ _ => True) l RX4 cX4_init 1 true none (RmC 1 1 600) 0 0 _ 0 [(0, .ref 1)] [] (2) ρ σ
  refine ac_aload_n (pc := 0) (n := 2) 0 dX4_init_0 rfl ?_
  refine ac_obj (pc := 1) (n := 2) dX4_init_1 loX4_3 obj_1 obj_2 (Nat.le_of_ble_eq_true rfl) (Nat.le_of_ble_eq_true rfl) (Nat.le_of_ble_eq_true rfl) ?_
  refine ac_aload_n (pc := 4) (n := 2) 0 dX4_init_4 rfl ?_
  refine ac_sipush (pc := 5) (n := 2) 600 dX4_init_5 (by decide) ?_
  refine ac_newI (pc := 8) (n := 2) dX4_init_8 ac_int nn_2 ki_2 ln_2 (by decide) (by decide) (Nat.le_of_ble_eq_true rfl) (Nat.le_of_ble_eq_true rfl) (Nat.le_of_ble_eq_true rfl) ?_
  refine ac_putR (pc := 10) (n := 3) 0 kcX4 rfl dX4_init_10 lfX4_9 nn_1 (by decide) ki_1 (by decide) rfl rfl rfl (fun _ => rfl) (fun _ => rfl) ?_
  refine ac_aload_n (pc := 13) (n := 3) 0 dX4_init_13 rfl ?_
  refine ac_iconst (pc := 14) (n := 3) (-1) dX4_init_14 (by decide) ?_
  refine ac_putI (pc := 15) (n := 3) 6 kcX4 dX4_init_15 lfX4_15 nn_1 (by decide) ki_1 (by decide) rfl rfl rfl rfl ?_
  exact ac_vret (pc := 18) dX4_init_18 h
def rho_X0 (ρ : Rh)  : Rh := (upR (upR (upR (rho_X5 ρ 28) 27 1 (some 28)) 27 2 (some 52)) 27 0 (some 1))
set_option maxRecDepth 20000 in
set_option maxHeartbeats 4000000 in
theorem evc_X0 (l : Launch)  {ρ : Rh} {σ : Sg} {K : Nat → Rh → Sg → Prop} (h : K (53) (rho_X0 ρ ) σ) : EvC l yX0_init cX0_init 2 2 [.ref 27, .ref 1] (28) ρ σ 25 132 K := by
  refine evc_of (by decide) rfl (Nat.le_of_ble_eq_true rfl) ?_
  show AWc (fun _ _ _ _ => True) l RX0 cX0_init 2 true none (RmC 2 25 132) 0 0 _ 0 [(0, .ref 27), (1, .ref 1)] [] (28) ρ σ
  refine ac_aload_n (pc := 0) (n := 28) 0 dX0_init_0 rfl ?_
  refine ac_obj (pc := 1) (n := 28) dX0_init_1 loX0_3 obj_1 obj_2 (Nat.le_of_ble_eq_true rfl) (Nat.le_of_ble_eq_true rfl) (Nat.le_of_ble_eq_true rfl) ?_
  refine ac_aload_n (pc := 4) (n := 28) 0 dX0_init_4 rfl ?_
  refine ac_new (pc := 5) (n := 28) kcX5 dX0_init_5 lkX0_9 nwX5.1 nwX5.2.1 nn_28 ki_28 nwX5.2.2 (Nat.le_of_ble_eq_true rfl) (Nat.le_of_ble_eq_true rfl) ?_
  refine ac_dup (pc := 8) (n := 29) dX0_init_8 rfl ?_
  refine ac_callIN (pc := 9) (n := 29) (As := []) (rest := [.ref 28, .ref 27]) (evc_X5 l 28 rul_28 (K := fun n π τ => 52 = n ∧ (rho_X5 ρ 28) = π ∧ σ = τ) ⟨rfl, rfl, rfl⟩) mfX5_init rfl dX0_init_9 linX0_11 ⟨(Nat.le_of_ble_eq_true rfl), (Nat.le_of_ble_eq_true rfl)⟩ (by decide) rfl rfl (Nat.le_of_ble_eq_true rfl) (fun n π τ q => ?_)
  obtain ⟨rfl, rfl, rfl⟩ := q
  refine ac_putR (pc := 12) (n := 52) 1 kcX0 rfl dX0_init_12 lfX0_12 nn_27 (by decide) ki_27 (by decide) rfl rfl rfl (fun _ => rfl) (fun _ => rfl) ?_
  refine ac_aload_n (pc := 15) (n := 52) 0 dX0_init_15 rfl ?_
  refine ac_iconst (pc := 16) (n := 52) 3 dX0_init_16 (by decide) ?_
  refine ac_newI (pc := 17) (n := 52) dX0_init_17 ac_int nn_52 ki_52 ln_52 (by decide) (by decide) (Nat.le_of_ble_eq_true rfl) (Nat.le_of_ble_eq_true rfl) (Nat.le_of_ble_eq_true rfl) ?_
  refine ac_putR (pc := 19) (n := 53) 2 kcX0 rfl dX0_init_19 lfX0_18 nn_27 (by decide) ki_27 (by decide) rfl rfl rfl (fun _ => rfl) (fun _ => rfl) ?_
  refine ac_aload_n (pc := 22) (n := 53) 0 dX0_init_22 rfl ?_
  refine ac_aload_n (pc := 23) (n := 53) 1 dX0_init_23 rfl ?_
  refine ac_putR (pc := 24) (n := 53) 0 kcX0 rfl dX0_init_24 lfX0_22 nn_27 (by decide) ki_27 (by decide) rfl rfl rfl (fun _ => rfl) (fun _ => rfl) ?_
  exact ac_vret (pc := 27) dX0_init_27 h
def rho_X1 (ρ : Rh)  : Rh := (upR (upR ρ 53 1 (some 54)) 53 0 (some 1))
set_option maxRecDepth 20000 in
set_option maxHeartbeats 4000000 in
theorem evc_X1 (l : Launch)  {ρ : Rh} {σ : Sg} {K : Nat → Rh → Sg → Prop} (h : K (55) (rho_X1 ρ ) σ) : EvC l yX1_init cX1_init 2 1 [.ref 53, .ref 1] (54) ρ σ 1 335 K := by
  refine evc_of (by decide) rfl (Nat.le_of_ble_eq_true rfl) ?_
  show AWc (fun _ _ _ _ => True) l RX1 cX1_init 2 true none (RmC 1 1 335) 0 0 _ 0 [(0, .ref 53), (1, .ref 1)] [] (54) ρ σ
  refine ac_aload_n (pc := 0) (n := 54) 0 dX1_init_0 rfl ?_
  refine ac_obj (pc := 1) (n := 54) dX1_init_1 loX1_3 obj_1 obj_2 (Nat.le_of_ble_eq_true rfl) (Nat.le_of_ble_eq_true rfl) (Nat.le_of_ble_eq_true rfl) ?_
  refine ac_aload_n (pc := 4) (n := 54) 0 dX1_init_4 rfl ?_
  refine ac_sipush (pc := 5) (n := 54) 335 dX1_init_5 (by decide) ?_
  refine ac_newI (pc := 8) (n := 54) dX1_init_8 ac_int nn_54 ki_54 ln_54 (by decide) (by decide) (Nat.le_of_ble_eq_true rfl) (Nat.le_of_ble_eq_true rfl) (Nat.le_of_ble_eq_true rfl) ?_
  refine ac_putR (pc := 10) (n := 55) 1 kcX1 rfl dX1_init_10 lfX1_9 nn_53 (by decide) ki_53 (by decide) rfl rfl rfl (fun _ => rfl) (fun _ => rfl) ?_
  refine ac_aload_n (pc := 13) (n := 55) 0 dX1_init_13 rfl ?_
  refine ac_aload_n (pc := 14) (n := 55) 1 dX1_init_14 rfl ?_
  refine ac_putR (pc := 15) (n := 55) 0 kcX1 rfl dX1_init_15 lfX1_15 nn_53 (by decide) ki_53 (by decide) rfl rfl rfl (fun _ => rfl) (fun _ => rfl) ?_
  exact ac_vret (pc := 18) dX1_init_18 h
def rho_X2 (ρ : Rh)  : Rh := (upR (rho_X6 (upR (rho_X6 (upR (rho_X6 (upR (rho_X6 (upR (rho_X6 (upR (rho_X6 (upR (rho_X6 (upR (rho_X6 (upR (rho_X6 (upR (rho_X6 (upR (rho_X6 (upR (rho_X6 (upR ρ 63 0 (some 64)) 65) 64 0 (some 65)) 73) 64 1 (some 73)) 81) 64 2 (some 81)) 89) 64 3 (some 89)) 97) 64 4 (some 97)) 105) 64 5 (some 105)) 113) 64 6 (some 113)) 121) 64 7 (some 121)) 129) 64 8 (some 129)) 137) 64 9 (some 137)) 145) 64 10 (some 145)) 153) 64 11 (some 153))
set_option maxRecDepth 20000 in
set_option maxHeartbeats 4000000 in
theorem evc_X2 (l : Launch)  {ρ : Rh} {σ : Sg} {K : Nat → Rh → Sg → Prop} (h : K (161) (rho_X2 ρ ) σ) : EvC l yX2_init cX2_init 2 2 [.ref 63] (64) ρ σ 97 4800 K := by
  refine evc_of (by decide) rfl (Nat.le_of_ble_eq_true rfl) ?_
  show AWc (fun _ _ _ _ => True) l RX2 cX2_init 2 true none (RmC 2 97 4800) 0 0 _ 0 [(0, .ref 63)] [] (64) ρ σ
  refine ac_aload_n (pc := 0) (n := 64) 0 dX2_init_0 rfl ?_
  refine ac_obj (pc := 1) (n := 64) dX2_init_1 loX2_3 obj_1 obj_2 (Nat.le_of_ble_eq_true rfl) (Nat.le_of_ble_eq_true rfl) (Nat.le_of_ble_eq_true rfl) ?_
  refine ac_aload_n (pc := 4) (n := 64) 0 dX2_init_4 rfl ?_
  refine ac_bipush (pc := 5) (n := 64) 12 dX2_init_5 (by decide) ?_
  refine ac_anew (pc := 7) (n := 64) dX2_init_7 lkX2_9 nn_64 ki_64 ln_64 (by decide) (by decide) (Nat.le_of_ble_eq_true rfl) (Nat.le_of_ble_eq_true rfl) (Nat.le_of_ble_eq_true rfl) ?_
  refine ac_putR (pc := 10) (n := 65) 0 kcX2 rfl dX2_init_10 lfX2_11 nn_63 (by decide) ki_63 (by decide) rfl rfl rfl (fun _ => rfl) (fun _ => rfl) ?_
  refine ac_iconst (pc := 13) (n := 65) 0 dX2_init_13 (by decide) ?_
  refine ac_istore_n (pc := 14) (n := 65) (i := 1) [(1, .int 0), (0, .ref 63)] dX2_init_14 rfl (by decide) rfl ?_
  refine ac_iload_n (pc := 15) (n := 65) 0 dX2_init_15 rfl ?_
  refine ac_bipush (pc := 16) (n := 65) 12 dX2_init_16 (by decide) ?_
  refine ac_geF (pc := 18) (n := 65) 40 dX2_init_18 (by decide) (by decide) ?_
  refine ac_aload_n (pc := 21) (n := 65) 1 dX2_init_21 rfl ?_
  refine ac_getR (pc := 22) (n := 65) (r := 64) 0 kcX2 dX2_init_22 lfX2_11 nn_63 (by decide) ki_63 (by decide) rfl rfl ?_
  refine ac_iload_n (pc := 25) (n := 65) 0 dX2_init_25 rfl ?_
  refine ac_new (pc := 26) (n := 65) kcX6 dX2_init_26 lkX2_9 nwX6.1 nwX6.2.1 nn_65 ki_65 nwX6.2.2 (Nat.le_of_ble_eq_true rfl) (Nat.le_of_ble_eq_true rfl) ?_
  refine ac_dup (pc := 29) (n := 66) dX2_init_29 rfl ?_
  refine ac_callIN (pc := 30) (n := 66) (As := []) (rest := [.ref 65, .int 0, .ref 64]) (evc_X6 l 65 (by decide +kernel) (K := fun n π τ => 73 = n ∧ (rho_X6 (upR ρ 63 0 (some 64)) 65) = π ∧ σ = τ) ⟨rfl, rfl, rfl⟩) mfX6_init rfl dX2_init_30 linX2_17 ⟨(Nat.le_of_ble_eq_true rfl), (Nat.le_of_ble_eq_true rfl)⟩ (by decide) rfl rfl (Nat.le_of_ble_eq_true rfl) (fun n π τ q => ?_)
  obtain ⟨rfl, rfl, rfl⟩ := q
  refine ac_aast (pc := 33) (n := 73) (j := 0) dX2_init_33 nn_64 (by decide) ki_64 ln_64 (by decide) (by decide) (by decide) (by decide) ki_65 ?_
  refine ac_iinc (pc := 34) (n := 73) 0 1 [(1, .int 1), (0, .ref 63)] dX2_init_34 rfl (by decide) (by decide) rfl ?_
  refine ac_goto (pc := 37) (n := 73) 15 dX2_init_37 (by decide) ?_
  refine ac_iload_n (pc := 15) (n := 73) 0 dX2_init_15 rfl ?_
  refine ac_bipush (pc := 16) (n := 73) 12 dX2_init_16 (by decide) ?_
  refine ac_geF (pc := 18) (n := 73) 40 dX2_init_18 (by decide) (by decide) ?_
  refine ac_aload_n (pc := 21) (n := 73) 1 dX2_init_21 rfl ?_
  refine ac_getR (pc := 22) (n := 73) (r := 64) 0 kcX2 dX2_init_22 lfX2_11 nn_63 (by decide) ki_63 (by decide) rfl rfl ?_
  refine ac_iload_n (pc := 25) (n := 73) 0 dX2_init_25 rfl ?_
  refine ac_new (pc := 26) (n := 73) kcX6 dX2_init_26 lkX2_9 nwX6.1 nwX6.2.1 nn_73 ki_73 nwX6.2.2 (Nat.le_of_ble_eq_true rfl) (Nat.le_of_ble_eq_true rfl) ?_
  refine ac_dup (pc := 29) (n := 74) dX2_init_29 rfl ?_
  refine ac_callIN (pc := 30) (n := 74) (As := []) (rest := [.ref 73, .int 1, .ref 64]) (evc_X6 l 73 (by decide +kernel) (K := fun n π τ => 81 = n ∧ (rho_X6 (upR (rho_X6 (upR ρ 63 0 (some 64)) 65) 64 0 (some 65)) 73) = π ∧ σ = τ) ⟨rfl, rfl, rfl⟩) mfX6_init rfl dX2_init_30 linX2_17 ⟨(Nat.le_of_ble_eq_true rfl), (Nat.le_of_ble_eq_true rfl)⟩ (by decide) rfl rfl (Nat.le_of_ble_eq_true rfl) (fun n π τ q => ?_)
  obtain ⟨rfl, rfl, rfl⟩ := q
  refine ac_aast (pc := 33) (n := 81) (j := 1) dX2_init_33 nn_64 (by decide) ki_64 ln_64 (by decide) (by decide) (by decide) (by decide) ki_73 ?_
  refine ac_iinc (pc := 34) (n := 81) 0 2 [(1, .int 2), (0, .ref 63)] dX2_init_34 rfl (by decide) (by decide) rfl ?_
  refine ac_goto (pc := 37) (n := 81) 15 dX2_init_37 (by decide) ?_
  refine ac_iload_n (pc := 15) (n := 81) 0 dX2_init_15 rfl ?_
  refine ac_bipush (pc := 16) (n := 81) 12 dX2_init_16 (by decide) ?_
  refine ac_geF (pc := 18) (n := 81) 40 dX2_init_18 (by decide) (by decide) ?_
  refine ac_aload_n (pc := 21) (n := 81) 1 dX2_init_21 rfl ?_
  refine ac_getR (pc := 22) (n := 81) (r := 64) 0 kcX2 dX2_init_22 lfX2_11 nn_63 (by decide) ki_63 (by decide) rfl rfl ?_
  refine ac_iload_n (pc := 25) (n := 81) 0 dX2_init_25 rfl ?_
  refine ac_new (pc := 26) (n := 81) kcX6 dX2_init_26 lkX2_9 nwX6.1 nwX6.2.1 nn_81 ki_81 nwX6.2.2 (Nat.le_of_ble_eq_true rfl) (Nat.le_of_ble_eq_true rfl) ?_
  refine ac_dup (pc := 29) (n := 82) dX2_init_29 rfl ?_
  refine ac_callIN (pc := 30) (n := 82) (As := []) (rest := [.ref 81, .int 2, .ref 64]) (evc_X6 l 81 (by decide +kernel) (K := fun n π τ => 89 = n ∧ (rho_X6 (upR (rho_X6 (upR (rho_X6 (upR ρ 63 0 (some 64)) 65) 64 0 (some 65)) 73) 64 1 (some 73)) 81) = π ∧ σ = τ) ⟨rfl, rfl, rfl⟩) mfX6_init rfl dX2_init_30 linX2_17 ⟨(Nat.le_of_ble_eq_true rfl), (Nat.le_of_ble_eq_true rfl)⟩ (by decide) rfl rfl (Nat.le_of_ble_eq_true rfl) (fun n π τ q => ?_)
  obtain ⟨rfl, rfl, rfl⟩ := q
  refine ac_aast (pc := 33) (n := 89) (j := 2) dX2_init_33 nn_64 (by decide) ki_64 ln_64 (by decide) (by decide) (by decide) (by decide) ki_81 ?_
  refine ac_iinc (pc := 34) (n := 89) 0 3 [(1, .int 3), (0, .ref 63)] dX2_init_34 rfl (by decide) (by decide) rfl ?_
  refine ac_goto (pc := 37) (n := 89) 15 dX2_init_37 (by decide) ?_
  refine ac_iload_n (pc := 15) (n := 89) 0 dX2_init_15 rfl ?_
  refine ac_bipush (pc := 16) (n := 89) 12 dX2_init_16 (by decide) ?_
  refine ac_geF (pc := 18) (n := 89) 40 dX2_init_18 (by decide) (by decide) ?_
  refine ac_aload_n (pc := 21) (n := 89) 1 dX2_init_21 rfl ?_
  refine ac_getR (pc := 22) (n := 89) (r := 64) 0 kcX2 dX2_init_22 lfX2_11 nn_63 (by decide) ki_63 (by decide) rfl rfl ?_
  refine ac_iload_n (pc := 25) (n := 89) 0 dX2_init_25 rfl ?_
  refine ac_new (pc := 26) (n := 89) kcX6 dX2_init_26 lkX2_9 nwX6.1 nwX6.2.1 nn_89 ki_89 nwX6.2.2 (Nat.le_of_ble_eq_true rfl) (Nat.le_of_ble_eq_true rfl) ?_
  refine ac_dup (pc := 29) (n := 90) dX2_init_29 rfl ?_
  refine ac_callIN (pc := 30) (n := 90) (As := []) (rest := [.ref 89, .int 3, .ref 64]) (evc_X6 l 89 (by decide +kernel) (K := fun n π τ => 97 = n ∧ (rho_X6 (upR (rho_X6 (upR (rho_X6 (upR (rho_X6 (upR ρ 63 0 (some 64)) 65) 64 0 (some 65)) 73) 64 1 (some 73)) 81) 64 2 (some 81)) 89) = π ∧ σ = τ) ⟨rfl, rfl, rfl⟩) mfX6_init rfl dX2_init_30 linX2_17 ⟨(Nat.le_of_ble_eq_true rfl), (Nat.le_of_ble_eq_true rfl)⟩ (by decide) rfl rfl (Nat.le_of_ble_eq_true rfl) (fun n π τ q => ?_)
  obtain ⟨rfl, rfl, rfl⟩ := q
  refine ac_aast (pc := 33) (n := 97) (j := 3) dX2_init_33 nn_64 (by decide) ki_64 ln_64 (by decide) (by decide) (by decide) (by decide) ki_89 ?_
  refine ac_iinc (pc := 34) (n := 97) 0 4 [(1, .int 4), (0, .ref 63)] dX2_init_34 rfl (by decide) (by decide) rfl ?_
  refine ac_goto (pc := 37) (n := 97) 15 dX2_init_37 (by decide) ?_
  refine ac_iload_n (pc := 15) (n := 97) 0 dX2_init_15 rfl ?_
  refine ac_bipush (pc := 16) (n := 97) 12 dX2_init_16 (by decide) ?_
  refine ac_geF (pc := 18) (n := 97) 40 dX2_init_18 (by decide) (by decide) ?_
  refine ac_aload_n (pc := 21) (n := 97) 1 dX2_init_21 rfl ?_
  refine ac_getR (pc := 22) (n := 97) (r := 64) 0 kcX2 dX2_init_22 lfX2_11 nn_63 (by decide) ki_63 (by decide) rfl rfl ?_
  refine ac_iload_n (pc := 25) (n := 97) 0 dX2_init_25 rfl ?_
  refine ac_new (pc := 26) (n := 97) kcX6 dX2_init_26 lkX2_9 nwX6.1 nwX6.2.1 nn_97 ki_97 nwX6.2.2 (Nat.le_of_ble_eq_true rfl) (Nat.le_of_ble_eq_true rfl) ?_
  refine ac_dup (pc := 29) (n := 98) dX2_init_29 rfl ?_
  refine ac_callIN (pc := 30) (n := 98) (As := []) (rest := [.ref 97, .int 4, .ref 64]) (evc_X6 l 97 (by decide +kernel) (K := fun n π τ => 105 = n ∧ (rho_X6 (upR (rho_X6 (upR (rho_X6 (upR (rho_X6 (upR (rho_X6 (upR ρ 63 0 (some 64)) 65) 64 0 (some 65)) 73) 64 1 (some 73)) 81) 64 2 (some 81)) 89) 64 3 (some 89)) 97) = π ∧ σ = τ) ⟨rfl, rfl, rfl⟩) mfX6_init rfl dX2_init_30 linX2_17 ⟨(Nat.le_of_ble_eq_true rfl), (Nat.le_of_ble_eq_true rfl)⟩ (by decide) rfl rfl (Nat.le_of_ble_eq_true rfl) (fun n π τ q => ?_)
  obtain ⟨rfl, rfl, rfl⟩ := q
  refine ac_aast (pc := 33) (n := 105) (j := 4) dX2_init_33 nn_64 (by decide) ki_64 ln_64 (by decide) (by decide) (by decide) (by decide) ki_97 ?_
  refine ac_iinc (pc := 34) (n := 105) 0 5 [(1, .int 5), (0, .ref 63)] dX2_init_34 rfl (by decide) (by decide) rfl ?_
  refine ac_goto (pc := 37) (n := 105) 15 dX2_init_37 (by decide) ?_
  refine ac_iload_n (pc := 15) (n := 105) 0 dX2_init_15 rfl ?_
  refine ac_bipush (pc := 16) (n := 105) 12 dX2_init_16 (by decide) ?_
  refine ac_geF (pc := 18) (n := 105) 40 dX2_init_18 (by decide) (by decide) ?_
  refine ac_aload_n (pc := 21) (n := 105) 1 dX2_init_21 rfl ?_
  refine ac_getR (pc := 22) (n := 105) (r := 64) 0 kcX2 dX2_init_22 lfX2_11 nn_63 (by decide) ki_63 (by decide) rfl rfl ?_
  refine ac_iload_n (pc := 25) (n := 105) 0 dX2_init_25 rfl ?_
  refine ac_new (pc := 26) (n := 105) kcX6 dX2_init_26 lkX2_9 nwX6.1 nwX6.2.1 nn_105 ki_105 nwX6.2.2 (Nat.le_of_ble_eq_true rfl) (Nat.le_of_ble_eq_true rfl) ?_
  refine ac_dup (pc := 29) (n := 106) dX2_init_29 rfl ?_
  refine ac_callIN (pc := 30) (n := 106) (As := []) (rest := [.ref 105, .int 5, .ref 64]) (evc_X6 l 105 (by decide +kernel) (K := fun n π τ => 113 = n ∧ (rho_X6 (upR (rho_X6 (upR (rho_X6 (upR (rho_X6 (upR (rho_X6 (upR (rho_X6 (upR ρ 63 0 (some 64)) 65) 64 0 (some 65)) 73) 64 1 (some 73)) 81) 64 2 (some 81)) 89) 64 3 (some 89)) 97) 64 4 (some 97)) 105) = π ∧ σ = τ) ⟨rfl, rfl, rfl⟩) mfX6_init rfl dX2_init_30 linX2_17 ⟨(Nat.le_of_ble_eq_true rfl), (Nat.le_of_ble_eq_true rfl)⟩ (by decide) rfl rfl (Nat.le_of_ble_eq_true rfl) (fun n π τ q => ?_)
  obtain ⟨rfl, rfl, rfl⟩ := q
  refine ac_aast (pc := 33) (n := 113) (j := 5) dX2_init_33 nn_64 (by decide) ki_64 ln_64 (by decide) (by decide) (by decide) (by decide) ki_105 ?_
  refine ac_iinc (pc := 34) (n := 113) 0 6 [(1, .int 6), (0, .ref 63)] dX2_init_34 rfl (by decide) (by decide) rfl ?_
  refine ac_goto (pc := 37) (n := 113) 15 dX2_init_37 (by decide) ?_
  refine ac_iload_n (pc := 15) (n := 113) 0 dX2_init_15 rfl ?_
  refine ac_bipush (pc := 16) (n := 113) 12 dX2_init_16 (by decide) ?_
  refine ac_geF (pc := 18) (n := 113) 40 dX2_init_18 (by decide) (by decide) ?_
  refine ac_aload_n (pc := 21) (n := 113) 1 dX2_init_21 rfl ?_
  refine ac_getR (pc := 22) (n := 113) (r := 64) 0 kcX2 dX2_init_22 lfX2_11 nn_63 (by decide) ki_63 (by decide) rfl rfl ?_
  refine ac_iload_n (pc := 25) (n := 113) 0 dX2_init_25 rfl ?_
  refine ac_new (pc := 26) (n := 113) kcX6 dX2_init_26 lkX2_9 nwX6.1 nwX6.2.1 nn_113 ki_113 nwX6.2.2 (Nat.le_of_ble_eq_true rfl) (Nat.le_of_ble_eq_true rfl) ?_
  refine ac_dup (pc := 29) (n := 114) dX2_init_29 rfl ?_
  refine ac_callIN (pc := 30) (n := 114) (As := []) (rest := [.ref 113, .int 6, .ref 64]) (evc_X6 l 113 (by decide +kernel) (K := fun n π τ => 121 = n ∧ (rho_X6 (upR (rho_X6 (upR (rho_X6 (upR (rho_X6 (upR (rho_X6 (upR (rho_X6 (upR (rho_X6 (upR ρ 63 0 (some 64)) 65) 64 0 (some 65)) 73) 64 1 (some 73)) 81) 64 2 (some 81)) 89) 64 3 (some 89)) 97) 64 4 (some 97)) 105) 64 5 (some 105)) 113) = π ∧ σ = τ) ⟨rfl, rfl, rfl⟩) mfX6_init rfl dX2_init_30 linX2_17 ⟨(Nat.le_of_ble_eq_true rfl), (Nat.le_of_ble_eq_true rfl)⟩ (by decide) rfl rfl (Nat.le_of_ble_eq_true rfl) (fun n π τ q => ?_)
  obtain ⟨rfl, rfl, rfl⟩ := q
  refine ac_aast (pc := 33) (n := 121) (j := 6) dX2_init_33 nn_64 (by decide) ki_64 ln_64 (by decide) (by decide) (by decide) (by decide) ki_113 ?_
  refine ac_iinc (pc := 34) (n := 121) 0 7 [(1, .int 7), (0, .ref 63)] dX2_init_34 rfl (by decide) (by decide) rfl ?_
  refine ac_goto (pc := 37) (n := 121) 15 dX2_init_37 (by decide) ?_
  refine ac_iload_n (pc := 15) (n := 121) 0 dX2_init_15 rfl ?_
  refine ac_bipush (pc := 16) (n := 121) 12 dX2_init_16 (by decide) ?_
  refine ac_geF (pc := 18) (n := 121) 40 dX2_init_18 (by decide) (by decide) ?_
  refine ac_aload_n (pc := 21) (n := 121) 1 dX2_init_21 rfl ?_
  refine ac_getR (pc := 22) (n := 121) (r := 64) 0 kcX2 dX2_init_22 lfX2_11 nn_63 (by decide) ki_63 (by decide) rfl rfl ?_
  refine ac_iload_n (pc := 25) (n := 121) 0 dX2_init_25 rfl ?_
  refine ac_new (pc := 26) (n := 121) kcX6 dX2_init_26 lkX2_9 nwX6.1 nwX6.2.1 nn_121 ki_121 nwX6.2.2 (Nat.le_of_ble_eq_true rfl) (Nat.le_of_ble_eq_true rfl) ?_
  refine ac_dup (pc := 29) (n := 122) dX2_init_29 rfl ?_
  refine ac_callIN (pc := 30) (n := 122) (As := []) (rest := [.ref 121, .int 7, .ref 64]) (evc_X6 l 121 (by decide +kernel) (K := fun n π τ => 129 = n ∧ (rho_X6 (upR (rho_X6 (upR (rho_X6 (upR (rho_X6 (upR (rho_X6 (upR (rho_X6 (upR (rho_X6 (upR (rho_X6 (upR ρ 63 0 (some 64)) 65) 64 0 (some 65)) 73) 64 1 (some 73)) 81) 64 2 (some 81)) 89) 64 3 (some 89)) 97) 64 4 (some 97)) 105) 64 5 (some 105)) 113) 64 6 (some 113)) 121) = π ∧ σ = τ) ⟨rfl, rfl, rfl⟩) mfX6_init rfl dX2_init_30 linX2_17 ⟨(Nat.le_of_ble_eq_true rfl), (Nat.le_of_ble_eq_true rfl)⟩ (by decide) rfl rfl (Nat.le_of_ble_eq_true rfl) (fun n π τ q => ?_)
  obtain ⟨rfl, rfl, rfl⟩ := q
  refine ac_aast (pc := 33) (n := 129) (j := 7) dX2_init_33 nn_64 (by decide) ki_64 ln_64 (by decide) (by decide) (by decide) (by decide) ki_121 ?_
  refine ac_iinc (pc := 34) (n := 129) 0 8 [(1, .int 8), (0, .ref 63)] dX2_init_34 rfl (by decide) (by decide) rfl ?_
  refine ac_goto (pc := 37) (n := 129) 15 dX2_init_37 (by decide) ?_
  refine ac_iload_n (pc := 15) (n := 129) 0 dX2_init_15 rfl ?_
  refine ac_bipush (pc := 16) (n := 129) 12 dX2_init_16 (by decide) ?_
  refine ac_geF (pc := 18) (n := 129) 40 dX2_init_18 (by decide) (by decide) ?_
  refine ac_aload_n (pc := 21) (n := 129) 1 dX2_init_21 rfl ?_
  refine ac_getR (pc := 22) (n := 129) (r := 64) 0 kcX2 dX2_init_22 lfX2_11 nn_63 (by decide) ki_63 (by decide) rfl rfl ?_
  refine ac_iload_n (pc := 25) (n := 129) 0 dX2_init_25 rfl ?_
  refine ac_new (pc := 26) (n := 129) kcX6 dX2_init_26 lkX2_9 nwX6.1 nwX6.2.1 nn_129 ki_129 nwX6.2.2 (Nat.le_of_ble_eq_true rfl) (Nat.le_of_ble_eq_true rfl) ?_
  refine ac_dup (pc := 29) (n := 130) dX2_init_29 rfl ?_
  refine ac_callIN (pc := 30) (n := 130) (As := []) (rest := [.ref 129, .int 8, .ref 64]) (evc_X6 l 129 (by decide +kernel) (K := fun n π τ => 137 = n ∧ (rho_X6 (upR (rho_X6 (upR (rho_X6 (upR (rho_X6 (upR (rho_X6 (upR (rho_X6 (upR (rho_X6 (upR (rho_X6 (upR (rho_X6 (upR ρ 63 0 (some 64)) 65) 64 0 (some 65)) 73) 64 1 (some 73)) 81) 64 2 (some 81)) 89) 64 3 (some 89)) 97) 64 4 (some 97)) 105) 64 5 (some 105)) 113) 64 6 (some 113)) 121) 64 7 (some 121)) 129) = π ∧ σ = τ) ⟨rfl, rfl, rfl⟩) mfX6_init rfl dX2_init_30 linX2_17 ⟨(Nat.le_of_ble_eq_true rfl), (Nat.le_of_ble_eq_true rfl)⟩ (by decide) rfl rfl (Nat.le_of_ble_eq_true rfl) (fun n π τ q => ?_)
  obtain ⟨rfl, rfl, rfl⟩ := q
  refine ac_aast (pc := 33) (n := 137) (j := 8) dX2_init_33 nn_64 (by decide) ki_64 ln_64 (by decide) (by decide) (by decide) (by decide) ki_129 ?_
  refine ac_iinc (pc := 34) (n := 137) 0 9 [(1, .int 9), (0, .ref 63)] dX2_init_34 rfl (by decide) (by decide) rfl ?_
  refine ac_goto (pc := 37) (n := 137) 15 dX2_init_37 (by decide) ?_
  refine ac_iload_n (pc := 15) (n := 137) 0 dX2_init_15 rfl ?_
  refine ac_bipush (pc := 16) (n := 137) 12 dX2_init_16 (by decide) ?_
  refine ac_geF (pc := 18) (n := 137) 40 dX2_init_18 (by decide) (by decide) ?_
  refine ac_aload_n (pc := 21) (n := 137) 1 dX2_init_21 rfl ?_
  refine ac_getR (pc := 22) (n := 137) (r := 64) 0 kcX2 dX2_init_22 lfX2_11 nn_63 (by decide) ki_63 (by decide) rfl rfl ?_
  refine ac_iload_n (pc := 25) (n := 137) 0 dX2_init_25 rfl ?_
  refine ac_new (pc := 26) (n := 137) kcX6 dX2_init_26 lkX2_9 nwX6.1 nwX6.2.1 nn_137 ki_137 nwX6.2.2 (Nat.le_of_ble_eq_true rfl) (Nat.le_of_ble_eq_true rfl) ?_
  refine ac_dup (pc := 29) (n := 138) dX2_init_29 rfl ?_
  refine ac_callIN (pc := 30) (n := 138) (As := []) (rest := [.ref 137, .int 9, .ref 64]) (evc_X6 l 137 (by decide +kernel) (K := fun n π τ => 145 = n ∧ (rho_X6 (upR (rho_X6 (upR (rho_X6 (upR (rho_X6 (upR (rho_X6 (upR (rho_X6 (upR (rho_X6 (upR (rho_X6 (upR (rho_X6 (upR (rho_X6 (upR ρ 63 0 (some 64)) 65) 64 0 (some 65)) 73) 64 1 (some 73)) 81) 64 2 (some 81)) 89) 64 3 (some 89)) 97) 64 4 (some 97)) 105) 64 5 (some 105)) 113) 64 6 (some 113)) 121) 64 7 (some 121)) 129) 64 8 (some 129)) 137) = π ∧ σ = τ) ⟨rfl, rfl, rfl⟩) mfX6_init rfl dX2_init_30 linX2_17 ⟨(Nat.le_of_ble_eq_true rfl), (Nat.le_of_ble_eq_true rfl)⟩ (by decide) rfl rfl (Nat.le_of_ble_eq_true rfl) (fun n π τ q => ?_)
  obtain ⟨rfl, rfl, rfl⟩ := q
  refine ac_aast (pc := 33) (n := 145) (j := 9) dX2_init_33 nn_64 (by decide) ki_64 ln_64 (by decide) (by decide) (by decide) (by decide) ki_137 ?_
  refine ac_iinc (pc := 34) (n := 145) 0 10 [(1, .int 10), (0, .ref 63)] dX2_init_34 rfl (by decide) (by decide) rfl ?_
  refine ac_goto (pc := 37) (n := 145) 15 dX2_init_37 (by decide) ?_
  refine ac_iload_n (pc := 15) (n := 145) 0 dX2_init_15 rfl ?_
  refine ac_bipush (pc := 16) (n := 145) 12 dX2_init_16 (by decide) ?_
  refine ac_geF (pc := 18) (n := 145) 40 dX2_init_18 (by decide) (by decide) ?_
  refine ac_aload_n (pc := 21) (n := 145) 1 dX2_init_21 rfl ?_
  refine ac_getR (pc := 22) (n := 145) (r := 64) 0 kcX2 dX2_init_22 lfX2_11 nn_63 (by decide) ki_63 (by decide) rfl rfl ?_
  refine ac_iload_n (pc := 25) (n := 145) 0 dX2_init_25 rfl ?_
  refine ac_new (pc := 26) (n := 145) kcX6 dX2_init_26 lkX2_9 nwX6.1 nwX6.2.1 nn_145 ki_145 nwX6.2.2 (Nat.le_of_ble_eq_true rfl) (Nat.le_of_ble_eq_true rfl) ?_
  refine ac_dup (pc := 29) (n := 146) dX2_init_29 rfl ?_
  refine ac_callIN (pc := 30) (n := 146) (As := []) (rest := [.ref 145, .int 10, .ref 64]) (evc_X6 l 145 (by decide +kernel) (K := fun n π τ => 153 = n ∧ (rho_X6 (upR (rho_X6 (upR (rho_X6 (upR (rho_X6 (upR (rho_X6 (upR (rho_X6 (upR (rho_X6 (upR (rho_X6 (upR (rho_X6 (upR (rho_X6 (upR (rho_X6 (upR ρ 63 0 (some 64)) 65) 64 0 (some 65)) 73) 64 1 (some 73)) 81) 64 2 (some 81)) 89) 64 3 (some 89)) 97) 64 4 (some 97)) 105) 64 5 (some 105)) 113) 64 6 (some 113)) 121) 64 7 (some 121)) 129) 64 8 (some 129)) 137) 64 9 (some 137)) 145) = π ∧ σ = τ) ⟨rfl, rfl, rfl⟩) mfX6_init rfl dX2_init_30 linX2_17 ⟨(Nat.le_of_ble_eq_true rfl), (Nat.le_of_ble_eq_true rfl)⟩ (by decide) rfl rfl (Nat.le_of_ble_eq_true rfl) (fun n π τ q => ?_)
  obtain ⟨rfl, rfl, rfl⟩ := q
  refine ac_aast (pc := 33) (n := 153) (j := 10) dX2_init_33 nn_64 (by decide) ki_64 ln_64 (by decide) (by decide) (by decide) (by decide) ki_145 ?_
  refine ac_iinc (pc := 34) (n := 153) 0 11 [(1, .int 11), (0, .ref 63)] dX2_init_34 rfl (by decide) (by decide) rfl ?_
  refine ac_goto (pc := 37) (n := 153) 15 dX2_init_37 (by decide) ?_
  refine ac_iload_n (pc := 15) (n := 153) 0 dX2_init_15 rfl ?_
  refine ac_bipush (pc := 16) (n := 153) 12 dX2_init_16 (by decide) ?_
  refine ac_geF (pc := 18) (n := 153) 40 dX2_init_18 (by decide) (by decide) ?_
  refine ac_aload_n (pc := 21) (n := 153) 1 dX2_init_21 rfl ?_
  refine ac_getR (pc := 22) (n := 153) (r := 64) 0 kcX2 dX2_init_22 lfX2_11 nn_63 (by decide) ki_63 (by decide) rfl rfl ?_
  refine ac_iload_n (pc := 25) (n := 153) 0 dX2_init_25 rfl ?_
  refine ac_new (pc := 26) (n := 153) kcX6 dX2_init_26 lkX2_9 nwX6.1 nwX6.2.1 nn_153 ki_153 nwX6.2.2 (Nat.le_of_ble_eq_true rfl) (Nat.le_of_ble_eq_true rfl) ?_
  refine ac_dup (pc := 29) (n := 154) dX2_init_29 rfl ?_
  refine ac_callIN (pc := 30) (n := 154) (As := []) (rest := [.ref 153, .int 11, .ref 64]) (evc_X6 l 153 (by decide +kernel) (K := fun n π τ => 161 = n ∧ (rho_X6 (upR (rho_X6 (upR (rho_X6 (upR (rho_X6 (upR (rho_X6 (upR (rho_X6 (upR (rho_X6 (upR (rho_X6 (upR (rho_X6 (upR (rho_X6 (upR (rho_X6 (upR (rho_X6 (upR ρ 63 0 (some 64)) 65) 64 0 (some 65)) 73) 64 1 (some 73)) 81) 64 2 (some 81)) 89) 64 3 (some 89)) 97) 64 4 (some 97)) 105) 64 5 (some 105)) 113) 64 6 (some 113)) 121) 64 7 (some 121)) 129) 64 8 (some 129)) 137) 64 9 (some 137)) 145) 64 10 (some 145)) 153) = π ∧ σ = τ) ⟨rfl, rfl, rfl⟩) mfX6_init rfl dX2_init_30 linX2_17 ⟨(Nat.le_of_ble_eq_true rfl), (Nat.le_of_ble_eq_true rfl)⟩ (by decide) rfl rfl (Nat.le_of_ble_eq_true rfl) (fun n π τ q => ?_)
  obtain ⟨rfl, rfl, rfl⟩ := q
  refine ac_aast (pc := 33) (n := 161) (j := 11) dX2_init_33 nn_64 (by decide) ki_64 ln_64 (by decide) (by decide) (by decide) (by decide) ki_153 ?_
  refine ac_iinc (pc := 34) (n := 161) 0 12 [(1, .int 12), (0, .ref 63)] dX2_init_34 rfl (by decide) (by decide) rfl ?_
  refine ac_goto (pc := 37) (n := 161) 15 dX2_init_37 (by decide) ?_
  refine ac_iload_n (pc := 15) (n := 161) 0 dX2_init_15 rfl ?_
  refine ac_bipush (pc := 16) (n := 161) 12 dX2_init_16 (by decide) ?_
  refine ac_geT (pc := 18) (n := 161) 40 dX2_init_18 (by decide) (by decide) ?_
  exact ac_vret (pc := 40) dX2_init_40 h
def rho_X3 (ρ : Rh)  : Rh := (upR (upR (upR (upR (mR (upR (mR (upR (mR ρ 181 12) 180 0 (some 181)) 194 4) 180 1 (some 194)) 199 24) 180 2 (some 199)) 180 3 (some 224)) 180 4 (some 225)) 180 5 (some 226))
set_option maxRecDepth 20000 in
set_option maxHeartbeats 4000000 in
theorem evc_X3 (l : Launch)  {ρ : Rh} {σ : Sg} {K : Nat → Rh → Sg → Prop} (h : K (227) (rho_X3 ρ ) σ) : EvC l yX3_init cX3_init 1 1 [.ref 180] (181) ρ σ 46 395 K := by
  refine evc_of (by decide) rfl (Nat.le_of_ble_eq_true rfl) ?_
  show AWc (fun _ _ _ _ => True) l RX3 cX3_init 1 true none (RmC 1 46 395) 0 0 _ 0 [(0, .ref 180)] [] (181) ρ σ
  refine ac_aload_n (pc := 0) (n := 181) 0 dX3_init_0 rfl ?_
  refine ac_obj (pc := 1) (n := 181) dX3_init_1 loX3_3 obj_1 obj_2 (Nat.le_of_ble_eq_true rfl) (Nat.le_of_ble_eq_true rfl) (Nat.le_of_ble_eq_true rfl) ?_
  refine ac_aload_n (pc := 4) (n := 181) 0 dX3_init_4 rfl ?_
  refine ac_bipush (pc := 5) (n := 181) 12 dX3_init_5 (by decide) ?_
  refine ac_bipush (pc := 7) (n := 181) 12 dX3_init_7 (by decide) ?_
  refine ac_multi (pc := 9) (n := 181) dX3_init_9 lkX3_9 ac_int ki_181 ln_181 (fun j hj => (row_181 j hj).2) (by decide) (by decide) (by decide) (by decide) (Nat.le_of_ble_eq_true rfl) (Nat.le_of_ble_eq_true rfl) (Nat.le_of_ble_eq_true rfl) (Nat.le_of_ble_eq_true rfl) (Nat.le_of_ble_eq_true rfl) ?_
  refine ac_putR (pc := 13) (n := 194) 0 kcX3 rfl dX3_init_13 lfX3_11 nn_180 (by decide) ki_180 (by decide) rfl rfl rfl (fun _ => rfl) (fun _ => rfl) ?_
  refine ac_aload_n (pc := 16) (n := 194) 0 dX3_init_16 rfl ?_
  refine ac_iconst (pc := 17) (n := 194) 4 dX3_init_17 (by decide) ?_
  refine ac_iconst (pc := 18) (n := 194) 3 dX3_init_18 (by decide) ?_
  refine ac_multi (pc := 19) (n := 194) dX3_init_19 lkX3_9 ac_int ki_194 ln_194 (fun j hj => (row_194 j hj).2) (by decide) (by decide) (by decide) (by decide) (Nat.le_of_ble_eq_true rfl) (Nat.le_of_ble_eq_true rfl) (Nat.le_of_ble_eq_true rfl) (Nat.le_of_ble_eq_true rfl) (Nat.le_of_ble_eq_true rfl) ?_
  refine ac_putR (pc := 23) (n := 199) 1 kcX3 rfl dX3_init_23 lfX3_16 nn_180 (by decide) ki_180 (by decide) rfl rfl rfl (fun _ => rfl) (fun _ => rfl) ?_
  refine ac_aload_n (pc := 26) (n := 199) 0 dX3_init_26 rfl ?_
  refine ac_bipush (pc := 27) (n := 199) 24 dX3_init_27 (by decide) ?_
  refine ac_bipush (pc := 29) (n := 199) 7 dX3_init_29 (by decide) ?_
  refine ac_multi (pc := 31) (n := 199) dX3_init_31 lkX3_9 ac_int ki_199 ln_199 (fun j hj => (row_199 j hj).2) (by decide) (by decide) (by decide) (by decide) (Nat.le_of_ble_eq_true rfl) (Nat.le_of_ble_eq_true rfl) (Nat.le_of_ble_eq_true rfl) (Nat.le_of_ble_eq_true rfl) (Nat.le_of_ble_eq_true rfl) ?_
  refine ac_putR (pc := 35) (n := 224) 2 kcX3 rfl dX3_init_35 lfX3_19 nn_180 (by decide) ki_180 (by decide) rfl rfl rfl (fun _ => rfl) (fun _ => rfl) ?_
  refine ac_aload_n (pc := 38) (n := 224) 0 dX3_init_38 rfl ?_
  refine ac_bipush (pc := 39) (n := 224) 12 dX3_init_39 (by decide) ?_
  refine ac_newI (pc := 41) (n := 224) dX3_init_41 ac_int nn_224 ki_224 ln_224 (by decide) (by decide) (Nat.le_of_ble_eq_true rfl) (Nat.le_of_ble_eq_true rfl) (Nat.le_of_ble_eq_true rfl) ?_
  refine ac_putR (pc := 43) (n := 225) 3 kcX3 rfl dX3_init_43 lfX3_22 nn_180 (by decide) ki_180 (by decide) rfl rfl rfl (fun _ => rfl) (fun _ => rfl) ?_
  refine ac_aload_n (pc := 46) (n := 225) 0 dX3_init_46 rfl ?_
  refine ac_bipush (pc := 47) (n := 225) 13 dX3_init_47 (by decide) ?_
  refine ac_newI (pc := 49) (n := 225) dX3_init_49 ac_int nn_225 ki_225 ln_225 (by decide) (by decide) (Nat.le_of_ble_eq_true rfl) (Nat.le_of_ble_eq_true rfl) (Nat.le_of_ble_eq_true rfl) ?_
  refine ac_putR (pc := 51) (n := 226) 4 kcX3 rfl dX3_init_51 lfX3_26 nn_180 (by decide) ki_180 (by decide) rfl rfl rfl (fun _ => rfl) (fun _ => rfl) ?_
  refine ac_aload_n (pc := 54) (n := 226) 0 dX3_init_54 rfl ?_
  refine ac_bipush (pc := 55) (n := 226) 6 dX3_init_55 (by decide) ?_
  refine ac_newI (pc := 57) (n := 226) dX3_init_57 ac_int nn_226 ki_226 ln_226 (by decide) (by decide) (Nat.le_of_ble_eq_true rfl) (Nat.le_of_ble_eq_true rfl) (Nat.le_of_ble_eq_true rfl) ?_
  refine ac_putR (pc := 59) (n := 227) 5 kcX3 rfl dX3_init_59 lfX3_29 nn_180 (by decide) ki_180 (by decide) rfl rfl rfl (fun _ => rfl) (fun _ => rfl) ?_
  exact ac_vret (pc := 62) dX3_init_62 h
def rho_X7 (ρ : Rh)  : Rh := (upR (upR (upR (upR (upR ρ 227 1 (some 228)) 227 2 (some 229)) 227 4 (some 230)) 227 5 (some 231)) 227 6 (some 232))
set_option maxRecDepth 20000 in
set_option maxHeartbeats 4000000 in
theorem evc_X7 (l : Launch)  {ρ : Rh} {σ : Sg} {K : Nat → Rh → Sg → Prop} (h : K (233) (rho_X7 ρ ) σ) : EvC l yX7_init cX7_init 1 1 [.ref 227] (228) ρ σ 5 4148 K := by
  refine evc_of (by decide) rfl (Nat.le_of_ble_eq_true rfl) ?_
  show AWc (fun _ _ _ _ => True) l RX7 cX7_init 1 true none (RmC 1 5 4148) 0 0 _ 0 [(0, .ref 227)] [] (228) ρ σ
  refine ac_aload_n (pc := 0) (n := 228) 0 dX7_init_0 rfl ?_
  refine ac_obj (pc := 1) (n := 228) dX7_init_1 loX7_3 obj_1 obj_2 (Nat.le_of_ble_eq_true rfl) (Nat.le_of_ble_eq_true rfl) (Nat.le_of_ble_eq_true rfl) ?_
  refine ac_aload_n (pc := 4) (n := 228) 0 dX7_init_4 rfl ?_
  refine ac_bipush (pc := 5) (n := 228) 13 dX7_init_5 (by decide) ?_
  refine ac_newI (pc := 7) (n := 228) dX7_init_7 ac_int nn_228 ki_228 ln_228 (by decide) (by decide) (Nat.le_of_ble_eq_true rfl) (Nat.le_of_ble_eq_true rfl) (Nat.le_of_ble_eq_true rfl) ?_
  refine ac_putR (pc := 9) (n := 229) 1 kcX7 rfl dX7_init_9 lfX7_11 nn_227 (by decide) ki_227 (by decide) rfl rfl rfl (fun _ => rfl) (fun _ => rfl) ?_
  refine ac_aload_n (pc := 12) (n := 229) 0 dX7_init_12 rfl ?_
  refine ac_sipush (pc := 13) (n := 229) 4096 dX7_init_13 (by decide) ?_
  refine ac_newI (pc := 16) (n := 229) dX7_init_16 ac_int nn_229 ki_229 ln_229 (by decide) (by decide) (Nat.le_of_ble_eq_true rfl) (Nat.le_of_ble_eq_true rfl) (Nat.le_of_ble_eq_true rfl) ?_
  refine ac_putR (pc := 18) (n := 230) 2 kcX7 rfl dX7_init_18 lfX7_15 nn_227 (by decide) ki_227 (by decide) rfl rfl rfl (fun _ => rfl) (fun _ => rfl) ?_
  refine ac_aload_n (pc := 21) (n := 230) 0 dX7_init_21 rfl ?_
  refine ac_bipush (pc := 22) (n := 230) 13 dX7_init_22 (by decide) ?_
  refine ac_newI (pc := 24) (n := 230) dX7_init_24 ac_int nn_230 ki_230 ln_230 (by decide) (by decide) (Nat.le_of_ble_eq_true rfl) (Nat.le_of_ble_eq_true rfl) (Nat.le_of_ble_eq_true rfl) ?_
  refine ac_putR (pc := 26) (n := 231) 4 kcX7 rfl dX7_init_26 lfX7_18 nn_227 (by decide) ki_227 (by decide) rfl rfl rfl (fun _ => rfl) (fun _ => rfl) ?_
  refine ac_aload_n (pc := 29) (n := 231) 0 dX7_init_29 rfl ?_
  refine ac_bipush (pc := 30) (n := 231) 13 dX7_init_30 (by decide) ?_
  refine ac_newI (pc := 32) (n := 231) dX7_init_32 ac_int nn_231 ki_231 ln_231 (by decide) (by decide) (Nat.le_of_ble_eq_true rfl) (Nat.le_of_ble_eq_true rfl) (Nat.le_of_ble_eq_true rfl) ?_
  refine ac_putR (pc := 34) (n := 232) 5 kcX7 rfl dX7_init_34 lfX7_21 nn_227 (by decide) ki_227 (by decide) rfl rfl rfl (fun _ => rfl) (fun _ => rfl) ?_
  refine ac_aload_n (pc := 37) (n := 232) 0 dX7_init_37 rfl ?_
  refine ac_bipush (pc := 38) (n := 232) 13 dX7_init_38 (by decide) ?_
  refine ac_newI (pc := 40) (n := 232) dX7_init_40 ac_int nn_232 ki_232 ln_232 (by decide) (by decide) (Nat.le_of_ble_eq_true rfl) (Nat.le_of_ble_eq_true rfl) (Nat.le_of_ble_eq_true rfl) ?_
  refine ac_putR (pc := 42) (n := 233) 6 kcX7 rfl dX7_init_42 lfX7_24 nn_227 (by decide) ki_227 (by decide) rfl rfl rfl (fun _ => rfl) (fun _ => rfl) ?_
  exact ac_vret (pc := 45) dX7_init_45 h
def rho_X8 (ρ : Rh)  : Rh := ρ
set_option maxRecDepth 20000 in
set_option maxHeartbeats 4000000 in
theorem evc_X8 (l : Launch)  {ρ : Rh} {σ : Sg} {K : Nat → Rh → Sg → Prop} (h : K (180) (rho_X8 ρ ) σ) : EvC l yX8_init cX8_init 1 1 [.ref 179] (180) ρ σ 0 0 K := by
  refine evc_of (by decide) rfl (Nat.le_of_ble_eq_true rfl) ?_
  show AWc (fun _ _ _ _ => True) l RX8 cX8_init 1 true none (RmC 1 0 0) 0 0 _ 0 [(0, .ref 179)] [] (180) ρ σ
  refine ac_aload_n (pc := 0) (n := 180) 0 dX8_init_0 rfl ?_
  refine ac_obj (pc := 1) (n := 180) dX8_init_1 loX8_3 obj_1 obj_2 (Nat.le_of_ble_eq_true rfl) (Nat.le_of_ble_eq_true rfl) (Nat.le_of_ble_eq_true rfl) ?_
  exact ac_vret (pc := 4) dX8_init_4 h
def rho_X9 (ρ : Rh)  : Rh := (upR (rho_X7 (upR (rho_X3 (upR (rho_X8 (upR (upR (upR (rho_X6 (upR (rho_X6 (upR (rho_X2 (upR (rho_X6 (upR (rho_X1 (upR (rho_X0 (upR (rho_X5 (upR (rho_X4 ρ) 0 0 (some 1)) 3) 0 1 (some 3))) 0 2 (some 27))) 0 3 (some 53)) 55) 0 4 (some 55))) 0 5 (some 63)) 162) 161 0 (some 162)) 170) 161 1 (some 170)) 0 6 (some 161)) 0 7 (some 178))) 0 8 (some 179))) 0 9 (some 180))) 0 10 (some 227))
set_option maxRecDepth 20000 in
set_option maxHeartbeats 4000000 in
theorem evc_X9 (l : Launch)  {ρ : Rh} {σ : Sg} {K : Nat → Rh → Sg → Prop} (h : K (233) (rho_X9 ρ ) (up σ 1 6 (-1))) : EvC l yX9_init cX9_init 1 3 [.ref 0] (1) ρ σ 232 11780 K := by
  refine evc_of (by decide) rfl (Nat.le_of_ble_eq_true rfl) ?_
  show AWc (fun _ _ _ _ => True) l RX9 cX9_init 1 true none (RmC 3 232 11780) 0 0 _ 0 [(0, .ref 0)] [] (1) ρ σ
  refine ac_aload_n (pc := 0) (n := 1) 0 dX9_init_0 rfl ?_
  refine ac_obj (pc := 1) (n := 1) dX9_init_1 loX9_3 obj_1 obj_2 (Nat.le_of_ble_eq_true rfl) (Nat.le_of_ble_eq_true rfl) (Nat.le_of_ble_eq_true rfl) ?_
  refine ac_aload_n (pc := 4) (n := 1) 0 dX9_init_4 rfl ?_
  refine ac_new (pc := 5) (n := 1) kcX4 dX9_init_5 lkX9_9 nwX4.1 nwX4.2.1 nn_1 ki_1 nwX4.2.2 (Nat.le_of_ble_eq_true rfl) (Nat.le_of_ble_eq_true rfl) ?_
  refine ac_dup (pc := 8) (n := 2) dX9_init_8 rfl ?_
  refine ac_callIN (pc := 9) (n := 2) (As := []) (rest := [.ref 1, .ref 0]) (evc_X4 l  (K := fun n π τ => 3 = n ∧ (rho_X4 ρ) = π ∧ (up σ 1 6 (-1)) = τ) ⟨rfl, rfl, rfl⟩) mfX4_init rfl dX9_init_9 linX9_11 ⟨(Nat.le_of_ble_eq_true rfl), (Nat.le_of_ble_eq_true rfl)⟩ (by decide) rfl rfl (Nat.le_of_ble_eq_true rfl) (fun n π τ q => ?_)
  obtain ⟨rfl, rfl, rfl⟩ := q
  refine ac_putR (pc := 12) (n := 3) 0 kcX9 rfl dX9_init_12 lfX9_12 nn_0 (by decide) ki_0 (by decide) rfl rfl rfl (fun _ => rfl) (fun _ => rfl) ?_
  refine ac_aload_n (pc := 15) (n := 3) 0 dX9_init_15 rfl ?_
  refine ac_new (pc := 16) (n := 3) kcX5 dX9_init_16 lkX9_18 nwX5.1 nwX5.2.1 nn_3 ki_3 nwX5.2.2 (Nat.le_of_ble_eq_true rfl) (Nat.le_of_ble_eq_true rfl) ?_
  refine ac_dup (pc := 19) (n := 4) dX9_init_19 rfl ?_
  refine ac_callIN (pc := 20) (n := 4) (As := []) (rest := [.ref 3, .ref 0]) (evc_X5 l 3 rul_3 (K := fun n π τ => 27 = n ∧ (rho_X5 (upR (rho_X4 ρ) 0 0 (some 1)) 3) = π ∧ (up σ 1 6 (-1)) = τ) ⟨rfl, rfl, rfl⟩) mfX5_init rfl dX9_init_20 linX9_20 ⟨(Nat.le_of_ble_eq_true rfl), (Nat.le_of_ble_eq_true rfl)⟩ (by decide) rfl rfl (Nat.le_of_ble_eq_true rfl) (fun n π τ q => ?_)
  obtain ⟨rfl, rfl, rfl⟩ := q
  refine ac_putR (pc := 23) (n := 27) 1 kcX9 rfl dX9_init_23 lfX9_21 nn_0 (by decide) ki_0 (by decide) rfl rfl rfl (fun _ => rfl) (fun _ => rfl) ?_
  refine ac_aload_n (pc := 26) (n := 27) 0 dX9_init_26 rfl ?_
  refine ac_new (pc := 27) (n := 27) kcX0 dX9_init_27 lkX9_25 nwX0.1 nwX0.2.1 nn_27 ki_27 nwX0.2.2 (Nat.le_of_ble_eq_true rfl) (Nat.le_of_ble_eq_true rfl) ?_
  refine ac_dup (pc := 30) (n := 28) dX9_init_30 rfl ?_
  refine ac_aload_n (pc := 31) (n := 28) 0 dX9_init_31 rfl ?_
  refine ac_getR (pc := 32) (n := 28) (r := 1) 0 kcX9 dX9_init_32 lfX9_12 nn_0 (by decide) ki_0 (by decide) rfl rfl ?_
  refine ac_callIN (pc := 35) (n := 28) (As := [.ref 1]) (rest := [.ref 27, .ref 0]) (evc_X0 l  (K := fun n π τ => 53 = n ∧ (rho_X0 (upR (rho_X5 (upR (rho_X4 ρ) 0 0 (some 1)) 3) 0 1 (some 3))) = π ∧ (up σ 1 6 (-1)) = τ) ⟨rfl, rfl, rfl⟩) mfX0_init rfl dX9_init_35 linX9_27 ⟨(Nat.le_of_ble_eq_true rfl), (Nat.le_of_ble_eq_true rfl)⟩ (by decide) rfl rfl (Nat.le_of_ble_eq_true rfl) (fun n π τ q => ?_)
  obtain ⟨rfl, rfl, rfl⟩ := q
  refine ac_putR (pc := 38) (n := 53) 2 kcX9 rfl dX9_init_38 lfX9_30 nn_0 (by decide) ki_0 (by decide) rfl rfl rfl (fun _ => rfl) (fun _ => rfl) ?_
  refine ac_aload_n (pc := 41) (n := 53) 0 dX9_init_41 rfl ?_
  refine ac_new (pc := 42) (n := 53) kcX1 dX9_init_42 lkX9_34 nwX1.1 nwX1.2.1 nn_53 ki_53 nwX1.2.2 (Nat.le_of_ble_eq_true rfl) (Nat.le_of_ble_eq_true rfl) ?_
  refine ac_dup (pc := 45) (n := 54) dX9_init_45 rfl ?_
  refine ac_aload_n (pc := 46) (n := 54) 0 dX9_init_46 rfl ?_
  refine ac_getR (pc := 47) (n := 54) (r := 1) 0 kcX9 dX9_init_47 lfX9_12 nn_0 (by decide) ki_0 (by decide) rfl rfl ?_
  refine ac_callIN (pc := 50) (n := 54) (As := [.ref 1]) (rest := [.ref 53, .ref 0]) (evc_X1 l  (K := fun n π τ => 55 = n ∧ (rho_X1 (upR (rho_X0 (upR (rho_X5 (upR (rho_X4 ρ) 0 0 (some 1)) 3) 0 1 (some 3))) 0 2 (some 27))) = π ∧ (up σ 1 6 (-1)) = τ) ⟨rfl, rfl, rfl⟩) mfX1_init rfl dX9_init_50 linX9_36 ⟨(Nat.le_of_ble_eq_true rfl), (Nat.le_of_ble_eq_true rfl)⟩ (by decide) rfl rfl (Nat.le_of_ble_eq_true rfl) (fun n π τ q => ?_)
  obtain ⟨rfl, rfl, rfl⟩ := q
  refine ac_putR (pc := 53) (n := 55) 3 kcX9 rfl dX9_init_53 lfX9_37 nn_0 (by decide) ki_0 (by decide) rfl rfl rfl (fun _ => rfl) (fun _ => rfl) ?_
  refine ac_aload_n (pc := 56) (n := 55) 0 dX9_init_56 rfl ?_
  refine ac_new (pc := 57) (n := 55) kcX6 dX9_init_57 lkX9_41 nwX6.1 nwX6.2.1 nn_55 ki_55 nwX6.2.2 (Nat.le_of_ble_eq_true rfl) (Nat.le_of_ble_eq_true rfl) ?_
  refine ac_dup (pc := 60) (n := 56) dX9_init_60 rfl ?_
  refine ac_callIN (pc := 61) (n := 56) (As := []) (rest := [.ref 55, .ref 0]) (evc_X6 l 55 sea_55 (K := fun n π τ => 63 = n ∧ (rho_X6 (upR (rho_X1 (upR (rho_X0 (upR (rho_X5 (upR (rho_X4 ρ) 0 0 (some 1)) 3) 0 1 (some 3))) 0 2 (some 27))) 0 3 (some 53)) 55) = π ∧ (up σ 1 6 (-1)) = τ) ⟨rfl, rfl, rfl⟩) mfX6_init rfl dX9_init_61 linX9_43 ⟨(Nat.le_of_ble_eq_true rfl), (Nat.le_of_ble_eq_true rfl)⟩ (by decide) rfl rfl (Nat.le_of_ble_eq_true rfl) (fun n π τ q => ?_)
  obtain ⟨rfl, rfl, rfl⟩ := q
  refine ac_putR (pc := 64) (n := 63) 4 kcX9 rfl dX9_init_64 lfX9_44 nn_0 (by decide) ki_0 (by decide) rfl rfl rfl (fun _ => rfl) (fun _ => rfl) ?_
  refine ac_aload_n (pc := 67) (n := 63) 0 dX9_init_67 rfl ?_
  refine ac_new (pc := 68) (n := 63) kcX2 dX9_init_68 lkX9_48 nwX2.1 nwX2.2.1 nn_63 ki_63 nwX2.2.2 (Nat.le_of_ble_eq_true rfl) (Nat.le_of_ble_eq_true rfl) ?_
  refine ac_dup (pc := 71) (n := 64) dX9_init_71 rfl ?_
  refine ac_callIN (pc := 72) (n := 64) (As := []) (rest := [.ref 63, .ref 0]) (evc_X2 l  (K := fun n π τ => 161 = n ∧ (rho_X2 (upR (rho_X6 (upR (rho_X1 (upR (rho_X0 (upR (rho_X5 (upR (rho_X4 ρ) 0 0 (some 1)) 3) 0 1 (some 3))) 0 2 (some 27))) 0 3 (some 53)) 55) 0 4 (some 55))) = π ∧ (up σ 1 6 (-1)) = τ) ⟨rfl, rfl, rfl⟩) mfX2_init rfl dX9_init_72 linX9_50 ⟨(Nat.le_of_ble_eq_true rfl), (Nat.le_of_ble_eq_true rfl)⟩ (by decide) rfl rfl (Nat.le_of_ble_eq_true rfl) (fun n π τ q => ?_)
  obtain ⟨rfl, rfl, rfl⟩ := q
  refine ac_putR (pc := 75) (n := 161) 5 kcX9 rfl dX9_init_75 lfX9_51 nn_0 (by decide) ki_0 (by decide) rfl rfl rfl (fun _ => rfl) (fun _ => rfl) ?_
  refine ac_aload_n (pc := 78) (n := 161) 0 dX9_init_78 rfl ?_
  refine ac_iconst (pc := 79) (n := 161) 2 dX9_init_79 (by decide) ?_
  refine ac_anew (pc := 80) (n := 161) dX9_init_80 lkX9_41 nn_161 ki_161 ln_161 (by decide) (by decide) (Nat.le_of_ble_eq_true rfl) (Nat.le_of_ble_eq_true rfl) (Nat.le_of_ble_eq_true rfl) ?_
  refine ac_dup (pc := 83) (n := 162) dX9_init_83 rfl ?_
  refine ac_iconst (pc := 84) (n := 162) 0 dX9_init_84 (by decide) ?_
  refine ac_new (pc := 85) (n := 162) kcX6 dX9_init_85 lkX9_41 nwX6.1 nwX6.2.1 nn_162 ki_162 nwX6.2.2 (Nat.le_of_ble_eq_true rfl) (Nat.le_of_ble_eq_true rfl) ?_
  refine ac_dup (pc := 88) (n := 163) dX9_init_88 rfl ?_
  refine ac_callIN (pc := 89) (n := 163) (As := []) (rest := [.ref 162, .int 0, .ref 161, .ref 161, .ref 0]) (evc_X6 l 162 (by decide +kernel) (K := fun n π τ => 170 = n ∧ (rho_X6 (upR (rho_X2 (upR (rho_X6 (upR (rho_X1 (upR (rho_X0 (upR (rho_X5 (upR (rho_X4 ρ) 0 0 (some 1)) 3) 0 1 (some 3))) 0 2 (some 27))) 0 3 (some 53)) 55) 0 4 (some 55))) 0 5 (some 63)) 162) = π ∧ (up σ 1 6 (-1)) = τ) ⟨rfl, rfl, rfl⟩) mfX6_init rfl dX9_init_89 linX9_43 ⟨(Nat.le_of_ble_eq_true rfl), (Nat.le_of_ble_eq_true rfl)⟩ (by decide) rfl rfl (Nat.le_of_ble_eq_true rfl) (fun n π τ q => ?_)
  obtain ⟨rfl, rfl, rfl⟩ := q
  refine ac_aast (pc := 92) (n := 170) (j := 0) dX9_init_92 nn_161 (by decide) ki_161 ln_161 (by decide) (by decide) (by decide) (by decide) ki_162 ?_
  refine ac_dup (pc := 93) (n := 170) dX9_init_93 rfl ?_
  refine ac_iconst (pc := 94) (n := 170) 1 dX9_init_94 (by decide) ?_
  refine ac_new (pc := 95) (n := 170) kcX6 dX9_init_95 lkX9_41 nwX6.1 nwX6.2.1 nn_170 ki_170 nwX6.2.2 (Nat.le_of_ble_eq_true rfl) (Nat.le_of_ble_eq_true rfl) ?_
  refine ac_dup (pc := 98) (n := 171) dX9_init_98 rfl ?_
  refine ac_callIN (pc := 99) (n := 171) (As := []) (rest := [.ref 170, .int 1, .ref 161, .ref 161, .ref 0]) (evc_X6 l 170 (by decide +kernel) (K := fun n π τ => 178 = n ∧ (rho_X6 (upR (rho_X6 (upR (rho_X2 (upR (rho_X6 (upR (rho_X1 (upR (rho_X0 (upR (rho_X5 (upR (rho_X4 ρ) 0 0 (some 1)) 3) 0 1 (some 3))) 0 2 (some 27))) 0 3 (some 53)) 55) 0 4 (some 55))) 0 5 (some 63)) 162) 161 0 (some 162)) 170) = π ∧ (up σ 1 6 (-1)) = τ) ⟨rfl, rfl, rfl⟩) mfX6_init rfl dX9_init_99 linX9_43 ⟨(Nat.le_of_ble_eq_true rfl), (Nat.le_of_ble_eq_true rfl)⟩ (by decide) rfl rfl (Nat.le_of_ble_eq_true rfl) (fun n π τ q => ?_)
  obtain ⟨rfl, rfl, rfl⟩ := q
  refine ac_aast (pc := 102) (n := 178) (j := 1) dX9_init_102 nn_161 (by decide) ki_161 ln_161 (by decide) (by decide) (by decide) (by decide) ki_170 ?_
  refine ac_putR (pc := 103) (n := 178) 6 kcX9 rfl dX9_init_103 lfX9_55 nn_0 (by decide) ki_0 (by decide) rfl rfl rfl (fun _ => rfl) (fun _ => rfl) ?_
  refine ac_aload_n (pc := 106) (n := 178) 0 dX9_init_106 rfl ?_
  refine ac_iconst (pc := 107) (n := 178) 2 dX9_init_107 (by decide) ?_
  refine ac_newZ (pc := 108) (n := 178) dX9_init_108 ac_boolean nn_178 ki_178 ln_178 (by decide) (by decide) (Nat.le_of_ble_eq_true rfl) (Nat.le_of_ble_eq_true rfl) (Nat.le_of_ble_eq_true rfl) ?_
  refine ac_putR (pc := 110) (n := 179) 7 kcX9 rfl dX9_init_110 lfX9_59 nn_0 (by decide) ki_0 (by decide) rfl rfl rfl (fun _ => rfl) (fun _ => rfl) ?_
  refine ac_aload_n (pc := 113) (n := 179) 0 dX9_init_113 rfl ?_
  refine ac_new (pc := 114) (n := 179) kcX8 dX9_init_114 lkX9_63 nwX8.1 nwX8.2.1 nn_179 ki_179 nwX8.2.2 (Nat.le_of_ble_eq_true rfl) (Nat.le_of_ble_eq_true rfl) ?_
  refine ac_dup (pc := 117) (n := 180) dX9_init_117 rfl ?_
  refine ac_callIN (pc := 118) (n := 180) (As := []) (rest := [.ref 179, .ref 0]) (evc_X8 l  (K := fun n π τ => 180 = n ∧ (rho_X8 (upR (upR (upR (rho_X6 (upR (rho_X6 (upR (rho_X2 (upR (rho_X6 (upR (rho_X1 (upR (rho_X0 (upR (rho_X5 (upR (rho_X4 ρ) 0 0 (some 1)) 3) 0 1 (some 3))) 0 2 (some 27))) 0 3 (some 53)) 55) 0 4 (some 55))) 0 5 (some 63)) 162) 161 0 (some 162)) 170) 161 1 (some 170)) 0 6 (some 161)) 0 7 (some 178))) = π ∧ (up σ 1 6 (-1)) = τ) ⟨rfl, rfl, rfl⟩) mfX8_init rfl dX9_init_118 linX9_65 ⟨(Nat.le_of_ble_eq_true rfl), (Nat.le_of_ble_eq_true rfl)⟩ (by decide) rfl rfl (Nat.le_of_ble_eq_true rfl) (fun n π τ q => ?_)
  obtain ⟨rfl, rfl, rfl⟩ := q
  refine ac_putR (pc := 121) (n := 180) 8 kcX9 rfl dX9_init_121 lfX9_66 nn_0 (by decide) ki_0 (by decide) rfl rfl rfl (fun _ => rfl) (fun _ => rfl) ?_
  refine ac_aload_n (pc := 124) (n := 180) 0 dX9_init_124 rfl ?_
  refine ac_new (pc := 125) (n := 180) kcX3 dX9_init_125 lkX9_70 nwX3.1 nwX3.2.1 nn_180 ki_180 nwX3.2.2 (Nat.le_of_ble_eq_true rfl) (Nat.le_of_ble_eq_true rfl) ?_
  refine ac_dup (pc := 128) (n := 181) dX9_init_128 rfl ?_
  refine ac_callIN (pc := 129) (n := 181) (As := []) (rest := [.ref 180, .ref 0]) (evc_X3 l  (K := fun n π τ => 227 = n ∧ (rho_X3 (upR (rho_X8 (upR (upR (upR (rho_X6 (upR (rho_X6 (upR (rho_X2 (upR (rho_X6 (upR (rho_X1 (upR (rho_X0 (upR (rho_X5 (upR (rho_X4 ρ) 0 0 (some 1)) 3) 0 1 (some 3))) 0 2 (some 27))) 0 3 (some 53)) 55) 0 4 (some 55))) 0 5 (some 63)) 162) 161 0 (some 162)) 170) 161 1 (some 170)) 0 6 (some 161)) 0 7 (some 178))) 0 8 (some 179))) = π ∧ (up σ 1 6 (-1)) = τ) ⟨rfl, rfl, rfl⟩) mfX3_init rfl dX9_init_129 linX9_72 ⟨(Nat.le_of_ble_eq_true rfl), (Nat.le_of_ble_eq_true rfl)⟩ (by decide) rfl rfl (Nat.le_of_ble_eq_true rfl) (fun n π τ q => ?_)
  obtain ⟨rfl, rfl, rfl⟩ := q
  refine ac_putR (pc := 132) (n := 227) 9 kcX9 rfl dX9_init_132 lfX9_73 nn_0 (by decide) ki_0 (by decide) rfl rfl rfl (fun _ => rfl) (fun _ => rfl) ?_
  refine ac_aload_n (pc := 135) (n := 227) 0 dX9_init_135 rfl ?_
  refine ac_new (pc := 136) (n := 227) kcX7 dX9_init_136 lkX9_77 nwX7.1 nwX7.2.1 nn_227 ki_227 nwX7.2.2 (Nat.le_of_ble_eq_true rfl) (Nat.le_of_ble_eq_true rfl) ?_
  refine ac_dup (pc := 139) (n := 228) dX9_init_139 rfl ?_
  refine ac_callIN (pc := 140) (n := 228) (As := []) (rest := [.ref 227, .ref 0]) (evc_X7 l  (K := fun n π τ => 233 = n ∧ (rho_X7 (upR (rho_X3 (upR (rho_X8 (upR (upR (upR (rho_X6 (upR (rho_X6 (upR (rho_X2 (upR (rho_X6 (upR (rho_X1 (upR (rho_X0 (upR (rho_X5 (upR (rho_X4 ρ) 0 0 (some 1)) 3) 0 1 (some 3))) 0 2 (some 27))) 0 3 (some 53)) 55) 0 4 (some 55))) 0 5 (some 63)) 162) 161 0 (some 162)) 170) 161 1 (some 170)) 0 6 (some 161)) 0 7 (some 178))) 0 8 (some 179))) 0 9 (some 180))) = π ∧ (up σ 1 6 (-1)) = τ) ⟨rfl, rfl, rfl⟩) mfX7_init rfl dX9_init_140 linX9_79 ⟨(Nat.le_of_ble_eq_true rfl), (Nat.le_of_ble_eq_true rfl)⟩ (by decide) rfl rfl (Nat.le_of_ble_eq_true rfl) (fun n π τ q => ?_)
  obtain ⟨rfl, rfl, rfl⟩ := q
  refine ac_putR (pc := 143) (n := 233) 10 kcX9 rfl dX9_init_143 lfX9_80 nn_0 (by decide) ki_0 (by decide) rfl rfl rfl (fun _ => rfl) (fun _ => rfl) ?_
  exact ac_vret (pc := 146) dX9_init_146 h
def rho_X10 (ρ : Rh)  : Rh := (upR (upR (upR (upR (upR (upR (upR (upR (upR (upR (upR (upR (upR (upR (upR (upR (upR (upR (upR (upR (upR (upR (upR (upR (upR ρ 233 1 (some 234)) 233 2 (some 235)) 233 3 (some 236)) 233 4 (some 237)) 233 6 (some 238)) 233 7 (some 239)) 233 8 (some 240)) 233 14 (some 241)) 233 16 (some 242)) 233 28 (some 243)) 233 29 (some 244)) 233 30 (some 245)) 233 31 (some 246)) 233 32 (some 247)) 233 33 (some 248)) 233 34 (some 249)) 233 35 (some 250)) 233 36 (some 251)) 233 37 (some 252)) 233 38 (some 253)) 233 39 (some 254)) 233 41 (some 255)) 233 42 (some 256)) 233 43 (some 257)) 233 44 (some 258))
set_option maxRecDepth 20000 in
set_option maxHeartbeats 4000000 in
theorem evc_X10 (l : Launch)  {ρ : Rh} {σ : Sg} {K : Nat → Rh → Sg → Prop} (h : K (259) (rho_X10 ρ ) (up σ 233 12 (-1))) : EvC l yX10_init cX10_init 1 1 [.ref 233] (234) ρ σ 25 24548 K := by
  refine evc_of (by decide) rfl (Nat.le_of_ble_eq_true rfl) ?_
  show AWc (fun _ _ _ _ => True) l RX10 cX10_init 1 true none (RmC 1 25 24548) 0 0 _ 0 [(0, .ref 233)] [] (234) ρ σ
  refine ac_aload_n (pc := 0) (n := 234) 0 dX10_init_0 rfl ?_
  refine ac_obj (pc := 1) (n := 234) dX10_init_1 loX10_1 obj_1 obj_2 (Nat.le_of_ble_eq_true rfl) (Nat.le_of_ble_eq_true rfl) (Nat.le_of_ble_eq_true rfl) ?_
  refine ac_aload_n (pc := 4) (n := 234) 0 dX10_init_4 rfl ?_
  refine ac_bipush (pc := 5) (n := 234) 106 dX10_init_5 (by decide) ?_
  refine ac_newI (pc := 7) (n := 234) dX10_init_7 ac_int nn_234 ki_234 ln_234 (by decide) (by decide) (Nat.le_of_ble_eq_true rfl) (Nat.le_of_ble_eq_true rfl) (Nat.le_of_ble_eq_true rfl) ?_
  refine ac_putR (pc := 9) (n := 235) 1 kcX10 rfl dX10_init_9 lfX10_7 nn_233 (by decide) ki_233 (by decide) rfl rfl rfl (fun _ => rfl) (fun _ => rfl) ?_
  refine ac_aload_n (pc := 12) (n := 235) 0 dX10_init_12 rfl ?_
  refine ac_bipush (pc := 13) (n := 235) 106 dX10_init_13 (by decide) ?_
  refine ac_newI (pc := 15) (n := 235) dX10_init_15 ac_int nn_235 ki_235 ln_235 (by decide) (by decide) (Nat.le_of_ble_eq_true rfl) (Nat.le_of_ble_eq_true rfl) (Nat.le_of_ble_eq_true rfl) ?_
  refine ac_putR (pc := 17) (n := 236) 2 kcX10 rfl dX10_init_17 lfX10_13 nn_233 (by decide) ki_233 (by decide) rfl rfl rfl (fun _ => rfl) (fun _ => rfl) ?_
  refine ac_aload_n (pc := 20) (n := 236) 0 dX10_init_20 rfl ?_
  refine ac_sipush (pc := 21) (n := 236) 415 dX10_init_21 (by decide) ?_
  refine ac_newI (pc := 24) (n := 236) dX10_init_24 ac_int nn_236 ki_236 ln_236 (by decide) (by decide) (Nat.le_of_ble_eq_true rfl) (Nat.le_of_ble_eq_true rfl) (Nat.le_of_ble_eq_true rfl) ?_
  refine ac_putR (pc := 26) (n := 237) 3 kcX10 rfl dX10_init_26 lfX10_16 nn_233 (by decide) ki_233 (by decide) rfl rfl rfl (fun _ => rfl) (fun _ => rfl) ?_
  refine ac_aload_n (pc := 29) (n := 237) 0 dX10_init_29 rfl ?_
  refine ac_sipush (pc := 30) (n := 237) 4980 dX10_init_30 (by decide) ?_
  refine ac_newI (pc := 33) (n := 237) dX10_init_33 ac_int nn_237 ki_237 ln_237 (by decide) (by decide) (Nat.le_of_ble_eq_true rfl) (Nat.le_of_ble_eq_true rfl) (Nat.le_of_ble_eq_true rfl) ?_
  refine ac_putR (pc := 35) (n := 238) 4 kcX10 rfl dX10_init_35 lfX10_19 nn_233 (by decide) ki_233 (by decide) rfl rfl rfl (fun _ => rfl) (fun _ => rfl) ?_
  refine ac_aload_n (pc := 38) (n := 238) 0 dX10_init_38 rfl ?_
  refine ac_sipush (pc := 39) (n := 238) 830 dX10_init_39 (by decide) ?_
  refine ac_newI (pc := 42) (n := 238) dX10_init_42 ac_int nn_238 ki_238 ln_238 (by decide) (by decide) (Nat.le_of_ble_eq_true rfl) (Nat.le_of_ble_eq_true rfl) (Nat.le_of_ble_eq_true rfl) ?_
  refine ac_putR (pc := 44) (n := 239) 6 kcX10 rfl dX10_init_44 lfX10_22 nn_233 (by decide) ki_233 (by decide) rfl rfl rfl (fun _ => rfl) (fun _ => rfl) ?_
  refine ac_aload_n (pc := 47) (n := 239) 0 dX10_init_47 rfl ?_
  refine ac_iconst (pc := 48) (n := 239) 2 dX10_init_48 (by decide) ?_
  refine ac_newZ (pc := 49) (n := 239) dX10_init_49 ac_boolean nn_239 ki_239 ln_239 (by decide) (by decide) (Nat.le_of_ble_eq_true rfl) (Nat.le_of_ble_eq_true rfl) (Nat.le_of_ble_eq_true rfl) ?_
  refine ac_putR (pc := 51) (n := 240) 7 kcX10 rfl dX10_init_51 lfX10_25 nn_233 (by decide) ki_233 (by decide) rfl rfl rfl (fun _ => rfl) (fun _ => rfl) ?_
  refine ac_aload_n (pc := 54) (n := 240) 0 dX10_init_54 rfl ?_
  refine ac_sipush (pc := 55) (n := 240) 600 dX10_init_55 (by decide) ?_
  refine ac_newB (pc := 58) (n := 240) dX10_init_58 ac_byte nn_240 ki_240 ln_240 (by decide) (by decide) (Nat.le_of_ble_eq_true rfl) (Nat.le_of_ble_eq_true rfl) (Nat.le_of_ble_eq_true rfl) ?_
  refine ac_putR (pc := 60) (n := 241) 8 kcX10 rfl dX10_init_60 lfX10_29 nn_233 (by decide) ki_233 (by decide) rfl rfl rfl (fun _ => rfl) (fun _ => rfl) ?_
  refine ac_aload_n (pc := 63) (n := 241) 0 dX10_init_63 rfl ?_
  refine ac_iconst (pc := 64) (n := 241) (-1) dX10_init_64 (by decide) ?_
  refine ac_putI (pc := 65) (n := 241) 12 kcX10 dX10_init_65 lfX10_33 nn_233 (by decide) ki_233 (by decide) rfl rfl rfl rfl ?_
  refine ac_aload_n (pc := 68) (n := 241) 0 dX10_init_68 rfl ?_
  refine ac_sipush (pc := 69) (n := 241) 500 dX10_init_69 (by decide) ?_
  refine ac_newI (pc := 72) (n := 241) dX10_init_72 ac_int nn_241 ki_241 ln_241 (by decide) (by decide) (Nat.le_of_ble_eq_true rfl) (Nat.le_of_ble_eq_true rfl) (Nat.le_of_ble_eq_true rfl) ?_
  refine ac_putR (pc := 74) (n := 242) 14 kcX10 rfl dX10_init_74 lfX10_37 nn_233 (by decide) ki_233 (by decide) rfl rfl rfl (fun _ => rfl) (fun _ => rfl) ?_
  refine ac_aload_n (pc := 77) (n := 242) 0 dX10_init_77 rfl ?_
  refine ac_sipush (pc := 78) (n := 242) 415 dX10_init_78 (by decide) ?_
  refine ac_newI (pc := 81) (n := 242) dX10_init_81 ac_int nn_242 ki_242 ln_242 (by decide) (by decide) (Nat.le_of_ble_eq_true rfl) (Nat.le_of_ble_eq_true rfl) (Nat.le_of_ble_eq_true rfl) ?_
  refine ac_putR (pc := 83) (n := 243) 16 kcX10 rfl dX10_init_83 lfX10_40 nn_233 (by decide) ki_233 (by decide) rfl rfl rfl (fun _ => rfl) (fun _ => rfl) ?_
  refine ac_aload_n (pc := 86) (n := 243) 0 dX10_init_86 rfl ?_
  refine ac_bipush (pc := 87) (n := 243) 12 dX10_init_87 (by decide) ?_
  refine ac_newI (pc := 89) (n := 243) dX10_init_89 ac_int nn_243 ki_243 ln_243 (by decide) (by decide) (Nat.le_of_ble_eq_true rfl) (Nat.le_of_ble_eq_true rfl) (Nat.le_of_ble_eq_true rfl) ?_
  refine ac_putR (pc := 91) (n := 244) 28 kcX10 rfl dX10_init_91 lfX10_43 nn_233 (by decide) ki_233 (by decide) rfl rfl rfl (fun _ => rfl) (fun _ => rfl) ?_
  refine ac_aload_n (pc := 94) (n := 244) 0 dX10_init_94 rfl ?_
  refine ac_bipush (pc := 95) (n := 244) 12 dX10_init_95 (by decide) ?_
  refine ac_newI (pc := 97) (n := 244) dX10_init_97 ac_int nn_244 ki_244 ln_244 (by decide) (by decide) (Nat.le_of_ble_eq_true rfl) (Nat.le_of_ble_eq_true rfl) (Nat.le_of_ble_eq_true rfl) ?_
  refine ac_putR (pc := 99) (n := 245) 29 kcX10 rfl dX10_init_99 lfX10_46 nn_233 (by decide) ki_233 (by decide) rfl rfl rfl (fun _ => rfl) (fun _ => rfl) ?_
  refine ac_aload_n (pc := 102) (n := 245) 0 dX10_init_102 rfl ?_
  refine ac_bipush (pc := 103) (n := 245) 12 dX10_init_103 (by decide) ?_
  refine ac_newI (pc := 105) (n := 245) dX10_init_105 ac_int nn_245 ki_245 ln_245 (by decide) (by decide) (Nat.le_of_ble_eq_true rfl) (Nat.le_of_ble_eq_true rfl) (Nat.le_of_ble_eq_true rfl) ?_
  refine ac_putR (pc := 107) (n := 246) 30 kcX10 rfl dX10_init_107 lfX10_49 nn_233 (by decide) ki_233 (by decide) rfl rfl rfl (fun _ => rfl) (fun _ => rfl) ?_
  refine ac_aload_n (pc := 110) (n := 246) 0 dX10_init_110 rfl ?_
  refine ac_bipush (pc := 111) (n := 246) 12 dX10_init_111 (by decide) ?_
  refine ac_newI (pc := 113) (n := 246) dX10_init_113 ac_int nn_246 ki_246 ln_246 (by decide) (by decide) (Nat.le_of_ble_eq_true rfl) (Nat.le_of_ble_eq_true rfl) (Nat.le_of_ble_eq_true rfl) ?_
  refine ac_putR (pc := 115) (n := 247) 31 kcX10 rfl dX10_init_115 lfX10_52 nn_233 (by decide) ki_233 (by decide) rfl rfl rfl (fun _ => rfl) (fun _ => rfl) ?_
  refine ac_aload_n (pc := 118) (n := 247) 0 dX10_init_118 rfl ?_
  refine ac_bipush (pc := 119) (n := 247) 12 dX10_init_119 (by decide) ?_
  refine ac_newI (pc := 121) (n := 247) dX10_init_121 ac_int nn_247 ki_247 ln_247 (by decide) (by decide) (Nat.le_of_ble_eq_true rfl) (Nat.le_of_ble_eq_true rfl) (Nat.le_of_ble_eq_true rfl) ?_
  refine ac_putR (pc := 123) (n := 248) 32 kcX10 rfl dX10_init_123 lfX10_55 nn_233 (by decide) ki_233 (by decide) rfl rfl rfl (fun _ => rfl) (fun _ => rfl) ?_
  refine ac_aload_n (pc := 126) (n := 248) 0 dX10_init_126 rfl ?_
  refine ac_bipush (pc := 127) (n := 248) 12 dX10_init_127 (by decide) ?_
  refine ac_newI (pc := 129) (n := 248) dX10_init_129 ac_int nn_248 ki_248 ln_248 (by decide) (by decide) (Nat.le_of_ble_eq_true rfl) (Nat.le_of_ble_eq_true rfl) (Nat.le_of_ble_eq_true rfl) ?_
  refine ac_putR (pc := 131) (n := 249) 33 kcX10 rfl dX10_init_131 lfX10_58 nn_233 (by decide) ki_233 (by decide) rfl rfl rfl (fun _ => rfl) (fun _ => rfl) ?_
  refine ac_aload_n (pc := 134) (n := 249) 0 dX10_init_134 rfl ?_
  refine ac_bipush (pc := 135) (n := 249) 24 dX10_init_135 (by decide) ?_
  refine ac_newI (pc := 137) (n := 249) dX10_init_137 ac_int nn_249 ki_249 ln_249 (by decide) (by decide) (Nat.le_of_ble_eq_true rfl) (Nat.le_of_ble_eq_true rfl) (Nat.le_of_ble_eq_true rfl) ?_
  refine ac_putR (pc := 139) (n := 250) 34 kcX10 rfl dX10_init_139 lfX10_61 nn_233 (by decide) ki_233 (by decide) rfl rfl rfl (fun _ => rfl) (fun _ => rfl) ?_
  refine ac_aload_n (pc := 142) (n := 250) 0 dX10_init_142 rfl ?_
  refine ac_bipush (pc := 143) (n := 250) 24 dX10_init_143 (by decide) ?_
  refine ac_newI (pc := 145) (n := 250) dX10_init_145 ac_int nn_250 ki_250 ln_250 (by decide) (by decide) (Nat.le_of_ble_eq_true rfl) (Nat.le_of_ble_eq_true rfl) (Nat.le_of_ble_eq_true rfl) ?_
  refine ac_putR (pc := 147) (n := 251) 35 kcX10 rfl dX10_init_147 lfX10_64 nn_233 (by decide) ki_233 (by decide) rfl rfl rfl (fun _ => rfl) (fun _ => rfl) ?_
  refine ac_aload_n (pc := 150) (n := 251) 0 dX10_init_150 rfl ?_
  refine ac_bipush (pc := 151) (n := 251) 24 dX10_init_151 (by decide) ?_
  refine ac_newI (pc := 153) (n := 251) dX10_init_153 ac_int nn_251 ki_251 ln_251 (by decide) (by decide) (Nat.le_of_ble_eq_true rfl) (Nat.le_of_ble_eq_true rfl) (Nat.le_of_ble_eq_true rfl) ?_
  refine ac_putR (pc := 155) (n := 252) 36 kcX10 rfl dX10_init_155 lfX10_67 nn_233 (by decide) ki_233 (by decide) rfl rfl rfl (fun _ => rfl) (fun _ => rfl) ?_
  refine ac_aload_n (pc := 158) (n := 252) 0 dX10_init_158 rfl ?_
  refine ac_bipush (pc := 159) (n := 252) 24 dX10_init_159 (by decide) ?_
  refine ac_newI (pc := 161) (n := 252) dX10_init_161 ac_int nn_252 ki_252 ln_252 (by decide) (by decide) (Nat.le_of_ble_eq_true rfl) (Nat.le_of_ble_eq_true rfl) (Nat.le_of_ble_eq_true rfl) ?_
  refine ac_putR (pc := 163) (n := 253) 37 kcX10 rfl dX10_init_163 lfX10_70 nn_233 (by decide) ki_233 (by decide) rfl rfl rfl (fun _ => rfl) (fun _ => rfl) ?_
  refine ac_aload_n (pc := 166) (n := 253) 0 dX10_init_166 rfl ?_
  refine ac_iconst (pc := 167) (n := 253) 4 dX10_init_167 (by decide) ?_
  refine ac_newI (pc := 168) (n := 253) dX10_init_168 ac_int nn_253 ki_253 ln_253 (by decide) (by decide) (Nat.le_of_ble_eq_true rfl) (Nat.le_of_ble_eq_true rfl) (Nat.le_of_ble_eq_true rfl) ?_
  refine ac_putR (pc := 170) (n := 254) 38 kcX10 rfl dX10_init_170 lfX10_73 nn_233 (by decide) ki_233 (by decide) rfl rfl rfl (fun _ => rfl) (fun _ => rfl) ?_
  refine ac_aload_n (pc := 173) (n := 254) 0 dX10_init_173 rfl ?_
  refine ac_bipush (pc := 174) (n := 254) 12 dX10_init_174 (by decide) ?_
  refine ac_newI (pc := 176) (n := 254) dX10_init_176 ac_int nn_254 ki_254 ln_254 (by decide) (by decide) (Nat.le_of_ble_eq_true rfl) (Nat.le_of_ble_eq_true rfl) (Nat.le_of_ble_eq_true rfl) ?_
  refine ac_putR (pc := 178) (n := 255) 39 kcX10 rfl dX10_init_178 lfX10_76 nn_233 (by decide) ki_233 (by decide) rfl rfl rfl (fun _ => rfl) (fun _ => rfl) ?_
  refine ac_aload_n (pc := 181) (n := 255) 0 dX10_init_181 rfl ?_
  refine ac_bipush (pc := 182) (n := 255) 13 dX10_init_182 (by decide) ?_
  refine ac_newI (pc := 184) (n := 255) dX10_init_184 ac_int nn_255 ki_255 ln_255 (by decide) (by decide) (Nat.le_of_ble_eq_true rfl) (Nat.le_of_ble_eq_true rfl) (Nat.le_of_ble_eq_true rfl) ?_
  refine ac_putR (pc := 186) (n := 256) 41 kcX10 rfl dX10_init_186 lfX10_79 nn_233 (by decide) ki_233 (by decide) rfl rfl rfl (fun _ => rfl) (fun _ => rfl) ?_
  refine ac_aload_n (pc := 189) (n := 256) 0 dX10_init_189 rfl ?_
  refine ac_bipush (pc := 190) (n := 256) 13 dX10_init_190 (by decide) ?_
  refine ac_newI (pc := 192) (n := 256) dX10_init_192 ac_int nn_256 ki_256 ln_256 (by decide) (by decide) (Nat.le_of_ble_eq_true rfl) (Nat.le_of_ble_eq_true rfl) (Nat.le_of_ble_eq_true rfl) ?_
  refine ac_putR (pc := 194) (n := 257) 42 kcX10 rfl dX10_init_194 lfX10_82 nn_233 (by decide) ki_233 (by decide) rfl rfl rfl (fun _ => rfl) (fun _ => rfl) ?_
  refine ac_aload_n (pc := 197) (n := 257) 0 dX10_init_197 rfl ?_
  refine ac_sipush (pc := 198) (n := 257) 8192 dX10_init_198 (by decide) ?_
  refine ac_newI (pc := 201) (n := 257) dX10_init_201 ac_int nn_257 ki_257 ln_257 (by decide) (by decide) (Nat.le_of_ble_eq_true rfl) (Nat.le_of_ble_eq_true rfl) (Nat.le_of_ble_eq_true rfl) ?_
  refine ac_putR (pc := 203) (n := 258) 43 kcX10 rfl dX10_init_203 lfX10_85 nn_233 (by decide) ki_233 (by decide) rfl rfl rfl (fun _ => rfl) (fun _ => rfl) ?_
  refine ac_aload_n (pc := 206) (n := 258) 0 dX10_init_206 rfl ?_
  refine ac_sipush (pc := 207) (n := 258) 8192 dX10_init_207 (by decide) ?_
  refine ac_newI (pc := 210) (n := 258) dX10_init_210 ac_int nn_258 ki_258 ln_258 (by decide) (by decide) (Nat.le_of_ble_eq_true rfl) (Nat.le_of_ble_eq_true rfl) (Nat.le_of_ble_eq_true rfl) ?_
  refine ac_putR (pc := 212) (n := 259) 44 kcX10 rfl dX10_init_212 lfX10_88 nn_233 (by decide) ki_233 (by decide) rfl rfl rfl (fun _ => rfl) (fun _ => rfl) ?_
  exact ac_vret (pc := 215) dX10_init_215 h
