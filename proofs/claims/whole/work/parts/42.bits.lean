/-! BITS -/
theorem bt_ext {x y : Int32} (h : ∀ j, j < 32 → bt x j = bt y j) : x = y := by
  apply Int32.toBitVec_inj.mp
  exact BitVec.eq_of_getLsbD_eq (fun j hj => h j hj)
theorem bt_or (x y : Int32) (j : Nat) : bt (x ||| y) j = (bt x j || bt y j) := by
  unfold bt; rw [Int32.toBitVec_or, BitVec.getLsbD_or]
theorem bt_and (x y : Int32) (j : Nat) : bt (x &&& y) j = (bt x j && bt y j) := by
  unfold bt; rw [Int32.toBitVec_and, BitVec.getLsbD_and]
theorem bt_xor (x y : Int32) (j : Nat) : bt (x ^^^ y) j = (bt x j ^^ bt y j) := by
  unfold bt; rw [Int32.toBitVec_xor, BitVec.getLsbD_xor]
theorem bt_0 (j : Nat) : bt 0 j = false := by
  unfold bt
  show (0#32).getLsbD j = false
  simp
theorem bt_m1 : ∀ j, j < 32 → bt (-1) j = true := by decide
theorem bt_sh : ∀ i, i < 32 → ∀ j, j < 32 → bt (1 <<< (nI i &&& 31)) j = decide (j = i) := by decide +kernel
theorem sh_am : ∀ i, i < 32 → ((nI i &&& 31).toBitVec.smod 32).toNat = i := by decide +kernel
theorem bt_test {x : Int32} {i : Nat} (hi : i < 32) : ((x >>> (nI i &&& 31)) &&& 1 = 1) ↔ bt x i = true := by
  have h1 : ∀ y : Int32, (y &&& 1 = 1) ↔ bt y 0 = true := by
    intro y
    constructor
    · intro h
      have := bt_and y 1 0
      rw [h] at this
      have e : bt 1 0 = true := by decide
      rw [e, Bool.and_true] at this
      exact this.symm
    · intro h
      apply bt_ext
      intro j hj
      rw [bt_and]
      by_cases e : j = 0
      · subst e; rw [h, Bool.true_and]
      · have : bt 1 j = false := by
          have : ∀ j, j < 32 → j ≠ 0 → bt 1 j = false := by decide
          exact this j hj e
        rw [this, Bool.and_false]
  rw [h1]
  have h2 : bt (x >>> (nI i &&& 31)) 0 = bt x i := by
    unfold bt
    rw [Int32.toBitVec_shiftRight]
    show ((x.toBitVec.sshiftRight ((nI i &&& 31).toBitVec.smod 32).toNat).getLsbD 0) = _
    rw [sh_am i hi, BitVec.getLsbD_sshiftRight]
    simp [hi]
  rw [h2]
theorem bt_hi (x : Int32) {j : Nat} (h : 32 ≤ j) : bt x j = false := BitVec.getLsbD_of_ge _ _ h
/-! literals as nI -/
theorem L0 : (0 : Int32) = nI 0 := rfl
theorem L1 : (1 : Int32) = nI 1 := rfl
theorem L2 : (2 : Int32) = nI 2 := rfl
theorem L3 : (3 : Int32) = nI 3 := rfl
theorem L4 : (4 : Int32) = nI 4 := rfl
theorem L5 : (5 : Int32) = nI 5 := rfl
theorem L6 : (6 : Int32) = nI 6 := rfl
theorem L7 : (7 : Int32) = nI 7 := rfl
theorem L8 : (8 : Int32) = nI 8 := rfl
theorem L9 : (9 : Int32) = nI 9 := rfl
theorem L10 : (10 : Int32) = nI 10 := rfl
theorem L11 : (11 : Int32) = nI 11 := rfl
theorem L12 : (12 : Int32) = nI 12 := rfl
theorem L13 : (13 : Int32) = nI 13 := rfl
theorem L17 : (17 : Int32) = nI 17 := rfl
theorem L24 : (24 : Int32) = nI 24 := rfl
theorem L30 : (30 : Int32) = nI 30 := rfl
theorem L31 : (31 : Int32) = nI 31 := rfl
theorem L32 : (32 : Int32) = nI 32 := rfl
theorem L38 : (38 : Int32) = nI 38 := rfl
theorem L67 : (67 : Int32) = nI 67 := rfl
theorem L100 : (100 : Int32) = nI 100 := rfl
theorem L120 : (120 : Int32) = nI 120 := rfl
theorem L335 : (335 : Int32) = nI 335 := rfl
theorem L391 : (391 : Int32) = nI 391 := rfl
theorem L415 : (415 : Int32) = nI 415 := rfl
theorem L500 : (500 : Int32) = nI 500 := rfl
theorem L600 : (600 : Int32) = nI 600 := rfl
theorem L830 : (830 : Int32) = nI 830 := rfl
theorem L4096 : (4096 : Int32) = nI 4096 := rfl
theorem L4564 : (4564 : Int32) = nI 4564 := rfl
theorem L4980 : (4980 : Int32) = nI 4980 := rfl
theorem L8192 : (8192 : Int32) = nI 8192 := rfl
theorem L9999 : (9999 : Int32) = nI 9999 := rfl
theorem L99999 : (99999 : Int32) = nI 99999 := rfl
theorem L100000 : (100000 : Int32) = nI 100000 := rfl
