/-! numbers and bits -/
theorem zI_add (a b : Nat) : nI a + nI b = nI (a + b) := (Int32.ofNat_add a b).symm
theorem zI_mul (a b : Nat) : nI a * nI b = nI (a * b) := (Int32.ofNat_mul a b).symm
theorem zI_sub {a b : Nat} (h : b ≤ a) : nI a - nI b = nI (a - b) := by
  have e : nI a = nI (a - b) + nI b := by rw [zI_add, Nat.sub_add_cancel h]
  rw [e, Int32.add_sub_cancel]
theorem zI_lt {a b : Nat} (ha : a < 2 ^ 31) (hb : b < 2 ^ 31) : nI a < nI b ↔ a < b := by
  rw [Int32.lt_iff_toInt_lt, nI_toInt ha, nI_toInt hb]; omega
theorem zI_le {a b : Nat} (ha : a < 2 ^ 31) (hb : b < 2 ^ 31) : nI a ≤ nI b ↔ a ≤ b := by
  rw [Int32.le_iff_toInt_le, nI_toInt ha, nI_toInt hb]; omega
theorem zI_inj {a b : Nat} (ha : a < 2 ^ 31) (hb : b < 2 ^ 31) : nI a = nI b ↔ a = b := by
  constructor
  · intro h
    have h1 := nI_toInt ha
    rw [h, nI_toInt hb] at h1
    omega
  · rintro rfl; rfl
theorem zI_1 : (1 : Int32) = nI 1 := by decide +kernel
theorem zI_2 : (2 : Int32) = nI 2 := by decide +kernel
theorem zI_m1 {a : Nat} (ha : a < 2 ^ 31) : ¬ nI a = -1 := by
  intro h
  have h1 := nI_toInt ha
  rw [h] at h1
  have h2 : (-1 : Int32).toInt = -1 := by decide +kernel
  omega
theorem zI_nn {a : Nat} (ha : a < 2 ^ 31) : ¬ nI a < 0 := nI_pos ha
/-- an Int32 that isn't negative is a number -/
theorem zI_of {x : Int32} (h : ¬ x < 0) : ∃ n : Nat, n < 2 ^ 31 ∧ x = nI n := by
  have h1 : 0 ≤ x.toInt := by
    rw [Int32.lt_iff_toInt_lt, Int32.toInt_zero] at h; omega
  have h2 := Int32.toInt_lt x
  refine ⟨x.toInt.toNat, by omega, ?_⟩
  apply Int32.toInt_inj.mp
  rw [nI_toInt (by omega)]
  omega
theorem zI_half : ∀ a, a < 256 → nI a >>> (1 &&& 31) = nI (a / 2) := by decide +kernel
theorem zI_odd : ∀ a, a < 256 → nI a &&& 1 = nI (a % 2) := by decide +kernel
theorem zI_div2 : ∀ a, a < 256 → nI a / 2 = nI (a / 2) := by decide +kernel
theorem zI_mod2 : ∀ a, a < 256 → nI a - nI a / 2 * 2 = nI (a % 2) := by decide +kernel
theorem zI_pow : ∀ a, a < 7 → (1 : Int32) <<< (nI a &&& 31) = nI (2 ^ a) := by decide +kernel
theorem vp_nat {c N : Nat} (h : c < N) (hN : N < 2 ^ 31) : vp_in (nI c) N := nI_in h hN
theorem zI_cl {n : Nat} (h : n < 2 ^ 31) : (nI n).toNatClampNeg = n := nI_clamp h
/-- bit v of a word -/
def sk_bt (x : Int64) (v : Nat) : Bool := x.toBitVec.getLsbD v
theorem bt_and (x y : Int64) (v : Nat) : sk_bt (x &&& y) v = (sk_bt x v && sk_bt y v) := by simp [sk_bt]
theorem bt_or (x y : Int64) (v : Nat) : sk_bt (x ||| y) v = (sk_bt x v || sk_bt y v) := by simp [sk_bt]
theorem bt_xor (x y : Int64) (v : Nat) : sk_bt (x ^^^ y) v = (sk_bt x v ^^ sk_bt y v) := by simp [sk_bt]
theorem bt_0 (v : Nat) : sk_bt 0 v = false := by simp [sk_bt]
theorem bt_m1 {v : Nat} (h : v < 64) : sk_bt (-1) v = true := by
  have e : (-1 : Int64).toBitVec = BitVec.allOnes 64 := by decide +kernel
  unfold sk_bt
  rw [e, BitVec.getLsbD_allOnes]
  simp [h]
theorem bt_not (x : Int64) {v : Nat} (h : v < 64) : sk_bt (x ^^^ -1) v = !sk_bt x v := by rw [bt_xor, bt_m1 h]; cases sk_bt x v <;> rfl
theorem bt_big (x : Int64) {v : Nat} (h : 64 ≤ v) : sk_bt x v = false := by
  unfold sk_bt
  exact BitVec.getLsbD_of_ge _ _ h
theorem bt_ext {x y : Int64} (h : ∀ v, v < 64 → sk_bt x v = sk_bt y v) : x = y := by
  apply Int64.toBitVec_inj.mp
  apply BitVec.eq_of_getLsbD_eq
  intro i hi
  exact h i hi
theorem bt_ne0 {x : Int64} : ¬ x = 0 ↔ ∃ v, v < 64 ∧ sk_bt x v = true := by
  constructor
  · intro h
    by_cases hx : ∃ v, v < 64 ∧ sk_bt x v = true
    · exact hx
    · exfalso
      apply h
      apply bt_ext
      intro v hv
      rw [bt_0]
      cases hb : sk_bt x v with
      | false => rfl
      | true => exact absurd ⟨v, hv, hb⟩ hx
  · rintro ⟨v, hv, hb⟩ rfl
    rw [bt_0] at hb
    cases hb
theorem sk_sh64 : ∀ v, v < 64 → (nI v).toInt64.toUInt64 &&& Int64.toUInt64 63 = UInt64.ofNat v := by decide +kernel
theorem bt_ushr (x : Int64) {v : Nat} (hv : v < 64) (k : Nat) : sk_bt (sk_ushr x (nI v)) k = sk_bt x (v + k) := by
  unfold sk_ushr
  rw [sk_sh64 v hv]
  show (x.toUInt64 >>> UInt64.ofNat v).toBitVec.getLsbD k = x.toBitVec.getLsbD (v + k)
  rw [UInt64.toBitVec_shiftRight]
  have e : (UInt64.ofNat v).toBitVec % 64 = BitVec.ofNat 64 v := by
    revert v; decide +kernel
  rw [e, BitVec.ushiftRight_eq', BitVec.getLsbD_ushiftRight]
  have e2 : (BitVec.ofNat 64 v).toNat = v := by
    rw [BitVec.toNat_ofNat]; omega
  rw [e2]
  rfl
theorem bt_1 (k : Nat) : sk_bt 1 k = decide (k = 0) := by
  unfold sk_bt
  have e : (1 : Int64).toBitVec = 1#64 := rfl
  rw [e, BitVec.getLsbD_one]
  by_cases h : k = 0 <;> simp [h]
theorem bt_low (x : Int64) : (x &&& 1 = 1) ↔ sk_bt x 0 = true := by
  constructor
  · intro h
    have h1 := congrArg (fun z => sk_bt z 0) h
    simp only [bt_and, bt_1] at h1
    simpa using h1
  · intro h
    apply bt_ext
    intro v hv
    rw [bt_and, bt_1]
    by_cases hz : v = 0
    · subst hz; simp [h]
    · simp [hz]
theorem bt_test (x : Int64) {v : Nat} (hv : v < 64) : (lg_cmp (sk_ushr x (nI v) &&& 1) 1 = 0) ↔ sk_bt x v = true := by
  rw [lg_cmp_eq, bt_low, bt_ushr x hv]
  simp
theorem sk_shl64 : ∀ v, v < 64 → sk_shl 1 (nI v) = Int64.ofBitVec (BitVec.twoPow 64 v) := by decide +kernel
theorem bt_shl {v : Nat} (hv : v < 64) (k : Nat) : sk_bt (sk_shl 1 (nI v)) k = decide (k = v) := by
  rw [sk_shl64 v hv]
  show (BitVec.twoPow 64 v).getLsbD k = decide (k = v)
  rw [BitVec.getLsbD_twoPow]
  by_cases h : k = v
  · subst h; simp [hv]
  · have : ¬ v = k := fun q => h q.symm
    simp [h, this]
theorem sk_maskT : ∀ s, s < 7 → ∀ v, v < 64 → sk_bt (sk_ushr (-1) (64 - nI (2 ^ s))) v = decide (v < 2 ^ s) := by decide +kernel
theorem bt_i2l : ∀ v, v < 256 → (nI v).toInt64 = Int64.ofNat v := by decide +kernel
/-! cells -/
theorem pi_eq (I : sk_I) (q j : Nat) (v : Int32) : sk_pi I q j v q j = v := by simp [sk_pi, sk_set, upd]
theorem pi_j (I : sk_I) (q j : Nat) (v : Int32) {k : Nat} (h : k ≠ j) : sk_pi I q j v q k = I q k := by simp [sk_pi, sk_set, upd, h]
theorem pi_q (I : sk_I) (q j : Nat) (v : Int32) {a : Nat} (h : a ≠ q) : sk_pi I q j v a = I a := by simp [sk_pi, sk_set, h]
theorem pj_eq (J : sk_J) (q j : Nat) (v : Int64) : sk_pj J q j v q j = v := by simp [sk_pj, sk_set, vp_updL]
theorem pj_j (J : sk_J) (q j : Nat) (v : Int64) {k : Nat} (h : k ≠ j) : sk_pj J q j v q k = J q k := by simp [sk_pj, sk_set, vp_updL, h]
theorem pj_q (J : sk_J) (q j : Nat) (v : Int64) {a : Nat} (h : a ≠ q) : sk_pj J q j v a = J a := by simp [sk_pj, sk_set, h]
theorem pi_at (I : sk_I) (q j : Nat) (v : Int32) (k : Nat) : sk_pi I q j v q k = if k = j then v else I q k := by simp [sk_pi, sk_set, upd]
theorem pj_at (J : sk_J) (q j : Nat) (v : Int64) (k : Nat) : sk_pj J q j v q k = if k = j then v else J q k := by simp [sk_pj, sk_set, vp_updL]
