/-! bits of longs and ints; a character's six bytes -/
def zb (x : Int64) (i : Nat) : Bool := x.toBitVec.getLsbD i
def zc (x : Int32) (i : Nat) : Bool := x.toBitVec.getLsbD i
theorem zb_ext {x y : Int64} (h : ∀ i, i < 64 → zb x i = zb y i) : x = y := Int64.toBitVec_inj.mp (BitVec.eq_of_getLsbD_eq (fun i hi => h i hi))
theorem zc_ext {x y : Int32} (h : ∀ i, i < 32 → zc x i = zc y i) : x = y := Int32.toBitVec_inj.mp (BitVec.eq_of_getLsbD_eq (fun i hi => h i hi))
theorem zb_or (x y : Int64) (i : Nat) : zb (x ||| y) i = (zb x i || zb y i) := by unfold zb; rw [Int64.toBitVec_or, BitVec.getLsbD_or]
theorem zb_and (x y : Int64) (i : Nat) : zb (x &&& y) i = (zb x i && zb y i) := by unfold zb; rw [Int64.toBitVec_and, BitVec.getLsbD_and]
theorem zb_xor (x y : Int64) (i : Nat) : zb (x ^^^ y) i = (zb x i ^^ zb y i) := by unfold zb; rw [Int64.toBitVec_xor, BitVec.getLsbD_xor]
theorem zc_or (x y : Int32) (i : Nat) : zc (x ||| y) i = (zc x i || zc y i) := by unfold zc; rw [Int32.toBitVec_or, BitVec.getLsbD_or]
theorem zc_and (x y : Int32) (i : Nat) : zc (x &&& y) i = (zc x i && zc y i) := by unfold zc; rw [Int32.toBitVec_and, BitVec.getLsbD_and]
theorem zc_xor (x y : Int32) (i : Nat) : zc (x ^^^ y) i = (zc x i ^^ zc y i) := by unfold zc; rw [Int32.toBitVec_xor, BitVec.getLsbD_xor]
theorem zb_big {x : Int64} {i : Nat} (h : 64 ≤ i) : zb x i = false := BitVec.getLsbD_of_ge _ _ h
theorem zc_big {x : Int32} {i : Nat} (h : 32 ≤ i) : zc x i = false := BitVec.getLsbD_of_ge _ _ h
theorem zb_lN (n i : Nat) : zb (lN n) i = (decide (i < 64) && n.testBit i) := by
  show (BitVec.ofNat 64 n).getLsbD i = _
  rw [BitVec.getLsbD_ofNat]
theorem zc_nI (n i : Nat) : zc (nI n) i = (decide (i < 32) && n.testBit i) := by
  show (BitVec.ofNat 32 n).getLsbD i = _
  rw [BitVec.getLsbD_ofNat]
theorem zt_2 (k i : Nat) : (2 ^ k - 1).testBit i = decide (i < k) := Nat.testBit_two_pow_sub_one k i
theorem zb_255 (i : Nat) : zb 255 i = decide (i < 8) := by
  have : (255 : Int64) = lN (2 ^ 8 - 1) := rfl
  rw [this, zb_lN, zt_2]
  by_cases h : i < 8
  · have h2 : i < 64 := by omega
    simp [h, h2]
  · simp [h]
theorem zc_255 (i : Nat) : zc 255 i = decide (i < 8) := by
  have : (255 : Int32) = nI (2 ^ 8 - 1) := rfl
  rw [this, zc_nI, zt_2]
  by_cases h : i < 8
  · have h2 : i < 32 := by omega
    simp [h, h2]
  · simp [h]
theorem zb_m1 {i : Nat} (h : i < 64) : zb (-1) i = true := by
  have : (-1 : Int64) = lN (2 ^ 64 - 1) := by decide +kernel
  rw [this, zb_lN, zt_2]; simp [h]
theorem zc_m1 {i : Nat} (h : i < 32) : zc (-1) i = true := by
  have : (-1 : Int32) = nI (2 ^ 32 - 1) := by decide +kernel
  rw [this, zc_nI, zt_2]; simp [h]
theorem zb_0 (i : Nat) : zb 0 i = false := BitVec.getLsbD_zero
theorem zc_0 (i : Nat) : zc 0 i = false := BitVec.getLsbD_zero
theorem zh_c : ∀ k, k < 64 → ((((nI k).toInt64 &&& 63).toBitVec.smod 64).toNat) = k := by decide +kernel
theorem zh_u : ∀ k, k < 64 → (((nI k).toInt64.toUInt64 &&& Int64.toUInt64 63).toBitVec % 64).toNat = k := by decide +kernel
theorem zb_shl {k : Nat} (hk : k < 64) (x : Int64) {i : Nat} (hi : i < 64) : zb (zf_lshl x (nI k)) i = (decide (k ≤ i) && zb x (i - k)) := by
  unfold zf_lshl zb
  rw [Int64.toBitVec_shiftLeft, BitVec.shiftLeft_eq', zh_c k hk, BitVec.getLsbD_shiftLeft]
  by_cases h : k ≤ i
  · have h2 : ¬ i < k := by omega
    simp [hi, h, h2]
  · have h2 : i < k := by omega
    simp [hi, h, h2]
theorem zb_ushr {k : Nat} (hk : k < 64) (x : Int64) (i : Nat) : zb (zf_lushr x (nI k)) i = zb x (k + i) := by
  unfold zf_lushr zb
  show (x.toUInt64 >>> ((nI k).toInt64.toUInt64 &&& Int64.toUInt64 63)).toBitVec.getLsbD i = _
  rw [UInt64.toBitVec_shiftRight, BitVec.ushiftRight_eq', zh_u k hk, BitVec.getLsbD_ushiftRight]
  rfl
theorem zb_shr {k : Nat} (hk : k < 64) (x : Int64) {i : Nat} (hi : i < 64) : zb (zf_lshr x (nI k)) i = if k + i < 64 then zb x (k + i) else zb x 63 := by
  unfold zf_lshr zb
  rw [Int64.toBitVec_shiftRight, BitVec.sshiftRight_eq', zh_c k hk, BitVec.getLsbD_sshiftRight]
  have h2 : ¬ 64 ≤ i := by omega
  by_cases h : k + i < 64
  · simp [h, h2]
  · simp [h, h2, BitVec.msb_eq_getLsbD_last]
theorem zc_l (x : Int64) (i : Nat) : zc x.toInt32 i = (decide (i < 32) && zb x i) := by
  unfold zc zb
  rw [Int64.toBitVec_toInt32, BitVec.getLsbD_signExtend]
  by_cases h : i < 32
  · have h2 : i < 64 := by omega
    simp [h, h2]
  · simp [h]
/-- the k-th byte -/
def pt (x : Int64) (k : Nat) : Nat := x.toBitVec.toNat / 2 ^ (8 * k) % 256
theorem pt_lt (x : Int64) (k : Nat) : pt x k < 256 := Nat.mod_lt _ (by decide)
theorem pt_bit (x : Int64) (k j : Nat) : (pt x k).testBit j = (decide (j < 8) && zb x (8 * k + j)) := by
  unfold pt zb
  rw [show (256 : Nat) = 2 ^ 8 from rfl, Nat.testBit_mod_two_pow, Nat.testBit_div_two_pow]
  rw [BitVec.getLsbD, Nat.add_comm]
theorem pt_ext {x y : Int64} (h : ∀ k, k < 8 → pt x k = pt y k) : x = y := by
  refine zb_ext fun i hi => ?_
  have h1 := congrArg (fun n => n.testBit (i % 8)) (h (i / 8) (by omega))
  simp only [pt_bit] at h1
  have h2 : i % 8 < 8 := Nat.mod_lt _ (by decide)
  have h3 : 8 * (i / 8) + i % 8 = i := Nat.div_add_mod i 8
  simpa [h2, h3] using h1
theorem nb_lt {v i : Nat} (h : v < 256) (hi : 8 ≤ i) : v.testBit i = false := Nat.testBit_lt_two_pow (Nat.lt_of_lt_of_le h (Nat.pow_le_pow_right (n := 2) (by decide) hi))
/-- a character with its k-th byte changed -/
def wi (x : Int64) (k v : Nat) : Int64 := (x &&& ((zf_lshl (255 : Int64) (nI (8 * k))) ^^^ (-1 : Int64))) ||| (zf_lshl (nI v).toInt64 (nI (8 * k)))
theorem zb_wi (x : Int64) {k v i : Nat} (hk : k < 8) (hv : v < 256) (hi : i < 64) : zb (wi x k v) i = if 8 * k ≤ i ∧ i < 8 * k + 8 then v.testBit (i - 8 * k) else zb x i := by
  have h8 : 8 * k < 64 := by omega
  unfold wi
  rw [nI_l (show v < 2 ^ 31 by omega), zb_or, zb_and, zb_xor, zb_shl h8 _ hi, zb_shl h8 _ hi, zb_255, zb_m1 hi, zb_lN]
  by_cases h1 : 8 * k ≤ i
  · by_cases h2 : i < 8 * k + 8
    · have h3 : i - 8 * k < 8 := by omega
      have h4 : i - 8 * k < 64 := by omega
      simp [h1, h2, h3, h4]
    · have h3 : ¬ i - 8 * k < 8 := by omega
      have h4 : v.testBit (i - 8 * k) = false := nb_lt hv (by omega)
      simp [h1, h2, h3, h4]
  · simp [h1]
theorem pt_wi (x : Int64) {k v : Nat} (hk : k < 8) (hv : v < 256) {j : Nat} (hj : j < 8) : pt (wi x k v) j = if j = k then v else pt x j := by
  apply Nat.eq_of_testBit_eq
  intro i
  rw [pt_bit]
  by_cases hi : i < 8
  · rw [zb_wi x hk hv (by omega)]
    by_cases h : j = k
    · subst h
      have h1 : 8 * j ≤ 8 * j + i ∧ 8 * j + i < 8 * j + 8 := by omega
      have h2 : 8 * j + i - 8 * j = i := by omega
      simp [hi, h1, h2]
    · have h1 : ¬ (8 * k ≤ 8 * j + i ∧ 8 * j + i < 8 * k + 8) := by omega
      simp [hi, h1, h, pt_bit]
  · by_cases h : j = k
    · simp [hi, h, nb_lt hv (Nat.not_lt.mp hi)]
    · simp [hi, h, pt_bit]
theorem wi_self (x : Int64) {k : Nat} (hk : k < 8) : wi x k (pt x k) = x := pt_ext fun j hj => by
  rw [pt_wi x hk (pt_lt x k) hj]
  split
  · rename_i h; rw [h]
  · rfl
theorem get_pt (x : Int64) {k : Nat} (hk : k < 8) : ((zf_lushr x (nI (8 * k))) &&& (255 : Int64)).toInt32 = nI (pt x k) := zc_ext fun i hi => by
  rw [zc_l, zb_and, zb_ushr (by omega), zb_255, zc_nI, pt_bit]
  by_cases h : i < 8 <;> simp [h, hi]
theorem part_pt (x : Int64) {k : Nat} (hk : k < 8) : (zf_lshr x (nI (8 * k))).toInt32 &&& (255 : Int32) = nI (pt x k) := zc_ext fun i hi => by
  rw [zc_and, zc_l, zb_shr (by omega) _ (by omega), zc_255, zc_nI, pt_bit]
  by_cases h : i < 8
  · have h2 : 8 * k + i < 64 := by omega
    simp [h, hi, h2]
  · simp [h]
theorem ushr_pt (x : Int64) {k : Nat} (hk : k < 8) : (zf_lushr x (nI (8 * k))).toInt32 &&& (255 : Int32) = nI (pt x k) := zc_ext fun i hi => by
  rw [zc_and, zc_l, zb_ushr (by omega), zc_255, zc_nI, pt_bit]
  by_cases h : i < 8 <;> simp [h, hi]
theorem shl_pt (x : Int64) {k : Nat} (hk : k < 8) : (zf_lshr x (nI (8 * k))) &&& (255 : Int64) = lN (pt x k) := zb_ext fun i hi => by
  rw [zb_and, zb_shr (by omega) _ hi, zb_255, zb_lN, pt_bit]
  by_cases h : i < 8
  · have h2 : 8 * k + i < 64 := by omega
    simp [h, hi, h2]
  · simp [h]
theorem with_wi (x : Int64) {k v : Nat} (hk : k < 8) (hv : v < 256) : (x &&& ((zf_lshl (255 : Int64) (nI (8 * k))) ^^^ (-1 : Int64))) ||| (zf_lshl ((nI v).toInt64 &&& (255 : Int64)) (nI (8 * k))) = wi x k v := by
  have h : (nI v).toInt64 &&& (255 : Int64) = (nI v).toInt64 := by
    rw [nI_l (show v < 2 ^ 31 by omega)]
    refine zb_ext fun i hi => ?_
    rw [zb_and, zb_255, zb_lN]
    by_cases h : i < 8
    · simp [h]
    · simp [h, nb_lt hv (Nat.not_lt.mp h)]
  unfold wi
  rw [h]
theorem nI_and (a b : Nat) : nI a &&& nI b = nI (a &&& b) := zc_ext fun i hi => by
  rw [zc_and, zc_nI, zc_nI, zc_nI, Nat.testBit_and]; simp [hi]
theorem nI_or (a b : Nat) : nI a ||| nI b = nI (a ||| b) := zc_ext fun i hi => by
  rw [zc_or, zc_nI, zc_nI, zc_nI, Nat.testBit_or]; simp [hi]
theorem nI_mul (a b : Nat) : nI a * nI b = nI (a * b) := (Int32.ofNat_mul a b).symm
theorem or_lt {a b : Nat} (ha : a < 256) (hb : b < 256) : a ||| b < 256 := Nat.or_lt_two_pow (n := 8) ha hb
theorem and_lt {a b : Nat} (ha : a < 256) : a &&& b < 256 := Nat.lt_of_le_of_lt Nat.and_le_left ha
/-- a without b's bits -/
def bic (a b : Nat) : Nat := a ^^^ (a &&& b)
theorem bic_lt {a b : Nat} (ha : a < 256) : bic a b < 256 := Nat.xor_lt_two_pow (n := 8) ha (and_lt ha)
theorem nI_bic (a b : Nat) : nI a &&& (nI b ^^^ (-1 : Int32)) = nI (bic a b) := zc_ext fun i hi => by
  rw [zc_and, zc_xor, zc_m1 hi, zc_nI, zc_nI, zc_nI]
  unfold bic
  rw [Nat.testBit_xor, Nat.testBit_and]
  cases a.testBit i <;> cases b.testBit i <;> simp [hi]
theorem bitN : ∀ w, w < 8 → (1 : Int32) <<< (nI w &&& 31) = nI (2 ^ w) := by decide +kernel
theorem bitL : ∀ w, w < 8 → 2 ^ w < 256 := by decide +kernel
theorem lcmp0 (x y : Int64) : (lg_cmp x y) = 0 ↔ x = y := by
  unfold lg_cmp
  by_cases h : x = y
  · subst h
    have : ¬ x > x := by intro h; exact absurd h (by simp)
    simp [this]
  · by_cases h2 : x > y <;> simp [h, h2] <;> decide
