/-! NUMBERS: ints that are natural numbers, and their bits -/
theorem lit_0 : (0 : Int32) = nI 0 := rfl
theorem lit_1 : (1 : Int32) = nI 1 := rfl
theorem lit_2 : (2 : Int32) = nI 2 := rfl
theorem lit_3 : (3 : Int32) = nI 3 := rfl
theorem lit_4 : (4 : Int32) = nI 4 := rfl
theorem lit_5 : (5 : Int32) = nI 5 := rfl
theorem lit_6 : (6 : Int32) = nI 6 := rfl
theorem lit_7 : (7 : Int32) = nI 7 := rfl
theorem lit_8 : (8 : Int32) = nI 8 := rfl
theorem lit_9 : (9 : Int32) = nI 9 := rfl
theorem lit_10 : (10 : Int32) = nI 10 := rfl
theorem lit_11 : (11 : Int32) = nI 11 := rfl
theorem lit_12 : (12 : Int32) = nI 12 := rfl
theorem lit_13 : (13 : Int32) = nI 13 := rfl
theorem lit_14 : (14 : Int32) = nI 14 := rfl
theorem lit_15 : (15 : Int32) = nI 15 := rfl
theorem lit_16 : (16 : Int32) = nI 16 := rfl
theorem lit_17 : (17 : Int32) = nI 17 := rfl
theorem lit_18 : (18 : Int32) = nI 18 := rfl
theorem lit_19 : (19 : Int32) = nI 19 := rfl
theorem lit_20 : (20 : Int32) = nI 20 := rfl
theorem lit_21 : (21 : Int32) = nI 21 := rfl
theorem lit_22 : (22 : Int32) = nI 22 := rfl
theorem lit_23 : (23 : Int32) = nI 23 := rfl
theorem lit_24 : (24 : Int32) = nI 24 := rfl
theorem lit_25 : (25 : Int32) = nI 25 := rfl
theorem lit_26 : (26 : Int32) = nI 26 := rfl
theorem lit_27 : (27 : Int32) = nI 27 := rfl
theorem lit_28 : (28 : Int32) = nI 28 := rfl
theorem lit_29 : (29 : Int32) = nI 29 := rfl
theorem lit_30 : (30 : Int32) = nI 30 := rfl
theorem lit_31 : (31 : Int32) = nI 31 := rfl
theorem lit_32 : (32 : Int32) = nI 32 := rfl
theorem lit_33 : (33 : Int32) = nI 33 := rfl
theorem lit_34 : (34 : Int32) = nI 34 := rfl
theorem lit_35 : (35 : Int32) = nI 35 := rfl
theorem lit_36 : (36 : Int32) = nI 36 := rfl
theorem lit_37 : (37 : Int32) = nI 37 := rfl
theorem lit_38 : (38 : Int32) = nI 38 := rfl
theorem lit_39 : (39 : Int32) = nI 39 := rfl
theorem lit_40 : (40 : Int32) = nI 40 := rfl
theorem lit_41 : (41 : Int32) = nI 41 := rfl
theorem lit_42 : (42 : Int32) = nI 42 := rfl
theorem lit_43 : (43 : Int32) = nI 43 := rfl
theorem lit_44 : (44 : Int32) = nI 44 := rfl
theorem lit_45 : (45 : Int32) = nI 45 := rfl
theorem lit_46 : (46 : Int32) = nI 46 := rfl
theorem lit_47 : (47 : Int32) = nI 47 := rfl
theorem lit_48 : (48 : Int32) = nI 48 := rfl
theorem lit_49 : (49 : Int32) = nI 49 := rfl
theorem lit_50 : (50 : Int32) = nI 50 := rfl
theorem lit_51 : (51 : Int32) = nI 51 := rfl
theorem lit_52 : (52 : Int32) = nI 52 := rfl
theorem lit_53 : (53 : Int32) = nI 53 := rfl
theorem lit_54 : (54 : Int32) = nI 54 := rfl
theorem lit_55 : (55 : Int32) = nI 55 := rfl
theorem lit_56 : (56 : Int32) = nI 56 := rfl
theorem lit_57 : (57 : Int32) = nI 57 := rfl
theorem lit_58 : (58 : Int32) = nI 58 := rfl
theorem lit_59 : (59 : Int32) = nI 59 := rfl
theorem lit_60 : (60 : Int32) = nI 60 := rfl
theorem lit_61 : (61 : Int32) = nI 61 := rfl
theorem lit_62 : (62 : Int32) = nI 62 := rfl
theorem lit_63 : (63 : Int32) = nI 63 := rfl
theorem lit_64 : (64 : Int32) = nI 64 := rfl
theorem lit_80 : (80 : Int32) = nI 80 := rfl
theorem lit_100 : (100 : Int32) = nI 100 := rfl
theorem lit_524287 : (524287 : Int32) = nI 524287 := rfl
theorem lit_262143 : (262143 : Int32) = nI 262143 := rfl
theorem lit_384 : (384 : Int32) = nI 384 := rfl
theorem lit_1001 : (1001 : Int32) = nI 1001 := rfl
theorem lit_1002 : (1002 : Int32) = nI 1002 := rfl
theorem lit_61267 : (61267 : Int32) = nI 61267 := rfl
theorem nI_rm (a b : Nat) : nI a - nI (a / b * b) = nI (a % b) := by
  rw [pk_sub (Nat.div_mul_le_self a b)]
  congr 1
  have h := Nat.div_add_mod a b
  rw [Nat.mul_comm] at h
  omega
theorem Nrm (a b : Nat) : a - a / b * b = a % b := by
  have h := Nat.div_add_mod a b
  rw [Nat.mul_comm] at h
  omega
theorem Nrm8 (a : Nat) : a - 8 * (a / 8) = a % 8 := by omega
theorem Nrm4 (a : Nat) : a - 4 * (a / 4) = a % 4 := by omega
theorem nI_inT {a N : Nat} (h : a < N) (hN : N < 2 ^ 31) : pIn (nI a) N = true := decide_eq_true (nI_in h hN)
theorem nI_ltT {a b : Nat} (h : a < b) (hb : b < 2 ^ 31) : (nI a < nI b) = True := eq_true (nI_lt h hb)
theorem nI_ltF {a b : Nat} (h : b ≤ a) (ha : a < 2 ^ 31) : (nI a < nI b) = False := eq_false (nI_nlt h ha)
theorem nI_eqF {a b : Nat} (h : a ≠ b) (ha : a < 2 ^ 31) (hb : b < 2 ^ 31) : (nI a = nI b) = False := eq_false (fun e => h ((nI_eq ha hb).mp e))
theorem nI_eqT {a b : Nat} (h : a = b) : (nI a = nI b) = True := eq_true (congrArg nI h)
theorem nI_uk : ∀ k, k < 32 → ((Int32.toUInt32 (nI k) &&& Int32.toUInt32 31).toBitVec % 32).toNat = k := by decide +kernel
theorem nI_ushr {n k : Nat} (hn : n < 2 ^ 31) (hk : k < 32) : (UInt32.toInt32 (Int32.toUInt32 (nI n) >>> (Int32.toUInt32 (nI k) &&& Int32.toUInt32 (nI 31)))) = nI (n / 2 ^ k) := pk_ushrN (Nat.lt_trans hn (by decide)) (nI k) k (nI_uk k hk)
theorem nI_and1 {n : Nat} (h : n < 2 ^ 31) : nI n &&& nI 1 = nI (n % 2) := pk_andN (Nat.lt_trans h (by decide)) 1 (by decide)
theorem nI_and15 {n : Nat} (h : n < 2 ^ 31) : nI n &&& nI 15 = nI (n % 16) := pk_andN (Nat.lt_trans h (by decide)) 4 (by decide)
theorem nI_and31 {n : Nat} (h : n < 2 ^ 31) : nI n &&& nI 31 = nI (n % 32) := pk_andN (Nat.lt_trans h (by decide)) 5 (by decide)
theorem nI_and63 {n : Nat} (h : n < 2 ^ 31) : nI n &&& nI 63 = nI (n % 64) := pk_andN (Nat.lt_trans h (by decide)) 6 (by decide)
theorem m4 (a : Nat) : a * 4 = 4 * a := Nat.mul_comm a 4
theorem m8 (a : Nat) : a * 8 = 8 * a := Nat.mul_comm a 8
theorem if_and_t {c : Prop} [Decidable c] {A B : Prop} (h : c) : (if c then A else B) ↔ A := by rw [if_pos h]
/-- an int's bit -/
def ib (u : Int32) (i : Nat) : Bool := u.toBitVec.getLsbD i
theorem ib_ext {x y : Int32} (h : ∀ i, i < 32 → ib x i = ib y i) : x = y := Int32.toBitVec_inj.mp (BitVec.eq_of_getLsbD_eq fun i hi => h i hi)
theorem ib_or (x y : Int32) (i : Nat) : ib (x ||| y) i = (ib x i || ib y i) := by
  unfold ib
  rw [Int32.toBitVec_or, BitVec.getLsbD_or]
theorem ib_and (x y : Int32) (i : Nat) : ib (x &&& y) i = (ib x i && ib y i) := by
  unfold ib
  rw [Int32.toBitVec_and, BitVec.getLsbD_and]
theorem ib_xor (x y : Int32) (i : Nat) : ib (x ^^^ y) i = (ib x i ^^ ib y i) := by
  unfold ib
  rw [Int32.toBitVec_xor, BitVec.getLsbD_xor]
theorem ib_big {x : Int32} {i : Nat} (h : 32 ≤ i) : ib x i = false := BitVec.getLsbD_of_ge _ _ h
theorem ib_0 (i : Nat) : ib 0 i = false := by
  unfold ib
  simp
theorem ib_one : ∀ b, b < 32 → (nI 1 <<< (nI b &&& nI 31)).toBitVec = BitVec.twoPow 32 b := by decide +kernel
theorem ib_bit {b i : Nat} (hb : b < 32) : ib (nI 1 <<< (nI b &&& nI 31)) i = decide (i = b) := by
  unfold ib
  rw [ib_one b hb, BitVec.getLsbD_twoPow]
  by_cases h : i = b
  · subst h
    simp [hb]
  · have h2 : ¬ b = i := fun e => h e.symm
    simp [h, h2]
theorem ib_m1 {i : Nat} (h : i < 32) : ib (-1) i = true := by
  unfold ib
  show (BitVec.allOnes 32).getLsbD i = true
  rw [BitVec.getLsbD_allOnes]
  exact decide_eq_true h
theorem ib_set {u : Int32} {b i : Nat} (hb : b < 32) : ib (u ||| nI 1 <<< (nI b &&& nI 31)) i = (ib u i || decide (i = b)) := by rw [ib_or, ib_bit hb]
theorem ib_clr {u : Int32} {b i : Nat} (hb : b < 32) : ib (u &&& ((nI 1 <<< (nI b &&& nI 31)) ^^^ (-1))) i = (ib u i && !decide (i = b)) := by
  rw [ib_and, ib_xor, ib_bit hb]
  by_cases h : i < 32
  · rw [ib_m1 h]
    simp
  · rw [ib_big (x := u) (Nat.not_lt.mp h)]
    simp
theorem ib_1 (i : Nat) : ib (nI 1) i = decide (i = 0) := by
  unfold ib
  show (1#32).getLsbD i = _
  rw [BitVec.getLsbD_one]
  simp
theorem ib_sk : ∀ b, b < 32 → ((nI b &&& nI 31).toBitVec.smod 32).toNat = b := by decide +kernel
theorem ib_uk : ∀ b, b < 32 → ((Int32.toUInt32 (nI b) &&& Int32.toUInt32 (nI 31)).toBitVec % 32).toNat = b := by decide +kernel
theorem ib_shr {u : Int32} {b : Nat} (hb : b < 32) : ib (u >>> (nI b &&& nI 31)) 0 = ib u b := by
  unfold ib
  show (u.toBitVec.sshiftRight' ((nI b &&& nI 31).toBitVec.smod 32)).getLsbD 0 = _
  rw [BitVec.sshiftRight', ib_sk b hb, BitVec.getLsbD_sshiftRight]
  simp [hb]
theorem ib_ushr {u : Int32} {b : Nat} (hb : b < 32) : ib (UInt32.toInt32 (Int32.toUInt32 u >>> (Int32.toUInt32 (nI b) &&& Int32.toUInt32 (nI 31)))) 0 = ib u b := by
  unfold ib
  show (Int32.toUInt32 u >>> (Int32.toUInt32 (nI b) &&& Int32.toUInt32 (nI 31))).toBitVec.getLsbD 0 = _
  rw [UInt32.toBitVec_shiftRight]
  show (u.toBitVec >>> ((Int32.toUInt32 (nI b) &&& Int32.toUInt32 (nI 31)).toBitVec % 32)).getLsbD 0 = _
  rw [BitVec.ushiftRight_eq', ib_uk b hb, BitVec.getLsbD_ushiftRight]
  simp
theorem ib_low (x : Int32) : x &&& nI 1 = nI (if ib x 0 = true then 1 else 0) := by
  refine ib_ext fun i hi => ?_
  rw [ib_and, ib_1]
  by_cases h : i = 0
  · subst h
    by_cases h2 : ib x 0 = true
    · simp [h2, ib_1]
    · simp [h2, nI_0, ib_0]
  · by_cases h2 : ib x 0 = true
    · simp [h2, h, ib_1]
    · simp [h2, h, nI_0, ib_0]
/-- bit b as an int -/
theorem nI_bit {u : Int32} {b : Nat} (hb : b < 32) : (u >>> (nI b &&& nI 31)) &&& nI 1 = nI (if ib u b = true then 1 else 0) := by rw [ib_low, ib_shr hb]
theorem nI_ubit {u : Int32} {b : Nat} (hb : b < 32) : UInt32.toInt32 (Int32.toUInt32 u >>> (Int32.toUInt32 (nI b) &&& Int32.toUInt32 (nI 31))) &&& nI 1 = nI (if ib u b = true then 1 else 0) := by rw [ib_low, ib_ushr hb]
theorem nI_b0 {c : Bool} : (nI (if c = true then 1 else 0) = nI 0) ↔ c = false := by
  cases c <;> decide
theorem nI_b1 {c : Bool} : (nI (if c = true then 1 else 0) = nI 1) ↔ c = true := by
  cases c <;> decide
