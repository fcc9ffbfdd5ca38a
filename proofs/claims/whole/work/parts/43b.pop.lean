theorem cnt_b {P : Nat → Bool} {m k c : Nat} : cntF P (m + 1) k c = cntF P m (k + 1) (c + b2n (P k)) := by
  show cntF P m (k + 1) (if P k = true then c + 1 else c) = _
  congr 1
  unfold b2n
  split <;> omega
theorem cnt_c {P : Nat → Bool} : ∀ m k c, cntF P m k c = c + cntF P m k 0 := by
  intro m
  induction m with
  | zero => intro k c; rfl
  | succ m ih =>
    intro k c
    rw [cnt_b, cnt_b, ih (k + 1) (c + b2n (P k)), ih (k + 1) (0 + b2n (P k))]
    omega
theorem cnt_add {P : Nat → Bool} : ∀ m n k c, cntF P (m + n) k c = cntF P n (k + m) (cntF P m k c) := by
  intro m
  induction m with
  | zero =>
    intro n k c
    rw [Nat.zero_add]
    rfl
  | succ m ih =>
    intro n k c
    rw [show m + 1 + n = (m + n) + 1 by omega, cnt_b, cnt_b, ih n (k + 1), show k + 1 + m = k + (m + 1) by omega]
theorem cnt_congr {P P' : Nat → Bool} : ∀ m k c, (∀ i, k ≤ i → i < k + m → P i = P' i) → cntF P m k c = cntF P' m k c := by
  intro m
  induction m with
  | zero => intro k c _; rfl
  | succ m ih =>
    intro k c h
    rw [cnt_b, cnt_b, h k (by omega) (by omega)]
    exact ih (k + 1) _ (fun i h1 h2 => h i (by omega) (by omega))
theorem pc8_t {N s : Nat} : pc8 (N / 2 ^ s % 256) = cntF (fun i => N.testBit i) 8 s 0 := by
  have h : ∀ k, k < 8 → (N / 2 ^ s % 256).testBit k = N.testBit (s + k) := by
    intro k hk
    rw [show (256 : Nat) = 2 ^ 8 from rfl, Nat.testBit_mod_two_pow, Nat.testBit_div_two_pow]
    simp [hk, Nat.add_comm]
  unfold pc8
  rw [h 0 (by omega), h 1 (by omega), h 2 (by omega), h 3 (by omega), h 4 (by omega), h 5 (by omega), h 6 (by omega), h 7 (by omega)]
  rw [cnt_b, cnt_b, cnt_b, cnt_b, cnt_b, cnt_b, cnt_b, cnt_b]
  show _ = 0 + b2n (N.testBit s) + b2n (N.testBit (s + 1)) + b2n (N.testBit (s + 1 + 1)) + b2n (N.testBit (s + 1 + 1 + 1)) + b2n (N.testBit (s + 1 + 1 + 1 + 1)) + b2n (N.testBit (s + 1 + 1 + 1 + 1 + 1)) + b2n (N.testBit (s + 1 + 1 + 1 + 1 + 1 + 1)) + b2n (N.testBit (s + 1 + 1 + 1 + 1 + 1 + 1 + 1))
  rw [Nat.zero_add]
  rfl
theorem ib_t {u : Int32} {i : Nat} : ib u i = (tN u).testBit i := rfl
/-- the count of an int's bits -/
theorem bcI_c (u : Int32) : bcI u = nI (cntF (ib u) 32 0 0) := by
  rw [bcI_n]
  congr 1
  have e0 : tN u % 256 = tN u / 2 ^ 0 % 256 := by rw [Nat.pow_zero, Nat.div_one]
  rw [e0, show (256 : Nat) = 2 ^ 8 from rfl, show (65536 : Nat) = 2 ^ 16 from rfl, show (16777216 : Nat) = 2 ^ 24 from rfl]
  have p0 := pc8_t (N := tN u) (s := 0)
  have p1 := pc8_t (N := tN u) (s := 8)
  have p2 := pc8_t (N := tN u) (s := 16)
  have p3 := pc8_t (N := tN u) (s := 24)
  rw [show (2 : Nat) ^ 8 = 256 from rfl] at *
  rw [show (256 : Nat) = 2 ^ 8 from rfl] at p1
  have p1' : pc8 (tN u / 256 % 256) = cntF (fun i => (tN u).testBit i) 8 8 0 := p1
  rw [p0, p1', p2, p3]
  have a1 := cnt_add (P := ib u) 8 24 0 0
  have a2 := cnt_add (P := ib u) 8 16 8 (cntF (ib u) 8 0 0)
  have a3 := cnt_add (P := ib u) 8 8 16 (cntF (ib u) 8 8 (cntF (ib u) 8 0 0))
  have c1 := cnt_c (P := ib u) 8 8 (cntF (ib u) 8 0 0)
  have c2 := cnt_c (P := ib u) 8 16 (cntF (ib u) 8 8 (cntF (ib u) 8 0 0))
  have c3 := cnt_c (P := ib u) 8 24 (cntF (ib u) 8 16 (cntF (ib u) 8 8 (cntF (ib u) 8 0 0)))
  show cntF (ib u) 8 0 0 + cntF (ib u) 8 8 0 + cntF (ib u) 8 16 0 + cntF (ib u) 8 24 0 = cntF (ib u) 32 0 0
  simp only [Nat.reduceAdd, Nat.zero_add] at a1 a2 a3
  omega
theorem f5_c {u v w : Int32} : ∀ m k c, f5F u v w m k c = c + (cntF (ib u) m k 0 + cntF (ib v) m k 0 + cntF (ib w) m k 0) := by
  intro m
  induction m with
  | zero => intro k c; rfl
  | succ m ih =>
    intro k c
    show f5F u v w m (k + 1) (c + (b2n (ib u k) + b2n (ib v k) + b2n (ib w k))) = _
    rw [ih, cnt_b, cnt_b, cnt_b, cnt_c m (k + 1) (0 + b2n (ib u k)), cnt_c m (k + 1) (0 + b2n (ib v k)), cnt_c m (k + 1) (0 + b2n (ib w k))]
    omega
/-! a long as two ints -/
theorem lb_lo {u : Int64} {i : Nat} (h : i < 32) : ib u.toInt32 i = lb u i := by
  unfold ib lb
  rw [Int64.toBitVec_toInt32, BitVec.getLsbD_signExtend]
  have h2 : i < 64 := by omega
  simp [h, h2]
theorem lb_hi {u : Int64} {i : Nat} (h : i < 32) : ib (UInt64.toInt64 (u.toUInt64 >>> ((nI 32).toInt64.toUInt64 &&& Int64.toUInt64 63))).toInt32 i = lb u (i + 32) := by
  rw [lb_lo h]
  have h1 : (UInt64.toInt64 (u.toUInt64 >>> ((nI 32).toInt64.toUInt64 &&& Int64.toUInt64 63))).toBitVec = u.toBitVec >>> 32 := by
    show (u.toUInt64 >>> ((nI 32).toInt64.toUInt64 &&& Int64.toUInt64 63)).toBitVec = _
    rw [UInt64.toBitVec_shiftRight]
    show u.toBitVec >>> (((nI 32).toInt64.toUInt64 &&& Int64.toUInt64 63).toBitVec % 64) = _
    rw [BitVec.ushiftRight_eq', lb_uh 32 (by decide)]
  unfold lb
  rw [h1, BitVec.getLsbD_ushiftRight, Nat.add_comm]
/-- the long of blocks' bits and the two ints -/
def bkR (u : Int64) (b : Int32 × Int32) : Prop := ∀ i, i < 32 → ib b.1 i = lb u i ∧ ib b.2 i = lb u (i + 32)
theorem bkR_s {u : Int64} {b : Int32 × Int32} {n : Int32} (h : bkR u b) (hn : n = nI 0 ∨ ∃ c, 18 ≤ c ∧ c < 48 ∧ n = nI c) : bkR (if n = nI 0 then u ||| 0 else u ||| 1 <<< (n.toInt64 &&& 63)) (bkS n b) := by
  rcases hn with rfl | ⟨c, h1, h2, rfl⟩
  · rw [if_pos rfl]
    intro i hi
    have e : bkS (nI 0) b = b := by
      unfold bkS
      rw [if_neg (by decide), if_neg (by decide)]
    rw [e, lb_or, lb_or, lb_0, lb_0]
    simpa using h i hi
  · rw [if_neg (fun e => by have := (nI_eq (a := c) (b := 0) (by omega) (by omega)).mp e; omega)]
    intro i hi
    obtain ⟨g1, g2⟩ := h i hi
    rw [lb_put (by omega), lb_put (by omega)]
    unfold bkS
    by_cases hc : 31 < c
    · rw [if_pos (nI_lt hc (by omega)), pk_sub (by omega)]
      refine ⟨?_, ?_⟩
      · have e : decide (i = c) = false := decide_eq_false (by omega)
        rw [e, Bool.or_false]
        exact g1
      · show ib (b.2 ||| nI 1 <<< (nI (c - 32) &&& nI 31)) i = _
        rw [ib_set (by omega), g2]
        congr 1
        exact decide_eq_decide.mpr (by omega)
    · rw [if_neg (nI_nlt (by omega) (by omega)), if_pos (nI_lt (by omega) (by omega))]
      refine ⟨?_, ?_⟩
      · show ib (b.1 ||| nI 1 <<< (nI c &&& nI 31)) i = _
        rw [ib_set (by omega), g1]
      · have e : decide (i + 32 = c) = false := decide_eq_false (by omega)
        rw [e, Bool.or_false]
        exact g2
theorem bkR_all {f : Nat → Int32} (hn : ∀ q, q < 30 → nio f q = nI 0 ∨ ∃ c, 18 ≤ c ∧ c < 48 ∧ nio f q = nI c) : ∀ m i u b, i + m = 16 → 1 ≤ i → bkR u b → bkR (bkL f (2 * m) (2 * (i - 1)) u) (bksF f m i b) := by
  intro m
  induction m with
  | zero => intro i u b _ _ h; exact h
  | succ m ih =>
    intro i u b hi h1 h
    have e2 : 2 * (m + 1) = 2 * m + 1 + 1 := by omega
    have n0 := nio_e (f := f) (i := i) (k := 0) h1 (by omega)
    have n1 := nio_e (f := f) (i := i) (k := 1) h1 (by omega)
    have s0 := bkR_s h (hn (2 * (i - 1) + 0) (by omega))
    have s1 := bkR_s s0 (hn (2 * (i - 1) + 1) (by omega))
    rw [e2, bkL_s, bkL_s]
    show bkR (bkL f (2 * m) (2 * (i - 1) + 1 + 1) _) (bksF f m (i + 1) (bkS (f (16 + 4 * i + 3)) (bkS (f (16 + 4 * i + 2)) b)))
    have e3 : 2 * (i - 1) + 1 + 1 = 2 * (i + 1 - 1) := by omega
    rw [e3]
    refine ih (i + 1) _ _ (by omega) (by omega) ?_
    rw [n0, n1] at s1
    rw [← Nat.add_zero (2 * (i - 1)), n0]
    rw [Nat.add_zero (2 * (i - 1)), n1]
    exact s1
theorem bk0 : bkR 262143 (nI 262143, nI 0) := by
  unfold bkR
  decide +kernel
theorem wbI_p {f : Nat → Int32} (hn : ∀ q, q < 30 → nio f q = nI 0 ∨ ∃ c, 18 ≤ c ∧ c < 48 ∧ nio f q = nI c) : wbI f = nI (pass5 f) := by
  have hr := bkR_all hn 15 1 262143 (nI 262143, nI 0) (by omega) (by omega) bk0
  simp only [Nat.reduceMul, Nat.reduceSub] at hr
  have e1 : (bkL f 30 0 262143).toInt32 = (bksF f 15 1 (nI 262143, nI 0)).1 := ib_ext fun i hi => by rw [lb_lo hi]; exact (hr i hi).1.symm
  have e2 : (UInt64.toInt64 ((bkL f 30 0 262143).toUInt64 >>> ((nI 32).toInt64.toUInt64 &&& Int64.toUInt64 63))).toInt32 = (bksF f 15 1 (nI 262143, nI 0)).2 := ib_ext fun i hi => by rw [lb_hi hi]; exact (hr i hi).2.symm
  unfold wbI pass5
  rw [e1, e2, bcI_c, bcI_c, bcI_c, nI_add, nI_add, f5_c]
  congr 1
  omega
