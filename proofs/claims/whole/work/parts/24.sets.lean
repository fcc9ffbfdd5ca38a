/-! SETS OF BLOCKS: a long by its bits -/
def lb (u : Int64) (i : Nat) : Bool := u.toBitVec.getLsbD i
theorem lb_ext {x y : Int64} (h : ∀ i, i < 64 → lb x i = lb y i) : x = y := Int64.toBitVec_inj.mp (BitVec.eq_of_getLsbD_eq fun i hi => h i hi)
theorem lb_or (x y : Int64) (i : Nat) : lb (x ||| y) i = (lb x i || lb y i) := by
  unfold lb
  rw [Int64.toBitVec_or, BitVec.getLsbD_or]
theorem lb_and (x y : Int64) (i : Nat) : lb (x &&& y) i = (lb x i && lb y i) := by
  unfold lb
  rw [Int64.toBitVec_and, BitVec.getLsbD_and]
theorem lb_big {x : Int64} {i : Nat} (h : 64 ≤ i) : lb x i = false := BitVec.getLsbD_of_ge _ _ h
theorem lb_0 (i : Nat) : lb 0 i = false := by
  unfold lb
  simp
theorem lb_uh : ∀ b, b < 64 → (((nI b).toInt64.toUInt64 &&& Int64.toUInt64 63).toBitVec % 64).toNat = b := by decide +kernel
theorem lb_one : ∀ b, b < 64 → ((1 : Int64) <<< ((nI b).toInt64 &&& 63)).toBitVec = BitVec.twoPow 64 b := by decide +kernel
theorem lb_put {u : Int64} {b i : Nat} (hb : b < 64) : lb (u ||| 1 <<< ((nI b).toInt64 &&& 63)) i = (lb u i || decide (i = b)) := by
  rw [lb_or]
  congr 1
  unfold lb
  rw [lb_one b hb, BitVec.getLsbD_twoPow]
  by_cases h : i = b
  · subst h
    simp [hb]
  · have h2 : ¬ b = i := fun e => h e.symm
    simp [h, h2]
theorem lb_holds {u : Int64} {b : Nat} (hb : b < 64) : lg_cmp ((u.toUInt64 >>> ((nI b).toInt64.toUInt64 &&& Int64.toUInt64 63)).toInt64 &&& 1) 0 = 0 ↔ lb u b = false := by
  rw [lg_cmp_eq]
  have h1 : (u.toUInt64 >>> ((nI b).toInt64.toUInt64 &&& Int64.toUInt64 63)).toInt64.toBitVec = u.toBitVec >>> b := by
    show (u.toUInt64 >>> ((nI b).toInt64.toUInt64 &&& Int64.toUInt64 63)).toBitVec = _
    rw [UInt64.toBitVec_shiftRight]
    show u.toBitVec >>> (((nI b).toInt64.toUInt64 &&& Int64.toUInt64 63).toBitVec % 64) = _
    rw [BitVec.ushiftRight_eq', lb_uh b hb]
  have h2 : ∀ i, lb ((u.toUInt64 >>> ((nI b).toInt64.toUInt64 &&& Int64.toUInt64 63)).toInt64 &&& 1) i = (lb u (b + i) && decide (i = 0)) := by
    intro i
    rw [lb_and]
    unfold lb
    rw [h1, BitVec.getLsbD_ushiftRight]
    congr 1
    show (1#64).getLsbD i = _
    rw [BitVec.getLsbD_one]
    simp
  constructor
  · intro h
    have h3 := h2 0
    rw [h, lb_0] at h3
    simpa using h3.symm
  · intro h
    refine lb_ext fun i hi => ?_
    rw [h2, lb_0]
    by_cases e : i = 0
    · subst e
      simp [h]
    · simp [e]
/-- a set's member as the machine answers it -/
def lbI (u : Int64) (b : Nat) : Int32 := if lb u b = true then 1 else 0
section RUN
variable {X : pScr} {nx : Nat} {ok : Bool} {Q : pRes → Prop} {d1 : cS1} {d4 : cS4} {d6 : cS6} {d9 : cS9} {R : pMem} {M : pMem}
theorem q_holds {u : Int64} {b : Nat} (hb : b < 64) : pW X 178 0 [.long u, pDum, .int (nI b)] [] M nx ok Q ↔ Q (.inl (some (.int (lbI u b))), M, nx, ok, 0, 0) := by
  simp only [w178_0, w178_1, w178_2, w178_3, w178_4, w178_5, w178_6, w178_7, w178_10, w178_11, w178_14, w178_15, lb_holds hb, true_or, or_true, true_and]
  unfold lbI
  by_cases h : lb u b = true
  · simp [h]
  · simp [h]
end RUN
