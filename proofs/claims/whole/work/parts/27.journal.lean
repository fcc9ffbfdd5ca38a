section RUN
variable {X : pScr} {nx : Nat} {ok : Bool} {Q : pRes → Prop} {d1 : cS1} {d4 : cS4} {d6 : cS6} {d9 : cS9} {R : pMem} {M : pMem}
/-- a checkpoint's blocks -/
def ckF (j : cS6) (d : cS1) : Bool × cS1 := if j.2.2.1 = 0 then (true, d) else thenF (putsF j.2.2.1 j.1 48 0 d) flF
/-- the journal behind a checkpoint -/
def ckJ (j : cS6) : cS6 := (j.1, jFb j 2, 0, j.2.2.2.1, 0, j.2.2.2.2.2.1, j.2.2.2.2.2.2.1, j.2.2.2.2.2.2.2 + 1)
theorem q_ckpt : pW X 57 0 [.ref 6, pDum] [] (cSW d1 d4 d6 d9 R) nx ok Q ↔ (if (ckF d6 d1).1 = true then (if (firstF d6 2 (ckF d6 d1).2).1 = true then Q (.inl none, cSW (firstF d6 2 (ckF d6 d1).2).2 d4 (ckJ d6) d9 R, nx, ok, 0, 0) else Q (.inr 4, cSW (firstF d6 2 (ckF d6 d1).2).2 d4 (d6.1, jFb d6 2, d6.2.2) d9 R, nx, false, 1, 6)) else Q (.inr 4, cSW (ckF d6 d1).2 d4 d6 d9 R, nx, false, 1, 6)) := by
  have hx : pHx 57 = [] := by decide +kernel
  have hl := fun d1 => q_ckpt_l (X := X) (nx := nx) (ok := ok) (Q := Q) (d4 := d4) (d6 := d6) (d9 := d9) (R := R) 48 0 d1 rfl
  rw [nI_0] at hl
  have tail : ∀ (z : Value) (d : cS1), pW X 57 57 [.ref 6, z] [] (cSW d d4 d6 d9 R) nx ok Q ↔ (if (firstF d6 2 d).1 = true then Q (.inl none, cSW (firstF d6 2 d).2 d4 (ckJ d6) d9 R, nx, ok, 0, 0) else Q (.inr 4, cSW (firstF d6 2 d).2 d4 (d6.1, jFb d6 2, d6.2.2) d9 R, nx, false, 1, 6)) := by
    intro z d
    simp only [w57_0, w57_1, w57_4, w57_5, w57_6, w57_9, w57_10, w57_12, w57_14, w57_17, w57_18, w57_21, w57_22, w57_25, w57_28, w57_29, w57_32, w57_33, w57_34, w57_37, w57_38, w57_40, w57_41, w57_44, w57_47, w57_50, w57_51, w57_54, w57_57, w57_58, w57_59, w57_62, w57_63, w57_64, w57_67, w57_68, w57_69, w57_72, w57_73, w57_74, w57_77, w57_78, w57_79, w57_82, cS_i0, cS_g0_0, cS_g0_1, cS_g0_2, cS_g0_3, cS_i1, cS_g1_0, cS_g1_1, cS_g1_2, cS_p1_2, cS_g1_3, cS_p1_3, cS_g1_4, cS_p1_4, cS_g1_5, cS_p1_5, cS_g1_6, cS_p1_6, cS_g1_7, cS_p1_7, cS_a2, cS_u2, cS_l2, cS_c2_2, cS_c2_3, cS_c2_5, cS_c2_7, cS_c2_8, cS_c2_10, cS_c2_11, cS_c2_12, cS_a3, cS_u3, cS_l3, cS_c3_2, cS_c3_3, cS_c3_5, cS_c3_7, cS_c3_8, cS_c3_10, cS_c3_11, cS_c3_12, cS_i4, cS_g4_0, cS_g4_1, cS_p4_1, cS_g4_2, cS_p4_2, cS_g4_3, cS_p4_3, cS_g4_4, cS_p4_4, cS_a5, cS_u5, cS_l5, cS_c5_2, cS_c5_3, cS_c5_5, cS_c5_7, cS_c5_8, cS_c5_10, cS_c5_11, cS_c5_12, cS_i6, cS_g6_0, cS_g6_1, cS_g6_2, cS_g6_3, cS_g6_4, cS_p6_4, cS_g6_5, cS_p6_5, cS_g6_6, cS_p6_6, cS_g6_7, cS_p6_7, cS_g6_8, cS_p6_8, cS_g6_9, cS_p6_9, cS_a7, cS_u7, cS_l7, cS_c7_2, cS_c7_3, cS_c7_5, cS_c7_7, cS_c7_8, cS_c7_10, cS_c7_11, cS_c7_12, cS_a8, cS_u8, cS_l8, cS_c8_2, cS_c8_3, cS_c8_5, cS_c8_7, cS_c8_8, cS_c8_10, cS_c8_11, cS_c8_12, cS_i9, cS_g9_0, cS_g9_1, cS_g9_2, cS_a10, cS_u10, cS_l10, cS_c10_2, cS_c10_3, cS_c10_5, cS_c10_7, cS_c10_8, cS_c10_10, cS_c10_11, cS_c10_12, cS_a11, cS_u11, cS_l11, cS_c11_2, cS_c11_3, cS_c11_5, cS_c11_7, cS_c11_8, cS_c11_10, cS_c11_11, cS_c11_12, cS_a12, cS_u12, cS_l12, cS_c12_2, cS_c12_3, cS_c12_5, cS_c12_7, cS_c12_8, cS_c12_10, cS_c12_11, cS_c12_12, pK_n, pK_v, pK_x hx, pAdd_0, Nat.reduceAdd, true_and, q_first, ckJ]
  rw [w57_0, w57_1]
  simp only [w57_4, w57_5, w57_6, w57_9, w57_10, cS_i0, cS_g0_0, cS_g0_1, cS_g0_2, cS_g0_3, cS_i1, cS_g1_0, cS_g1_1, cS_g1_2, cS_p1_2, cS_g1_3, cS_p1_3, cS_g1_4, cS_p1_4, cS_g1_5, cS_p1_5, cS_g1_6, cS_p1_6, cS_g1_7, cS_p1_7, cS_a2, cS_u2, cS_l2, cS_c2_2, cS_c2_3, cS_c2_5, cS_c2_7, cS_c2_8, cS_c2_10, cS_c2_11, cS_c2_12, cS_a3, cS_u3, cS_l3, cS_c3_2, cS_c3_3, cS_c3_5, cS_c3_7, cS_c3_8, cS_c3_10, cS_c3_11, cS_c3_12, cS_i4, cS_g4_0, cS_g4_1, cS_p4_1, cS_g4_2, cS_p4_2, cS_g4_3, cS_p4_3, cS_g4_4, cS_p4_4, cS_a5, cS_u5, cS_l5, cS_c5_2, cS_c5_3, cS_c5_5, cS_c5_7, cS_c5_8, cS_c5_10, cS_c5_11, cS_c5_12, cS_i6, cS_g6_0, cS_g6_1, cS_g6_2, cS_g6_3, cS_g6_4, cS_p6_4, cS_g6_5, cS_p6_5, cS_g6_6, cS_p6_6, cS_g6_7, cS_p6_7, cS_g6_8, cS_p6_8, cS_g6_9, cS_p6_9, cS_a7, cS_u7, cS_l7, cS_c7_2, cS_c7_3, cS_c7_5, cS_c7_7, cS_c7_8, cS_c7_10, cS_c7_11, cS_c7_12, cS_a8, cS_u8, cS_l8, cS_c8_2, cS_c8_3, cS_c8_5, cS_c8_7, cS_c8_8, cS_c8_10, cS_c8_11, cS_c8_12, cS_i9, cS_g9_0, cS_g9_1, cS_g9_2, cS_a10, cS_u10, cS_l10, cS_c10_2, cS_c10_3, cS_c10_5, cS_c10_7, cS_c10_8, cS_c10_10, cS_c10_11, cS_c10_12, cS_a11, cS_u11, cS_l11, cS_c11_2, cS_c11_3, cS_c11_5, cS_c11_7, cS_c11_8, cS_c11_10, cS_c11_11, cS_c11_12, cS_a12, cS_u12, cS_l12, cS_c12_2, cS_c12_3, cS_c12_5, cS_c12_7, cS_c12_8, cS_c12_10, cS_c12_11, cS_c12_12, lg_cmp_eq, tail, hl, ckF]
  by_cases h : d6.2.2.1 = 0
  · simp only [h, if_true]
  · simp only [h, if_false, thenF]
    by_cases h2 : (putsF d6.2.2.1 d6.1 48 0 d1).1 = true
    · simp only [h2, if_true, w57_50, w57_51, w57_54, cS_i0, cS_g0_0, cS_g0_1, cS_g0_2, cS_g0_3, cS_i1, cS_g1_0, cS_g1_1, cS_g1_2, cS_p1_2, cS_g1_3, cS_p1_3, cS_g1_4, cS_p1_4, cS_g1_5, cS_p1_5, cS_g1_6, cS_p1_6, cS_g1_7, cS_p1_7, cS_a2, cS_u2, cS_l2, cS_c2_2, cS_c2_3, cS_c2_5, cS_c2_7, cS_c2_8, cS_c2_10, cS_c2_11, cS_c2_12, cS_a3, cS_u3, cS_l3, cS_c3_2, cS_c3_3, cS_c3_5, cS_c3_7, cS_c3_8, cS_c3_10, cS_c3_11, cS_c3_12, cS_i4, cS_g4_0, cS_g4_1, cS_p4_1, cS_g4_2, cS_p4_2, cS_g4_3, cS_p4_3, cS_g4_4, cS_p4_4, cS_a5, cS_u5, cS_l5, cS_c5_2, cS_c5_3, cS_c5_5, cS_c5_7, cS_c5_8, cS_c5_10, cS_c5_11, cS_c5_12, cS_i6, cS_g6_0, cS_g6_1, cS_g6_2, cS_g6_3, cS_g6_4, cS_p6_4, cS_g6_5, cS_p6_5, cS_g6_6, cS_p6_6, cS_g6_7, cS_p6_7, cS_g6_8, cS_p6_8, cS_g6_9, cS_p6_9, cS_a7, cS_u7, cS_l7, cS_c7_2, cS_c7_3, cS_c7_5, cS_c7_7, cS_c7_8, cS_c7_10, cS_c7_11, cS_c7_12, cS_a8, cS_u8, cS_l8, cS_c8_2, cS_c8_3, cS_c8_5, cS_c8_7, cS_c8_8, cS_c8_10, cS_c8_11, cS_c8_12, cS_i9, cS_g9_0, cS_g9_1, cS_g9_2, cS_a10, cS_u10, cS_l10, cS_c10_2, cS_c10_3, cS_c10_5, cS_c10_7, cS_c10_8, cS_c10_10, cS_c10_11, cS_c10_12, cS_a11, cS_u11, cS_l11, cS_c11_2, cS_c11_3, cS_c11_5, cS_c11_7, cS_c11_8, cS_c11_10, cS_c11_11, cS_c11_12, cS_a12, cS_u12, cS_l12, cS_c12_2, cS_c12_3, cS_c12_5, cS_c12_7, cS_c12_8, cS_c12_10, cS_c12_11, cS_c12_12, pK_n, pK_x hx, pAdd_0, Nat.reduceAdd, true_and, q_flF, tail]
    · simp only [h2, if_false, Bool.false_eq_true]
/-- the loose blocks are written -/
def looseF (m : cS4) (d : cS1) : Bool × cS1 := if m.2.2.1 = 0 then (true, d) else thenF (putsF m.2.2.1 m.1 30 18 d) flF
theorem q_loose : pW X 60 0 [.ref 6, pDum] [] (cSW d1 d4 d6 d9 R) nx ok Q ↔ (if (looseF d4 d1).1 = true then Q (.inl none, cSW (looseF d4 d1).2 d4 d6 d9 R, nx, ok, 0, 0) else Q (.inr 4, cSW (looseF d4 d1).2 d4 d6 d9 R, nx, false, 1, 6)) := by
  have hx : pHx 60 = [] := by decide +kernel
  have hl := fun d1 => q_loose_l (X := X) (nx := nx) (ok := ok) (Q := Q) (d4 := d4) (d6 := d6) (d9 := d9) (R := R) 30 18 d1 rfl
  have e18 : nI 18 = 18 := rfl
  rw [e18] at hl
  simp only [w60_0, w60_1, w60_4, w60_7, w60_8, w60_9, w60_12, w60_13, w60_15, cS_i0, cS_g0_0, cS_g0_1, cS_g0_2, cS_g0_3, cS_i1, cS_g1_0, cS_g1_1, cS_g1_2, cS_p1_2, cS_g1_3, cS_p1_3, cS_g1_4, cS_p1_4, cS_g1_5, cS_p1_5, cS_g1_6, cS_p1_6, cS_g1_7, cS_p1_7, cS_a2, cS_u2, cS_l2, cS_c2_2, cS_c2_3, cS_c2_5, cS_c2_7, cS_c2_8, cS_c2_10, cS_c2_11, cS_c2_12, cS_a3, cS_u3, cS_l3, cS_c3_2, cS_c3_3, cS_c3_5, cS_c3_7, cS_c3_8, cS_c3_10, cS_c3_11, cS_c3_12, cS_i4, cS_g4_0, cS_g4_1, cS_p4_1, cS_g4_2, cS_p4_2, cS_g4_3, cS_p4_3, cS_g4_4, cS_p4_4, cS_a5, cS_u5, cS_l5, cS_c5_2, cS_c5_3, cS_c5_5, cS_c5_7, cS_c5_8, cS_c5_10, cS_c5_11, cS_c5_12, cS_i6, cS_g6_0, cS_g6_1, cS_g6_2, cS_g6_3, cS_g6_4, cS_p6_4, cS_g6_5, cS_p6_5, cS_g6_6, cS_p6_6, cS_g6_7, cS_p6_7, cS_g6_8, cS_p6_8, cS_g6_9, cS_p6_9, cS_a7, cS_u7, cS_l7, cS_c7_2, cS_c7_3, cS_c7_5, cS_c7_7, cS_c7_8, cS_c7_10, cS_c7_11, cS_c7_12, cS_a8, cS_u8, cS_l8, cS_c8_2, cS_c8_3, cS_c8_5, cS_c8_7, cS_c8_8, cS_c8_10, cS_c8_11, cS_c8_12, cS_i9, cS_g9_0, cS_g9_1, cS_g9_2, cS_a10, cS_u10, cS_l10, cS_c10_2, cS_c10_3, cS_c10_5, cS_c10_7, cS_c10_8, cS_c10_10, cS_c10_11, cS_c10_12, cS_a11, cS_u11, cS_l11, cS_c11_2, cS_c11_3, cS_c11_5, cS_c11_7, cS_c11_8, cS_c11_10, cS_c11_11, cS_c11_12, cS_a12, cS_u12, cS_l12, cS_c12_2, cS_c12_3, cS_c12_5, cS_c12_7, cS_c12_8, cS_c12_10, cS_c12_11, cS_c12_12, lg_cmp_eq, hl, looseF]
  by_cases h : d4.2.2.1 = 0
  · simp only [h, if_true]
  · simp only [h, if_false, thenF]
    by_cases h2 : (putsF d4.2.2.1 d4.1 30 18 d1).1 = true
    · simp only [h2, if_true, w60_61, w60_62, w60_65, w60_68, cS_i0, cS_g0_0, cS_g0_1, cS_g0_2, cS_g0_3, cS_i1, cS_g1_0, cS_g1_1, cS_g1_2, cS_p1_2, cS_g1_3, cS_p1_3, cS_g1_4, cS_p1_4, cS_g1_5, cS_p1_5, cS_g1_6, cS_p1_6, cS_g1_7, cS_p1_7, cS_a2, cS_u2, cS_l2, cS_c2_2, cS_c2_3, cS_c2_5, cS_c2_7, cS_c2_8, cS_c2_10, cS_c2_11, cS_c2_12, cS_a3, cS_u3, cS_l3, cS_c3_2, cS_c3_3, cS_c3_5, cS_c3_7, cS_c3_8, cS_c3_10, cS_c3_11, cS_c3_12, cS_i4, cS_g4_0, cS_g4_1, cS_p4_1, cS_g4_2, cS_p4_2, cS_g4_3, cS_p4_3, cS_g4_4, cS_p4_4, cS_a5, cS_u5, cS_l5, cS_c5_2, cS_c5_3, cS_c5_5, cS_c5_7, cS_c5_8, cS_c5_10, cS_c5_11, cS_c5_12, cS_i6, cS_g6_0, cS_g6_1, cS_g6_2, cS_g6_3, cS_g6_4, cS_p6_4, cS_g6_5, cS_p6_5, cS_g6_6, cS_p6_6, cS_g6_7, cS_p6_7, cS_g6_8, cS_p6_8, cS_g6_9, cS_p6_9, cS_a7, cS_u7, cS_l7, cS_c7_2, cS_c7_3, cS_c7_5, cS_c7_7, cS_c7_8, cS_c7_10, cS_c7_11, cS_c7_12, cS_a8, cS_u8, cS_l8, cS_c8_2, cS_c8_3, cS_c8_5, cS_c8_7, cS_c8_8, cS_c8_10, cS_c8_11, cS_c8_12, cS_i9, cS_g9_0, cS_g9_1, cS_g9_2, cS_a10, cS_u10, cS_l10, cS_c10_2, cS_c10_3, cS_c10_5, cS_c10_7, cS_c10_8, cS_c10_10, cS_c10_11, cS_c10_12, cS_a11, cS_u11, cS_l11, cS_c11_2, cS_c11_3, cS_c11_5, cS_c11_7, cS_c11_8, cS_c11_10, cS_c11_11, cS_c11_12, cS_a12, cS_u12, cS_l12, cS_c12_2, cS_c12_3, cS_c12_5, cS_c12_7, cS_c12_8, cS_c12_10, cS_c12_11, cS_c12_12, pK_n, pK_x hx, pAdd_0, Nat.reduceAdd, true_and, q_flF]
    · simp only [h2, if_false, Bool.false_eq_true]
/-! places and sums -/
theorem q_placeAt {n : Nat} (hn : n < 1000) : pW X 179 0 [.int (nI n)] [] M nx ok Q ↔ Q (.inl (some (.int (nI (8 * (10 + n % 8))))), M, nx, ok, 0, 0) := by
  have h8 : ¬ (8 : Int32) = 0 := by decide
  have e1 : nI n - nI n / 8 * 8 = nI (n % 8) := pk_rem (d := 8) (by omega) (by decide) (by decide)
  have e2 : (10 : Int32) + nI (n % 8) = nI (10 + n % 8) := nI_add 10 (n % 8)
  have e3 : nI (10 + n % 8) * 8 = nI (8 * (10 + n % 8)) := by rw [Nat.mul_comm]; exact pk_mul _ 8
  simp only [w179_0, w179_2, w179_3, w179_5, w179_6, w179_7, w179_9, w179_10, h8, not_false_eq_true, true_and, e1, e2, e3]
/-- a block's sum -/
def smF (f : Nat → Int32) (a : Nat) : Nat → Int32 → Int32
  | 0, s => s
  | m + 1, s => 31 * smF f a m s + f (a + m)
theorem q_sum5_l {a : Nat} {s z : Int32} (ha : a + 8 ≤ 384) : ∀ m n, n + m = 8 → (pW X 66 5 [.int z, .ref 5, .int (nI a), .int (smF d4.1 a n s), .int (nI n)] [] (cSW d1 d4 d6 d9 R) nx ok Q ↔ Q (.inl (some (.int (smF d4.1 a 8 s))), cSW d1 d4 d6 d9 R, nx, ok, 0, 0)) := by
  intro m
  induction m with
  | zero =>
    intro n hn
    have e : n = 8 := by omega
    subst e
    have h8 : ¬ nI 8 < 8 := nI_nlt (b := 8) (by omega) (by decide)
    rw [w66_5]
    simp only [w66_0, w66_1, w66_2, w66_3, w66_7, w66_9, w66_12, w66_14, w66_15, w66_16, w66_17, w66_18, w66_20, w66_21, w66_22, w66_23, w66_24, w66_27, w66_30, w66_31, h8, if_false]
  | succ m ih =>
    intro n hn
    have h8 : nI n < 8 := nI_lt (b := 8) (by omega) (by decide)
    have e1 : nI a + nI n = nI (a + n) := nI_add a n
    have hc : (nI (a + n)).toNatClampNeg = a + n := nI_clamp (by omega)
    have hi : pIn (nI (a + n)) 384 = true := decide_eq_true (nI_in (by omega) (by decide))
    rw [← ih (n + 1) (by omega), w66_5]
    simp only [w66_0, w66_1, w66_2, w66_3, w66_7, w66_9, w66_12, w66_14, w66_15, w66_16, w66_17, w66_18, w66_20, w66_21, w66_22, w66_23, w66_24, w66_27, w66_30, w66_31, cS_i0, cS_g0_0, cS_g0_1, cS_g0_2, cS_g0_3, cS_i1, cS_g1_0, cS_g1_1, cS_g1_2, cS_p1_2, cS_g1_3, cS_p1_3, cS_g1_4, cS_p1_4, cS_g1_5, cS_p1_5, cS_g1_6, cS_p1_6, cS_g1_7, cS_p1_7, cS_a2, cS_u2, cS_l2, cS_c2_2, cS_c2_3, cS_c2_5, cS_c2_7, cS_c2_8, cS_c2_10, cS_c2_11, cS_c2_12, cS_a3, cS_u3, cS_l3, cS_c3_2, cS_c3_3, cS_c3_5, cS_c3_7, cS_c3_8, cS_c3_10, cS_c3_11, cS_c3_12, cS_i4, cS_g4_0, cS_g4_1, cS_p4_1, cS_g4_2, cS_p4_2, cS_g4_3, cS_p4_3, cS_g4_4, cS_p4_4, cS_a5, cS_u5, cS_l5, cS_c5_2, cS_c5_3, cS_c5_5, cS_c5_7, cS_c5_8, cS_c5_10, cS_c5_11, cS_c5_12, cS_i6, cS_g6_0, cS_g6_1, cS_g6_2, cS_g6_3, cS_g6_4, cS_p6_4, cS_g6_5, cS_p6_5, cS_g6_6, cS_p6_6, cS_g6_7, cS_p6_7, cS_g6_8, cS_p6_8, cS_g6_9, cS_p6_9, cS_a7, cS_u7, cS_l7, cS_c7_2, cS_c7_3, cS_c7_5, cS_c7_7, cS_c7_8, cS_c7_10, cS_c7_11, cS_c7_12, cS_a8, cS_u8, cS_l8, cS_c8_2, cS_c8_3, cS_c8_5, cS_c8_7, cS_c8_8, cS_c8_10, cS_c8_11, cS_c8_12, cS_i9, cS_g9_0, cS_g9_1, cS_g9_2, cS_a10, cS_u10, cS_l10, cS_c10_2, cS_c10_3, cS_c10_5, cS_c10_7, cS_c10_8, cS_c10_10, cS_c10_11, cS_c10_12, cS_a11, cS_u11, cS_l11, cS_c11_2, cS_c11_3, cS_c11_5, cS_c11_7, cS_c11_8, cS_c11_10, cS_c11_11, cS_c11_12, cS_a12, cS_u12, cS_l12, cS_c12_2, cS_c12_3, cS_c12_5, cS_c12_7, cS_c12_8, cS_c12_10, cS_c12_11, cS_c12_12, h8, if_true, e1, hc, hi, true_and, nI_1, smF]
theorem q_sum5 {a : Nat} {s : Int32} (ha : a + 8 ≤ 384) : pW X 66 0 [.int s, .ref 5, .int (nI a), pDum, pDum] [] (cSW d1 d4 d6 d9 R) nx ok Q ↔ Q (.inl (some (.int (smF d4.1 a 8 s))), cSW d1 d4 d6 d9 R, nx, ok, 0, 0) := by
  have h0 := q_sum5_l (X := X) (nx := nx) (ok := ok) (Q := Q) (d1 := d1) (d4 := d4) (d6 := d6) (d9 := d9) (R := R) (s := s) (z := s) ha 8 0 rfl
  rw [nI_0] at h0
  simp only [w66_0, w66_1, w66_2, w66_3, w66_7, w66_9, w66_12, w66_14, w66_15, w66_16, w66_17, w66_18, w66_20, w66_21, w66_22, w66_23, w66_24, w66_27, w66_30, w66_31]
  exact h0
theorem q_sum2_l {a : Nat} {s z : Int32} (ha : a + 8 ≤ 384) : ∀ m n, n + m = 8 → (pW X 66 5 [.int z, .ref 2, .int (nI a), .int (smF d1.1 a n s), .int (nI n)] [] (cSW d1 d4 d6 d9 R) nx ok Q ↔ Q (.inl (some (.int (smF d1.1 a 8 s))), cSW d1 d4 d6 d9 R, nx, ok, 0, 0)) := by
  intro m
  induction m with
  | zero =>
    intro n hn
    have e : n = 8 := by omega
    subst e
    have h8 : ¬ nI 8 < 8 := nI_nlt (b := 8) (by omega) (by decide)
    rw [w66_5]
    simp only [w66_0, w66_1, w66_2, w66_3, w66_7, w66_9, w66_12, w66_14, w66_15, w66_16, w66_17, w66_18, w66_20, w66_21, w66_22, w66_23, w66_24, w66_27, w66_30, w66_31, h8, if_false]
  | succ m ih =>
    intro n hn
    have h8 : nI n < 8 := nI_lt (b := 8) (by omega) (by decide)
    have e1 : nI a + nI n = nI (a + n) := nI_add a n
    have hc : (nI (a + n)).toNatClampNeg = a + n := nI_clamp (by omega)
    have hi : pIn (nI (a + n)) 384 = true := decide_eq_true (nI_in (by omega) (by decide))
    rw [← ih (n + 1) (by omega), w66_5]
    simp only [w66_0, w66_1, w66_2, w66_3, w66_7, w66_9, w66_12, w66_14, w66_15, w66_16, w66_17, w66_18, w66_20, w66_21, w66_22, w66_23, w66_24, w66_27, w66_30, w66_31, cS_i0, cS_g0_0, cS_g0_1, cS_g0_2, cS_g0_3, cS_i1, cS_g1_0, cS_g1_1, cS_g1_2, cS_p1_2, cS_g1_3, cS_p1_3, cS_g1_4, cS_p1_4, cS_g1_5, cS_p1_5, cS_g1_6, cS_p1_6, cS_g1_7, cS_p1_7, cS_a2, cS_u2, cS_l2, cS_c2_2, cS_c2_3, cS_c2_5, cS_c2_7, cS_c2_8, cS_c2_10, cS_c2_11, cS_c2_12, cS_a3, cS_u3, cS_l3, cS_c3_2, cS_c3_3, cS_c3_5, cS_c3_7, cS_c3_8, cS_c3_10, cS_c3_11, cS_c3_12, cS_i4, cS_g4_0, cS_g4_1, cS_p4_1, cS_g4_2, cS_p4_2, cS_g4_3, cS_p4_3, cS_g4_4, cS_p4_4, cS_a5, cS_u5, cS_l5, cS_c5_2, cS_c5_3, cS_c5_5, cS_c5_7, cS_c5_8, cS_c5_10, cS_c5_11, cS_c5_12, cS_i6, cS_g6_0, cS_g6_1, cS_g6_2, cS_g6_3, cS_g6_4, cS_p6_4, cS_g6_5, cS_p6_5, cS_g6_6, cS_p6_6, cS_g6_7, cS_p6_7, cS_g6_8, cS_p6_8, cS_g6_9, cS_p6_9, cS_a7, cS_u7, cS_l7, cS_c7_2, cS_c7_3, cS_c7_5, cS_c7_7, cS_c7_8, cS_c7_10, cS_c7_11, cS_c7_12, cS_a8, cS_u8, cS_l8, cS_c8_2, cS_c8_3, cS_c8_5, cS_c8_7, cS_c8_8, cS_c8_10, cS_c8_11, cS_c8_12, cS_i9, cS_g9_0, cS_g9_1, cS_g9_2, cS_a10, cS_u10, cS_l10, cS_c10_2, cS_c10_3, cS_c10_5, cS_c10_7, cS_c10_8, cS_c10_10, cS_c10_11, cS_c10_12, cS_a11, cS_u11, cS_l11, cS_c11_2, cS_c11_3, cS_c11_5, cS_c11_7, cS_c11_8, cS_c11_10, cS_c11_11, cS_c11_12, cS_a12, cS_u12, cS_l12, cS_c12_2, cS_c12_3, cS_c12_5, cS_c12_7, cS_c12_8, cS_c12_10, cS_c12_11, cS_c12_12, h8, if_true, e1, hc, hi, true_and, nI_1, smF]
theorem q_sum2 {a : Nat} {s : Int32} (ha : a + 8 ≤ 384) : pW X 66 0 [.int s, .ref 2, .int (nI a), pDum, pDum] [] (cSW d1 d4 d6 d9 R) nx ok Q ↔ Q (.inl (some (.int (smF d1.1 a 8 s))), cSW d1 d4 d6 d9 R, nx, ok, 0, 0) := by
  have h0 := q_sum2_l (X := X) (nx := nx) (ok := ok) (Q := Q) (d1 := d1) (d4 := d4) (d6 := d6) (d9 := d9) (R := R) (s := s) (z := s) ha 8 0 rfl
  rw [nI_0] at h0
  simp only [w66_0, w66_1, w66_2, w66_3, w66_7, w66_9, w66_12, w66_14, w66_15, w66_16, w66_17, w66_18, w66_20, w66_21, w66_22, w66_23, w66_24, w66_27, w66_30, w66_31]
  exact h0
end RUN
