/-! THE DEVICE -/
section RUN
variable {X : pScr} {nx : Nat} {ok : Bool} {Q : pRes → Prop} {d1 : cS1} {d4 : cS4} {d6 : cS6} {d9 : cS9} {R : pMem} {M : pMem}
theorem lbI_0 {u : Int64} {n : Nat} : (lbI u n = 0) ↔ lb u n = false := by
  unfold lbI
  by_cases h : lb u n = true <;> simp [h]
theorem pCr_nI {a b n N0 N1 : Nat} {c : Int32} (hc : c = nI n) (h0 : a + n ≤ N0) (h1 : b + n ≤ N1) (hN : N0 < 2 ^ 31) (hM : N1 < 2 ^ 31) : pCr (nI a) (nI b) c N0 N1 := by
  subst hc
  unfold pCr
  rw [nI_clamp (by omega), nI_clamp (by omega), nI_clamp (by omega)]
  exact ⟨nI_pos (by omega), nI_pos (by omega), nI_pos (by omega), h0, h1⟩
/-- power goes -/
def dDie (d : cS1) : cS1 := (va_cpy d.2.1 d.1 0 0 384, d.2.1, 0, d.2.2.2.1, d.2.2.2.2.1, -1, d.2.2.2.2.2.2.1, 0)
/-- an action is spent -/
def dSp (d : cS1) : cS1 := if 0 < d.2.2.2.2.2.1 then (d.1, d.2.1, d.2.2.1, d.2.2.2.1, d.2.2.2.2.1, d.2.2.2.2.2.1 - 1, d.2.2.2.2.2.2) else d
theorem c384 : pCr 0 0 384 384 384 := pCr_nI (a := 0) (b := 0) (n := 384) rfl (by decide) (by decide) (by decide) (by decide)
theorem q_spend : pW X 53 0 [.ref 1] [] (cSW d1 d4 d6 d9 R) nx ok Q ↔ (if d1.2.2.2.2.2.1 = 0 then Q (.inr 4, cSW (dDie d1) d4 d6 d9 R, nx, false, 1, 6) else Q (.inl none, cSW (dSp d1) d4 d6 d9 R, nx, ok, 0, 0)) := by
  simp only [w53_0, w53_1, w53_4, w53_7, w53_8, w53_11, w53_12, w53_13, w53_16, w53_17, w53_20, w53_23, w53_24, w53_25, w53_28, w53_29, w53_30, w53_33, w53_34, w53_35, w53_38, w53_48, w53_49, w53_52, w53_55, w53_56, w53_57, w53_60, w53_61, w53_62, w53_65, cS_i0, cS_g0_0, cS_g0_1, cS_g0_2, cS_g0_3, cS_i1, cS_g1_0, cS_g1_1, cS_g1_2, cS_p1_2, cS_g1_3, cS_p1_3, cS_g1_4, cS_p1_4, cS_g1_5, cS_p1_5, cS_g1_6, cS_p1_6, cS_g1_7, cS_p1_7, cS_a2, cS_u2, cS_l2, cS_c2_2, cS_c2_3, cS_c2_5, cS_c2_7, cS_c2_8, cS_c2_10, cS_c2_11, cS_c2_12, cS_a3, cS_u3, cS_l3, cS_c3_2, cS_c3_3, cS_c3_5, cS_c3_7, cS_c3_8, cS_c3_10, cS_c3_11, cS_c3_12, cS_i4, cS_g4_0, cS_g4_1, cS_p4_1, cS_g4_2, cS_p4_2, cS_g4_3, cS_p4_3, cS_g4_4, cS_p4_4, cS_a5, cS_u5, cS_l5, cS_c5_2, cS_c5_3, cS_c5_5, cS_c5_7, cS_c5_8, cS_c5_10, cS_c5_11, cS_c5_12, cS_i6, cS_g6_0, cS_g6_1, cS_g6_2, cS_g6_3, cS_g6_4, cS_p6_4, cS_g6_5, cS_p6_5, cS_g6_6, cS_p6_6, cS_g6_7, cS_p6_7, cS_g6_8, cS_p6_8, cS_g6_9, cS_p6_9, cS_a7, cS_u7, cS_l7, cS_c7_2, cS_c7_3, cS_c7_5, cS_c7_7, cS_c7_8, cS_c7_10, cS_c7_11, cS_c7_12, cS_a8, cS_u8, cS_l8, cS_c8_2, cS_c8_3, cS_c8_5, cS_c8_7, cS_c8_8, cS_c8_10, cS_c8_11, cS_c8_12, cS_i9, cS_g9_0, cS_g9_1, cS_g9_2, cS_a10, cS_u10, cS_l10, cS_c10_2, cS_c10_3, cS_c10_5, cS_c10_7, cS_c10_8, cS_c10_10, cS_c10_11, cS_c10_12, cS_a11, cS_u11, cS_l11, cS_c11_2, cS_c11_3, cS_c11_5, cS_c11_7, cS_c11_8, cS_c11_10, cS_c11_11, cS_c11_12, cS_a12, cS_u12, cS_l12, cS_c12_2, cS_c12_3, cS_c12_5, cS_c12_7, cS_c12_8, cS_c12_10, cS_c12_11, cS_c12_12, pK_n, pAdd_0, Nat.reduceAdd, true_and, c384, true_or, dDie, dSp]
  by_cases h : 0 < d1.2.2.2.2.2.1
  · simp only [h, if_true]
    exact Iff.rfl
  · simp only [h, if_false]
    exact Iff.rfl
/-- the mask lets the write be lost -/
def dLost (d : cS1) : Bool := decide (((d.2.2.2.2.2.2.1.toUInt32 >>> ((d.2.2.1 - d.2.2.1 / 31 * 31).toUInt32 &&& Int32.toUInt32 31)).toInt32 &&& 1) = 0)
/-- block b is written, with the ints of f from at_ on -/
def dPut (d : cS1) (b at_ : Nat) (f : Nat → Int32) : cS1 := (va_cpy f d.1 at_ (8 * b) 8, (if dLost d = true then d.2.1 else va_cpy f d.2.1 at_ (8 * b) 8), d.2.2.1 + 1, d.2.2.2.1 + 1, d.2.2.2.2)
theorem dSp_now (d : cS1) : (dSp d).1 = d.1 ∧ (dSp d).2.1 = d.2.1 ∧ (dSp d).2.2.1 = d.2.2.1 := by
  unfold dSp
  split <;> exact ⟨rfl, rfl, rfl⟩
theorem q_put5 {b at_ : Nat} (hb : b < 48) (ha : at_ + 8 ≤ 384) : pW X 50 0 [.ref 1, .int (nI b), .ref 5, .int (nI at_)] [] (cSW d1 d4 d6 d9 R) nx ok Q ↔ (if d1.2.2.2.2.2.1 = 0 then Q (.inr 4, cSW (dDie d1) d4 d6 d9 R, nx, false, 1, 6) else Q (.inl none, cSW (dPut (dSp d1) b at_ d4.1) d4 d6 d9 R, nx, ok, 0, 0)) := by
  have hx : pHx 50 = [] := by decide +kernel
  have e8 : nI b * 8 = nI (8 * b) := by rw [Nat.mul_comm]; exact pk_mul b 8
  have hc : (nI (8 * b)).toNatClampNeg = 8 * b := nI_clamp (by omega)
  have hc2 : (nI at_).toNatClampNeg = at_ := nI_clamp (by omega)
  have hr : pCr (nI at_) (nI (8 * b)) 8 384 384 := pCr_nI (n := 8) rfl (by omega) (by omega) (by decide) (by decide)
  have c8 : Int32.toNatClampNeg 8 = 8 := rfl
  have h31 : ¬ (31 : Int32) = 0 := by decide
  simp only [w50_0, w50_1, w50_4, w50_5, w50_6, w50_7, w50_10, w50_11, w50_13, w50_14, w50_16, w50_19, w50_20, w50_23, w50_24, w50_27, w50_29, w50_30, w50_31, w50_32, w50_33, w50_36, w50_37, w50_38, w50_39, w50_42, w50_43, w50_45, w50_46, w50_48, w50_51, w50_52, w50_53, w50_56, w50_57, w50_58, w50_61, w50_62, w50_63, w50_66, w50_67, w50_68, w50_71, cS_i0, cS_g0_0, cS_g0_1, cS_g0_2, cS_g0_3, cS_i1, cS_g1_0, cS_g1_1, cS_g1_2, cS_p1_2, cS_g1_3, cS_p1_3, cS_g1_4, cS_p1_4, cS_g1_5, cS_p1_5, cS_g1_6, cS_p1_6, cS_g1_7, cS_p1_7, cS_a2, cS_u2, cS_l2, cS_c2_2, cS_c2_3, cS_c2_5, cS_c2_7, cS_c2_8, cS_c2_10, cS_c2_11, cS_c2_12, cS_a3, cS_u3, cS_l3, cS_c3_2, cS_c3_3, cS_c3_5, cS_c3_7, cS_c3_8, cS_c3_10, cS_c3_11, cS_c3_12, cS_i4, cS_g4_0, cS_g4_1, cS_p4_1, cS_g4_2, cS_p4_2, cS_g4_3, cS_p4_3, cS_g4_4, cS_p4_4, cS_a5, cS_u5, cS_l5, cS_c5_2, cS_c5_3, cS_c5_5, cS_c5_7, cS_c5_8, cS_c5_10, cS_c5_11, cS_c5_12, cS_i6, cS_g6_0, cS_g6_1, cS_g6_2, cS_g6_3, cS_g6_4, cS_p6_4, cS_g6_5, cS_p6_5, cS_g6_6, cS_p6_6, cS_g6_7, cS_p6_7, cS_g6_8, cS_p6_8, cS_g6_9, cS_p6_9, cS_a7, cS_u7, cS_l7, cS_c7_2, cS_c7_3, cS_c7_5, cS_c7_7, cS_c7_8, cS_c7_10, cS_c7_11, cS_c7_12, cS_a8, cS_u8, cS_l8, cS_c8_2, cS_c8_3, cS_c8_5, cS_c8_7, cS_c8_8, cS_c8_10, cS_c8_11, cS_c8_12, cS_i9, cS_g9_0, cS_g9_1, cS_g9_2, cS_a10, cS_u10, cS_l10, cS_c10_2, cS_c10_3, cS_c10_5, cS_c10_7, cS_c10_8, cS_c10_10, cS_c10_11, cS_c10_12, cS_a11, cS_u11, cS_l11, cS_c11_2, cS_c11_3, cS_c11_5, cS_c11_7, cS_c11_8, cS_c11_10, cS_c11_11, cS_c11_12, cS_a12, cS_u12, cS_l12, cS_c12_2, cS_c12_3, cS_c12_5, cS_c12_7, cS_c12_8, cS_c12_10, cS_c12_11, cS_c12_12, q_spend, pK_n, pK_x hx, pAdd_0, Nat.reduceAdd, true_and, e8, hr, hc, hc2, c8, h31, not_false_eq_true]
  by_cases h : d1.2.2.2.2.2.1 = 0
  · simp only [h, if_true]
  · simp only [h, if_false, dPut]
    by_cases hl : dLost (dSp d1) = true
    · have hl2 := hl
      unfold dLost at hl2
      rw [decide_eq_true_eq] at hl2
      simp only [hl, hl2, if_true]
    · have hl2 := hl
      unfold dLost at hl2
      rw [decide_eq_true_eq] at hl2
      simp only [hl, hl2, if_false, Bool.false_eq_true]
theorem q_put7 {b at_ : Nat} (hb : b < 48) (ha : at_ + 8 ≤ 384) : pW X 50 0 [.ref 1, .int (nI b), .ref 7, .int (nI at_)] [] (cSW d1 d4 d6 d9 R) nx ok Q ↔ (if d1.2.2.2.2.2.1 = 0 then Q (.inr 4, cSW (dDie d1) d4 d6 d9 R, nx, false, 1, 6) else Q (.inl none, cSW (dPut (dSp d1) b at_ d6.1) d4 d6 d9 R, nx, ok, 0, 0)) := by
  have hx : pHx 50 = [] := by decide +kernel
  have e8 : nI b * 8 = nI (8 * b) := by rw [Nat.mul_comm]; exact pk_mul b 8
  have hc : (nI (8 * b)).toNatClampNeg = 8 * b := nI_clamp (by omega)
  have hc2 : (nI at_).toNatClampNeg = at_ := nI_clamp (by omega)
  have hr : pCr (nI at_) (nI (8 * b)) 8 384 384 := pCr_nI (n := 8) rfl (by omega) (by omega) (by decide) (by decide)
  have c8 : Int32.toNatClampNeg 8 = 8 := rfl
  have h31 : ¬ (31 : Int32) = 0 := by decide
  simp only [w50_0, w50_1, w50_4, w50_5, w50_6, w50_7, w50_10, w50_11, w50_13, w50_14, w50_16, w50_19, w50_20, w50_23, w50_24, w50_27, w50_29, w50_30, w50_31, w50_32, w50_33, w50_36, w50_37, w50_38, w50_39, w50_42, w50_43, w50_45, w50_46, w50_48, w50_51, w50_52, w50_53, w50_56, w50_57, w50_58, w50_61, w50_62, w50_63, w50_66, w50_67, w50_68, w50_71, cS_i0, cS_g0_0, cS_g0_1, cS_g0_2, cS_g0_3, cS_i1, cS_g1_0, cS_g1_1, cS_g1_2, cS_p1_2, cS_g1_3, cS_p1_3, cS_g1_4, cS_p1_4, cS_g1_5, cS_p1_5, cS_g1_6, cS_p1_6, cS_g1_7, cS_p1_7, cS_a2, cS_u2, cS_l2, cS_c2_2, cS_c2_3, cS_c2_5, cS_c2_7, cS_c2_8, cS_c2_10, cS_c2_11, cS_c2_12, cS_a3, cS_u3, cS_l3, cS_c3_2, cS_c3_3, cS_c3_5, cS_c3_7, cS_c3_8, cS_c3_10, cS_c3_11, cS_c3_12, cS_i4, cS_g4_0, cS_g4_1, cS_p4_1, cS_g4_2, cS_p4_2, cS_g4_3, cS_p4_3, cS_g4_4, cS_p4_4, cS_a5, cS_u5, cS_l5, cS_c5_2, cS_c5_3, cS_c5_5, cS_c5_7, cS_c5_8, cS_c5_10, cS_c5_11, cS_c5_12, cS_i6, cS_g6_0, cS_g6_1, cS_g6_2, cS_g6_3, cS_g6_4, cS_p6_4, cS_g6_5, cS_p6_5, cS_g6_6, cS_p6_6, cS_g6_7, cS_p6_7, cS_g6_8, cS_p6_8, cS_g6_9, cS_p6_9, cS_a7, cS_u7, cS_l7, cS_c7_2, cS_c7_3, cS_c7_5, cS_c7_7, cS_c7_8, cS_c7_10, cS_c7_11, cS_c7_12, cS_a8, cS_u8, cS_l8, cS_c8_2, cS_c8_3, cS_c8_5, cS_c8_7, cS_c8_8, cS_c8_10, cS_c8_11, cS_c8_12, cS_i9, cS_g9_0, cS_g9_1, cS_g9_2, cS_a10, cS_u10, cS_l10, cS_c10_2, cS_c10_3, cS_c10_5, cS_c10_7, cS_c10_8, cS_c10_10, cS_c10_11, cS_c10_12, cS_a11, cS_u11, cS_l11, cS_c11_2, cS_c11_3, cS_c11_5, cS_c11_7, cS_c11_8, cS_c11_10, cS_c11_11, cS_c11_12, cS_a12, cS_u12, cS_l12, cS_c12_2, cS_c12_3, cS_c12_5, cS_c12_7, cS_c12_8, cS_c12_10, cS_c12_11, cS_c12_12, q_spend, pK_n, pK_x hx, pAdd_0, Nat.reduceAdd, true_and, e8, hr, hc, hc2, c8, h31, not_false_eq_true]
  by_cases h : d1.2.2.2.2.2.1 = 0
  · simp only [h, if_true]
  · simp only [h, if_false, dPut]
    by_cases hl : dLost (dSp d1) = true
    · have hl2 := hl
      unfold dLost at hl2
      rw [decide_eq_true_eq] at hl2
      simp only [hl, hl2, if_true]
    · have hl2 := hl
      unfold dLost at hl2
      rw [decide_eq_true_eq] at hl2
      simp only [hl, hl2, if_false, Bool.false_eq_true]
theorem q_put8 {b at_ : Nat} (hb : b < 48) (ha : at_ + 8 ≤ 8) : pW X 50 0 [.ref 1, .int (nI b), .ref 8, .int (nI at_)] [] (cSW d1 d4 d6 d9 R) nx ok Q ↔ (if d1.2.2.2.2.2.1 = 0 then Q (.inr 4, cSW (dDie d1) d4 d6 d9 R, nx, false, 1, 6) else Q (.inl none, cSW (dPut (dSp d1) b at_ d6.2.1) d4 d6 d9 R, nx, ok, 0, 0)) := by
  have hx : pHx 50 = [] := by decide +kernel
  have e8 : nI b * 8 = nI (8 * b) := by rw [Nat.mul_comm]; exact pk_mul b 8
  have hc : (nI (8 * b)).toNatClampNeg = 8 * b := nI_clamp (by omega)
  have hc2 : (nI at_).toNatClampNeg = at_ := nI_clamp (by omega)
  have hr : pCr (nI at_) (nI (8 * b)) 8 8 384 := pCr_nI (n := 8) rfl (by omega) (by omega) (by decide) (by decide)
  have c8 : Int32.toNatClampNeg 8 = 8 := rfl
  have h31 : ¬ (31 : Int32) = 0 := by decide
  simp only [w50_0, w50_1, w50_4, w50_5, w50_6, w50_7, w50_10, w50_11, w50_13, w50_14, w50_16, w50_19, w50_20, w50_23, w50_24, w50_27, w50_29, w50_30, w50_31, w50_32, w50_33, w50_36, w50_37, w50_38, w50_39, w50_42, w50_43, w50_45, w50_46, w50_48, w50_51, w50_52, w50_53, w50_56, w50_57, w50_58, w50_61, w50_62, w50_63, w50_66, w50_67, w50_68, w50_71, cS_i0, cS_g0_0, cS_g0_1, cS_g0_2, cS_g0_3, cS_i1, cS_g1_0, cS_g1_1, cS_g1_2, cS_p1_2, cS_g1_3, cS_p1_3, cS_g1_4, cS_p1_4, cS_g1_5, cS_p1_5, cS_g1_6, cS_p1_6, cS_g1_7, cS_p1_7, cS_a2, cS_u2, cS_l2, cS_c2_2, cS_c2_3, cS_c2_5, cS_c2_7, cS_c2_8, cS_c2_10, cS_c2_11, cS_c2_12, cS_a3, cS_u3, cS_l3, cS_c3_2, cS_c3_3, cS_c3_5, cS_c3_7, cS_c3_8, cS_c3_10, cS_c3_11, cS_c3_12, cS_i4, cS_g4_0, cS_g4_1, cS_p4_1, cS_g4_2, cS_p4_2, cS_g4_3, cS_p4_3, cS_g4_4, cS_p4_4, cS_a5, cS_u5, cS_l5, cS_c5_2, cS_c5_3, cS_c5_5, cS_c5_7, cS_c5_8, cS_c5_10, cS_c5_11, cS_c5_12, cS_i6, cS_g6_0, cS_g6_1, cS_g6_2, cS_g6_3, cS_g6_4, cS_p6_4, cS_g6_5, cS_p6_5, cS_g6_6, cS_p6_6, cS_g6_7, cS_p6_7, cS_g6_8, cS_p6_8, cS_g6_9, cS_p6_9, cS_a7, cS_u7, cS_l7, cS_c7_2, cS_c7_3, cS_c7_5, cS_c7_7, cS_c7_8, cS_c7_10, cS_c7_11, cS_c7_12, cS_a8, cS_u8, cS_l8, cS_c8_2, cS_c8_3, cS_c8_5, cS_c8_7, cS_c8_8, cS_c8_10, cS_c8_11, cS_c8_12, cS_i9, cS_g9_0, cS_g9_1, cS_g9_2, cS_a10, cS_u10, cS_l10, cS_c10_2, cS_c10_3, cS_c10_5, cS_c10_7, cS_c10_8, cS_c10_10, cS_c10_11, cS_c10_12, cS_a11, cS_u11, cS_l11, cS_c11_2, cS_c11_3, cS_c11_5, cS_c11_7, cS_c11_8, cS_c11_10, cS_c11_11, cS_c11_12, cS_a12, cS_u12, cS_l12, cS_c12_2, cS_c12_3, cS_c12_5, cS_c12_7, cS_c12_8, cS_c12_10, cS_c12_11, cS_c12_12, q_spend, pK_n, pK_x hx, pAdd_0, Nat.reduceAdd, true_and, e8, hr, hc, hc2, c8, h31, not_false_eq_true]
  by_cases h : d1.2.2.2.2.2.1 = 0
  · simp only [h, if_true]
  · simp only [h, if_false, dPut]
    by_cases hl : dLost (dSp d1) = true
    · have hl2 := hl
      unfold dLost at hl2
      rw [decide_eq_true_eq] at hl2
      simp only [hl, hl2, if_true]
    · have hl2 := hl
      unfold dLost at hl2
      rw [decide_eq_true_eq] at hl2
      simp only [hl, hl2, if_false, Bool.false_eq_true]
/-- all is flushed -/
def dFl (d : cS1) : cS1 := (d.1, va_cpy d.1 d.2.1 0 0 384, 0, d.2.2.2.1, d.2.2.2.2.1 + 1, d.2.2.2.2.2)
theorem q_flush : pW X 51 0 [.ref 1] [] (cSW d1 d4 d6 d9 R) nx ok Q ↔ (if d1.2.2.2.2.2.1 = 0 then Q (.inr 4, cSW (dDie d1) d4 d6 d9 R, nx, false, 1, 6) else Q (.inl none, cSW (dFl (dSp d1)) d4 d6 d9 R, nx, ok, 0, 0)) := by
  have hx : pHx 51 = [] := by decide +kernel
  have t0 : Int32.toNatClampNeg 0 = 0 := rfl
  have t384 : Int32.toNatClampNeg 384 = 384 := rfl
  simp only [w51_0, w51_1, w51_4, w51_5, w51_8, w51_9, w51_10, w51_13, w51_14, w51_17, w51_20, w51_21, w51_22, w51_25, w51_26, w51_27, w51_30, w51_31, w51_32, w51_35, cS_i0, cS_g0_0, cS_g0_1, cS_g0_2, cS_g0_3, cS_i1, cS_g1_0, cS_g1_1, cS_g1_2, cS_p1_2, cS_g1_3, cS_p1_3, cS_g1_4, cS_p1_4, cS_g1_5, cS_p1_5, cS_g1_6, cS_p1_6, cS_g1_7, cS_p1_7, cS_a2, cS_u2, cS_l2, cS_c2_2, cS_c2_3, cS_c2_5, cS_c2_7, cS_c2_8, cS_c2_10, cS_c2_11, cS_c2_12, cS_a3, cS_u3, cS_l3, cS_c3_2, cS_c3_3, cS_c3_5, cS_c3_7, cS_c3_8, cS_c3_10, cS_c3_11, cS_c3_12, cS_i4, cS_g4_0, cS_g4_1, cS_p4_1, cS_g4_2, cS_p4_2, cS_g4_3, cS_p4_3, cS_g4_4, cS_p4_4, cS_a5, cS_u5, cS_l5, cS_c5_2, cS_c5_3, cS_c5_5, cS_c5_7, cS_c5_8, cS_c5_10, cS_c5_11, cS_c5_12, cS_i6, cS_g6_0, cS_g6_1, cS_g6_2, cS_g6_3, cS_g6_4, cS_p6_4, cS_g6_5, cS_p6_5, cS_g6_6, cS_p6_6, cS_g6_7, cS_p6_7, cS_g6_8, cS_p6_8, cS_g6_9, cS_p6_9, cS_a7, cS_u7, cS_l7, cS_c7_2, cS_c7_3, cS_c7_5, cS_c7_7, cS_c7_8, cS_c7_10, cS_c7_11, cS_c7_12, cS_a8, cS_u8, cS_l8, cS_c8_2, cS_c8_3, cS_c8_5, cS_c8_7, cS_c8_8, cS_c8_10, cS_c8_11, cS_c8_12, cS_i9, cS_g9_0, cS_g9_1, cS_g9_2, cS_a10, cS_u10, cS_l10, cS_c10_2, cS_c10_3, cS_c10_5, cS_c10_7, cS_c10_8, cS_c10_10, cS_c10_11, cS_c10_12, cS_a11, cS_u11, cS_l11, cS_c11_2, cS_c11_3, cS_c11_5, cS_c11_7, cS_c11_8, cS_c11_10, cS_c11_11, cS_c11_12, cS_a12, cS_u12, cS_l12, cS_c12_2, cS_c12_3, cS_c12_5, cS_c12_7, cS_c12_8, cS_c12_10, cS_c12_11, cS_c12_12, q_spend, pK_n, pK_x hx, pAdd_0, Nat.reduceAdd, true_and, c384, dFl, t0, t384]
end RUN
