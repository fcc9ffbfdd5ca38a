section RUN
variable {X : pScr} {nx : Nat} {ok : Bool} {Q : pRes → Prop} {d1 : cS1} {d4 : cS4} {d6 : cS6} {d9 : cS9} {R : pMem} {M : pMem}
/-- block b is written from another block of the device itself -/
def dPut2 (d : cS1) (b at_ : Nat) : cS1 := (va_cpy d.1 d.1 at_ (8 * b) 8, (if dLost d = true then d.2.1 else va_cpy (va_cpy d.1 d.1 at_ (8 * b) 8) d.2.1 at_ (8 * b) 8), d.2.2.1 + 1, d.2.2.2.1 + 1, d.2.2.2.2)
theorem q_put2 {b at_ : Nat} (hb : b < 48) (ha : at_ + 8 ≤ 384) : pW X 50 0 [.ref 1, .int (nI b), .ref 2, .int (nI at_)] [] (cSW d1 d4 d6 d9 R) nx ok Q ↔ (if d1.2.2.2.2.2.1 = 0 then Q (.inr 4, cSW (dDie d1) d4 d6 d9 R, nx, false, 1, 6) else Q (.inl none, cSW (dPut2 (dSp d1) b at_) d4 d6 d9 R, nx, ok, 0, 0)) := by
  have hx : pHx 50 = [] := by decide +kernel
  have e8 : nI b * 8 = nI (8 * b) := by rw [Nat.mul_comm]; exact pk_mul b 8
  have hc : (nI (8 * b)).toNatClampNeg = 8 * b := nI_clamp (by omega)
  have hc2 : (nI at_).toNatClampNeg = at_ := nI_clamp (by omega)
  have hr : pCr (nI at_) (nI (8 * b)) 8 384 384 := pCr_nI (n := 8) rfl (by omega) (by omega) (by decide) (by decide)
  have c8 : Int32.toNatClampNeg 8 = 8 := rfl
  have h31 : ¬ (31 : Int32) = 0 := by decide
  simp only [w50_0, w50_1, w50_4, w50_5, w50_6, w50_7, w50_10, w50_11, w50_13, w50_14, w50_16, w50_19, w50_20, w50_23, w50_24, w50_27, w50_29, w50_30, w50_31, w50_32, w50_33, w50_36, w50_37, w50_38, w50_39, w50_42, w50_43, w50_45, w50_46, w50_48, w50_51, w50_52, w50_53, w50_56, w50_57, w50_58, w50_61, w50_62, w50_63, w50_66, w50_67, w50_68, w50_71, cS_i0, cS_g0_0, cS_g0_1, cS_g0_2, cS_g0_3, cS_i1, cS_g1_0, cS_g1_1, cS_g1_2, cS_p1_2, cS_g1_3, cS_p1_3, cS_g1_4, cS_p1_4, cS_g1_5, cS_p1_5, cS_g1_6, cS_p1_6, cS_g1_7, cS_p1_7, cS_a2, cS_u2, cS_l2, cS_c2_2, cS_c2_3, cS_c2_5, cS_c2_7, cS_c2_8, cS_c2_10, cS_c2_11, cS_c2_12, cS_a3, cS_u3, cS_l3, cS_c3_2, cS_c3_3, cS_c3_5, cS_c3_7, cS_c3_8, cS_c3_10, cS_c3_11, cS_c3_12, cS_i4, cS_g4_0, cS_g4_1, cS_p4_1, cS_g4_2, cS_p4_2, cS_g4_3, cS_p4_3, cS_g4_4, cS_p4_4, cS_a5, cS_u5, cS_l5, cS_c5_2, cS_c5_3, cS_c5_5, cS_c5_7, cS_c5_8, cS_c5_10, cS_c5_11, cS_c5_12, cS_i6, cS_g6_0, cS_g6_1, cS_g6_2, cS_g6_3, cS_g6_4, cS_p6_4, cS_g6_5, cS_p6_5, cS_g6_6, cS_p6_6, cS_g6_7, cS_p6_7, cS_g6_8, cS_p6_8, cS_g6_9, cS_p6_9, cS_a7, cS_u7, cS_l7, cS_c7_2, cS_c7_3, cS_c7_5, cS_c7_7, cS_c7_8, cS_c7_10, cS_c7_11, cS_c7_12, cS_a8, cS_u8, cS_l8, cS_c8_2, cS_c8_3, cS_c8_5, cS_c8_7, cS_c8_8, cS_c8_10, cS_c8_11, cS_c8_12, cS_i9, cS_g9_0, cS_g9_1, cS_g9_2, cS_a10, cS_u10, cS_l10, cS_c10_2, cS_c10_3, cS_c10_5, cS_c10_7, cS_c10_8, cS_c10_10, cS_c10_11, cS_c10_12, cS_a11, cS_u11, cS_l11, cS_c11_2, cS_c11_3, cS_c11_5, cS_c11_7, cS_c11_8, cS_c11_10, cS_c11_11, cS_c11_12, cS_a12, cS_u12, cS_l12, cS_c12_2, cS_c12_3, cS_c12_5, cS_c12_7, cS_c12_8, cS_c12_10, cS_c12_11, cS_c12_12, q_spend, pK_n, pK_x hx, pAdd_0, Nat.reduceAdd, true_and, e8, hr, hc, hc2, c8, h31, not_false_eq_true]
  by_cases h : d1.2.2.2.2.2.1 = 0
  · simp only [h, if_true]
  · simp only [h, if_false, dPut2]
    by_cases hl : dLost (dSp d1) = true
    · have hl2 := hl
      unfold dLost at hl2
      rw [decide_eq_true_eq] at hl2
      simp only [hl, hl2, if_true]
    · have hl2 := hl
      unfold dLost at hl2
      rw [decide_eq_true_eq] at hl2
      simp only [hl, hl2, if_false, Bool.false_eq_true]
/-- the library's count of an int's bits, as it computes it -/
def bcI (u : Int32) : Int32 :=
  let a := u - ((u.toUInt32 >>> ((1 : Int32).toUInt32 &&& Int32.toUInt32 31)).toInt32 &&& 1431655765)
  let b := (a &&& 858993459) + ((a.toUInt32 >>> ((2 : Int32).toUInt32 &&& Int32.toUInt32 31)).toInt32 &&& 858993459)
  let c := (b + (b.toUInt32 >>> ((4 : Int32).toUInt32 &&& Int32.toUInt32 31)).toInt32) &&& 252645135
  let d := c + (c.toUInt32 >>> ((8 : Int32).toUInt32 &&& Int32.toUInt32 31)).toInt32
  let e := d + (d.toUInt32 >>> ((16 : Int32).toUInt32 &&& Int32.toUInt32 31)).toInt32
  e &&& 63
theorem q_bcI {u : Int32} : pW X 198 0 [.int u] [] M nx ok Q ↔ Q (.inl (some (.int (bcI u))), M, nx, ok, 0, 0) := by
  simp only [w198_0, w198_1, w198_2, w198_3, w198_4, w198_7, w198_8, w198_9, w198_10, w198_11, w198_14, w198_15, w198_16, w198_17, w198_18, w198_21, w198_22, w198_23, w198_24, w198_25, w198_26, w198_27, w198_28, w198_29, w198_32, w198_33, w198_34, w198_35, w198_36, w198_38, w198_39, w198_40, w198_41, w198_42, w198_43, w198_45, w198_46, w198_47, w198_48, w198_49, w198_51, w198_52]
  exact Iff.rfl
/-! the small ones of the layout -/
theorem q_inodeAt {i : Nat} : pW X 168 0 [.int (nI i)] [] M nx ok Q ↔ Q (.inl (some (.int (nI (16 + 4 * i)))), M, nx, ok, 0, 0) := by
  have e1 : (4 : Int32) * nI i = nI (4 * i) := pk_mul 4 i
  have e2 : (16 : Int32) + nI (4 * i) = nI (16 + 4 * i) := nI_add 16 (4 * i)
  simp only [w168_0, w168_2, w168_3, w168_4, w168_5, w168_6, e1, e2]
end RUN
