section RUN
variable {X : pScr} {nx : Nat} {ok : Bool} {Q : pRes → Prop} {d1 : cS1} {d4 : cS4} {d6 : cS6} {d9 : cS9} {R : pMem} {M : pMem}
/-- what an answer of truth is as an int -/
def bI (b : Bool) : Int32 := if b = true then 1 else 0
/-- the block at a is the seal with this sum -/
def isSealB (f : Nat → Int32) (a : Nat) (q s : Int32) : Bool := decide (f a = 1002) && (decide (f (a + 1) = q) && decide (f (a + 2) = s))
theorem q_isSeal {a : Nat} {s : Int32} (ha : a + 3 ≤ 384) : pW X 68 0 [.ref 6, .int (nI a), .int s] [] (cSW d1 d4 d6 d9 R) nx ok Q ↔ Q (.inl (some (.int (bI (isSealB d1.1 a d6.2.2.2.2.2.1 s)))), cSW d1 d4 d6 d9 R, nx, ok, 0, 0) := by
  have e1 : nI a + 1 = nI (a + 1) := nI_1 a
  have e2 : nI a + 2 = nI (a + 2) := nI_add a 2
  have c0 : (nI a).toNatClampNeg = a := nI_clamp (by omega)
  have c1 : (nI (a + 1)).toNatClampNeg = a + 1 := nI_clamp (by omega)
  have c2 : (nI (a + 2)).toNatClampNeg = a + 2 := nI_clamp (by omega)
  have i0 : pIn (nI a) 384 = true := decide_eq_true (nI_in (by omega) (by decide))
  have i1 : pIn (nI (a + 1)) 384 = true := decide_eq_true (nI_in (by omega) (by decide))
  have i2 : pIn (nI (a + 2)) 384 = true := decide_eq_true (nI_in (by omega) (by decide))
  simp only [w68_0, w68_1, w68_4, w68_7, w68_8, w68_9, w68_12, w68_15, w68_16, w68_19, w68_22, w68_23, w68_24, w68_25, w68_26, w68_27, w68_30, w68_33, w68_34, w68_37, w68_40, w68_41, w68_42, w68_43, w68_44, w68_45, w68_48, w68_49, w68_52, w68_53, cS_i0, cS_g0_0, cS_g0_1, cS_g0_2, cS_g0_3, cS_i1, cS_g1_0, cS_g1_1, cS_g1_2, cS_p1_2, cS_g1_3, cS_p1_3, cS_g1_4, cS_p1_4, cS_g1_5, cS_p1_5, cS_g1_6, cS_p1_6, cS_g1_7, cS_p1_7, cS_a2, cS_u2, cS_l2, cS_c2_2, cS_c2_3, cS_c2_5, cS_c2_7, cS_c2_8, cS_c2_10, cS_c2_11, cS_c2_12, cS_a3, cS_u3, cS_l3, cS_c3_2, cS_c3_3, cS_c3_5, cS_c3_7, cS_c3_8, cS_c3_10, cS_c3_11, cS_c3_12, cS_i4, cS_g4_0, cS_g4_1, cS_p4_1, cS_g4_2, cS_p4_2, cS_g4_3, cS_p4_3, cS_g4_4, cS_p4_4, cS_a5, cS_u5, cS_l5, cS_c5_2, cS_c5_3, cS_c5_5, cS_c5_7, cS_c5_8, cS_c5_10, cS_c5_11, cS_c5_12, cS_i6, cS_g6_0, cS_g6_1, cS_g6_2, cS_g6_3, cS_g6_4, cS_p6_4, cS_g6_5, cS_p6_5, cS_g6_6, cS_p6_6, cS_g6_7, cS_p6_7, cS_g6_8, cS_p6_8, cS_g6_9, cS_p6_9, cS_a7, cS_u7, cS_l7, cS_c7_2, cS_c7_3, cS_c7_5, cS_c7_7, cS_c7_8, cS_c7_10, cS_c7_11, cS_c7_12, cS_a8, cS_u8, cS_l8, cS_c8_2, cS_c8_3, cS_c8_5, cS_c8_7, cS_c8_8, cS_c8_10, cS_c8_11, cS_c8_12, cS_i9, cS_g9_0, cS_g9_1, cS_g9_2, cS_a10, cS_u10, cS_l10, cS_c10_2, cS_c10_3, cS_c10_5, cS_c10_7, cS_c10_8, cS_c10_10, cS_c10_11, cS_c10_12, cS_a11, cS_u11, cS_l11, cS_c11_2, cS_c11_3, cS_c11_5, cS_c11_7, cS_c11_8, cS_c11_10, cS_c11_11, cS_c11_12, cS_a12, cS_u12, cS_l12, cS_c12_2, cS_c12_3, cS_c12_5, cS_c12_7, cS_c12_8, cS_c12_10, cS_c12_11, cS_c12_12, e1, e2, c0, c1, c2, i0, i1, i2, true_and, true_or, or_true, isSealB, bI]
  by_cases h0 : d1.1 a = 1002
  · by_cases h1 : d1.1 (a + 1) = d6.2.2.2.2.2.1
    · by_cases h2 : d1.1 (a + 2) = s
      · simp only [h0, h1, h2, if_true, decide_true, Bool.and_self]
      · simp only [h0, h1, h2, if_true, if_false, decide_true, decide_false, Bool.and_false, Bool.false_eq_true]
    · simp only [h0, h1, if_true, if_false, decide_true, decide_false, Bool.false_and, Bool.and_false, Bool.false_eq_true]
  · simp only [h0, if_false, decide_false, Bool.false_and, Bool.false_eq_true]
/-- the number of the k-th logged block -/
def logged (f : Nat → Int32) (ff k : Nat) : Int32 := if k % 2 = 1 then f (8 * (10 + ff % 8) + 3 + (k - 1) / 2) &&& 63 else (f (8 * (10 + ff % 8) + 3 + (k - 1) / 2)).toUInt32 >>> ((6 : Int32).toUInt32 &&& Int32.toUInt32 31) |>.toInt32
theorem q_logged {ff k : Nat} (hf : d6.2.2.2.1 = nI ff) (hff : ff < 8) (hk : 1 ≤ k) (hk2 : k ≤ 6) : pW X 69 0 [.ref 6, .int (nI k), pDum] [] (cSW d1 d4 d6 d9 R) nx ok Q ↔ Q (.inl (some (.int (logged d1.1 ff k))), cSW d1 d4 d6 d9 R, nx, ok, 0, 0) := by
  obtain ⟨k, rfl⟩ : ∃ j, k = j + 1 := ⟨k - 1, by omega⟩
  have n2 : ¬ (2 : Int32) = 0 := by decide
  have e0 : nI (k + 1) - 1 = nI k := nI_pred k
  have e1 : nI k / 2 = nI (k / 2) := pk_div (d := 2) (by omega) (by decide) (by decide)
  have e2 : nI (k + 1) - nI (k + 1) / 2 * 2 = nI ((k + 1) % 2) := pk_rem (d := 2) (by omega) (by decide) (by decide)
  have e3 : nI (8 * (10 + ff % 8)) + 3 = nI (8 * (10 + ff % 8) + 3) := nI_add _ 3
  have e4 : nI (8 * (10 + ff % 8) + 3) + nI (k / 2) = nI (8 * (10 + ff % 8) + 3 + k / 2) := nI_add _ _
  have c0 : (nI (8 * (10 + ff % 8) + 3 + k / 2)).toNatClampNeg = 8 * (10 + ff % 8) + 3 + k / 2 := nI_clamp (by omega)
  have i0 : pIn (nI (8 * (10 + ff % 8) + 3 + k / 2)) 384 = true := decide_eq_true (nI_in (by omega) (by decide))
  have hz : (nI ((k + 1) % 2) = 1) ↔ (k + 1) % 2 = 1 := nI_eq (b := 1) (by omega) (by decide)
  simp only [w69_0, w69_1, w69_4, w69_7, w69_8, w69_11, w69_14, w69_15, w69_16, w69_17, w69_18, w69_19, w69_20, w69_21, w69_22, w69_23, w69_24, w69_25, w69_26, w69_27, w69_28, w69_31, w69_32, w69_34, w69_35, w69_38, w69_39, w69_41, w69_42, cS_i0, cS_g0_0, cS_g0_1, cS_g0_2, cS_g0_3, cS_i1, cS_g1_0, cS_g1_1, cS_g1_2, cS_p1_2, cS_g1_3, cS_p1_3, cS_g1_4, cS_p1_4, cS_g1_5, cS_p1_5, cS_g1_6, cS_p1_6, cS_g1_7, cS_p1_7, cS_a2, cS_u2, cS_l2, cS_c2_2, cS_c2_3, cS_c2_5, cS_c2_7, cS_c2_8, cS_c2_10, cS_c2_11, cS_c2_12, cS_a3, cS_u3, cS_l3, cS_c3_2, cS_c3_3, cS_c3_5, cS_c3_7, cS_c3_8, cS_c3_10, cS_c3_11, cS_c3_12, cS_i4, cS_g4_0, cS_g4_1, cS_p4_1, cS_g4_2, cS_p4_2, cS_g4_3, cS_p4_3, cS_g4_4, cS_p4_4, cS_a5, cS_u5, cS_l5, cS_c5_2, cS_c5_3, cS_c5_5, cS_c5_7, cS_c5_8, cS_c5_10, cS_c5_11, cS_c5_12, cS_i6, cS_g6_0, cS_g6_1, cS_g6_2, cS_g6_3, cS_g6_4, cS_p6_4, cS_g6_5, cS_p6_5, cS_g6_6, cS_p6_6, cS_g6_7, cS_p6_7, cS_g6_8, cS_p6_8, cS_g6_9, cS_p6_9, cS_a7, cS_u7, cS_l7, cS_c7_2, cS_c7_3, cS_c7_5, cS_c7_7, cS_c7_8, cS_c7_10, cS_c7_11, cS_c7_12, cS_a8, cS_u8, cS_l8, cS_c8_2, cS_c8_3, cS_c8_5, cS_c8_7, cS_c8_8, cS_c8_10, cS_c8_11, cS_c8_12, cS_i9, cS_g9_0, cS_g9_1, cS_g9_2, cS_a10, cS_u10, cS_l10, cS_c10_2, cS_c10_3, cS_c10_5, cS_c10_7, cS_c10_8, cS_c10_10, cS_c10_11, cS_c10_12, cS_a11, cS_u11, cS_l11, cS_c11_2, cS_c11_3, cS_c11_5, cS_c11_7, cS_c11_8, cS_c11_10, cS_c11_11, cS_c11_12, cS_a12, cS_u12, cS_l12, cS_c12_2, cS_c12_3, cS_c12_5, cS_c12_7, cS_c12_8, cS_c12_10, cS_c12_11, cS_c12_12, pK_v, pAdd_0, Nat.reduceAdd, hf, q_placeAt (show ff < 1000 by omega), n2, not_false_eq_true, true_and, e0, e1, e2, e3, e4, c0, i0, hz, logged, Nat.add_sub_cancel]
  by_cases h : (k + 1) % 2 = 1
  · simp only [h, if_true]
  · simp only [h, if_false]
end RUN
