section RUN
variable {X : pScr} {nx : Nat} {ok : Bool} {Q : pRes → Prop} {d1 : cS1} {d4 : cS4} {d6 : cS6} {d9 : cS9} {R : pMem} {M : pMem}
theorem bI_0 {b : Bool} : (bI b = 0) ↔ b = false := by cases b <;> simp [bI]
/-- a number that may be logged -/
def okNum (b : Int32) : Bool := (!decide (b < 1) && !decide (9 < b)) || (!decide (b < 18) && decide (b < 48))
/-- the commit at the first free place, from its k-th block on, m blocks: how many blocks it has, 0 if it isn't whole -/
def sbF (f : Nat → Int32) (ff n : Nat) (q : Int32) : Nat → Nat → Int32 → Int32
  | 0, _, s => if isSealB f (8 * (10 + (ff + n + 1) % 8)) q s = true then nI n else 0
  | m + 1, k, s => if okNum (logged f ff k) = true then sbF f ff n q m (k + 1) (smF f (8 * (10 + (ff + k) % 8)) 8 s) else 0
theorem q_sealed_l {ff n : Nat} {z1 : Value} (hf : d6.2.2.2.1 = nI ff) (hff : ff < 8) (hn6 : n ≤ 6) : ∀ m k s z5, k + m = n + 1 → 1 ≤ k → (pW X 67 83 [.ref 6, z1, .int (nI n), .int s, .int (nI k), z5] [] (cSW d1 d4 d6 d9 R) nx ok Q ↔ Q (.inl (some (.int (sbF d1.1 ff n d6.2.2.2.2.2.1 m k s))), cSW d1 d4 d6 d9 R, nx, ok, 0, 0)) := by
  intro m
  induction m with
  | zero =>
    intro k s z5 hk h1
    have e : k = n + 1 := by omega
    subst e
    have hlt : nI n < nI (n + 1) := nI_lt (by omega) (by omega)
    have e1 : nI ff + nI n = nI (ff + n) := nI_add ff n
    rw [w67_83]
    simp only [w67_0, w67_1, w67_4, w67_7, w67_8, w67_9, w67_12, w67_15, w67_16, w67_17, w67_18, w67_19, w67_20, w67_21, w67_24, w67_27, w67_28, w67_29, w67_32, w67_35, w67_36, w67_39, w67_42, w67_43, w67_44, w67_45, w67_46, w67_47, w67_50, w67_53, w67_54, w67_55, w67_56, w67_57, w67_60, w67_61, w67_63, w67_66, w67_67, w67_68, w67_69, w67_70, w67_73, w67_76, w67_77, w67_78, w67_79, w67_80, w67_81, w67_85, w67_86, w67_89, w67_90, w67_92, w67_95, w67_97, w67_99, w67_100, w67_103, w67_105, w67_107, w67_110, w67_112, w67_115, w67_118, w67_119, w67_120, w67_121, w67_122, w67_125, w67_128, w67_129, w67_132, w67_134, w67_135, w67_138, w67_141, w67_142, w67_145, w67_148, w67_149, w67_150, w67_153, w67_154, w67_155, w67_156, w67_157, w67_160, w67_161, w67_164, w67_167, w67_168, w67_171, w67_172, cS_i0, cS_g0_0, cS_g0_1, cS_g0_2, cS_g0_3, cS_i1, cS_g1_0, cS_g1_1, cS_g1_2, cS_p1_2, cS_g1_3, cS_p1_3, cS_g1_4, cS_p1_4, cS_g1_5, cS_p1_5, cS_g1_6, cS_p1_6, cS_g1_7, cS_p1_7, cS_a2, cS_u2, cS_l2, cS_c2_2, cS_c2_3, cS_c2_5, cS_c2_7, cS_c2_8, cS_c2_10, cS_c2_11, cS_c2_12, cS_a3, cS_u3, cS_l3, cS_c3_2, cS_c3_3, cS_c3_5, cS_c3_7, cS_c3_8, cS_c3_10, cS_c3_11, cS_c3_12, cS_i4, cS_g4_0, cS_g4_1, cS_p4_1, cS_g4_2, cS_p4_2, cS_g4_3, cS_p4_3, cS_g4_4, cS_p4_4, cS_a5, cS_u5, cS_l5, cS_c5_2, cS_c5_3, cS_c5_5, cS_c5_7, cS_c5_8, cS_c5_10, cS_c5_11, cS_c5_12, cS_i6, cS_g6_0, cS_g6_1, cS_g6_2, cS_g6_3, cS_g6_4, cS_p6_4, cS_g6_5, cS_p6_5, cS_g6_6, cS_p6_6, cS_g6_7, cS_p6_7, cS_g6_8, cS_p6_8, cS_g6_9, cS_p6_9, cS_a7, cS_u7, cS_l7, cS_c7_2, cS_c7_3, cS_c7_5, cS_c7_7, cS_c7_8, cS_c7_10, cS_c7_11, cS_c7_12, cS_a8, cS_u8, cS_l8, cS_c8_2, cS_c8_3, cS_c8_5, cS_c8_7, cS_c8_8, cS_c8_10, cS_c8_11, cS_c8_12, cS_i9, cS_g9_0, cS_g9_1, cS_g9_2, cS_a10, cS_u10, cS_l10, cS_c10_2, cS_c10_3, cS_c10_5, cS_c10_7, cS_c10_8, cS_c10_10, cS_c10_11, cS_c10_12, cS_a11, cS_u11, cS_l11, cS_c11_2, cS_c11_3, cS_c11_5, cS_c11_7, cS_c11_8, cS_c11_10, cS_c11_11, cS_c11_12, cS_a12, cS_u12, cS_l12, cS_c12_2, cS_c12_3, cS_c12_5, cS_c12_7, cS_c12_8, cS_c12_10, cS_c12_11, cS_c12_12, pK_v, pAdd_0, Nat.reduceAdd, true_and, hlt, if_true, hf, e1, nI_1, q_placeAt (show ff + n + 1 < 1000 by omega), q_isSeal (show 8 * (10 + (ff + n + 1) % 8) + 3 ≤ 384 by omega), bI_0, sbF]
    by_cases h : isSealB d1.1 (8 * (10 + (ff + n + 1) % 8)) d6.2.2.2.2.2.1 s = true
    · simp only [h, if_true, if_false, Bool.true_eq_false]
    · simp only [h, if_true, if_false, Bool.false_eq_true]
  | succ m ih =>
    intro k s z5 hk h1
    have hlt : ¬ nI n < nI k := nI_nlt (by omega) (by omega)
    have e1 : nI ff + nI k = nI (ff + k) := nI_add ff k
    rw [w67_83]
    simp only [w67_0, w67_1, w67_4, w67_7, w67_8, w67_9, w67_12, w67_15, w67_16, w67_17, w67_18, w67_19, w67_20, w67_21, w67_24, w67_27, w67_28, w67_29, w67_32, w67_35, w67_36, w67_39, w67_42, w67_43, w67_44, w67_45, w67_46, w67_47, w67_50, w67_53, w67_54, w67_55, w67_56, w67_57, w67_60, w67_61, w67_63, w67_66, w67_67, w67_68, w67_69, w67_70, w67_73, w67_76, w67_77, w67_78, w67_79, w67_80, w67_81, w67_85, w67_86, w67_89, w67_90, w67_92, w67_95, w67_97, w67_99, w67_100, w67_103, w67_105, w67_107, w67_110, w67_112, w67_115, w67_118, w67_119, w67_120, w67_121, w67_122, w67_125, w67_128, w67_129, w67_132, w67_134, w67_135, w67_138, w67_141, w67_142, w67_145, w177_0, w177_1, w177_3, w177_6, w177_7, w177_9, w177_12, w177_13, w177_16, w177_17, cS_i0, cS_g0_0, cS_g0_1, cS_g0_2, cS_g0_3, cS_i1, cS_g1_0, cS_g1_1, cS_g1_2, cS_p1_2, cS_g1_3, cS_p1_3, cS_g1_4, cS_p1_4, cS_g1_5, cS_p1_5, cS_g1_6, cS_p1_6, cS_g1_7, cS_p1_7, cS_a2, cS_u2, cS_l2, cS_c2_2, cS_c2_3, cS_c2_5, cS_c2_7, cS_c2_8, cS_c2_10, cS_c2_11, cS_c2_12, cS_a3, cS_u3, cS_l3, cS_c3_2, cS_c3_3, cS_c3_5, cS_c3_7, cS_c3_8, cS_c3_10, cS_c3_11, cS_c3_12, cS_i4, cS_g4_0, cS_g4_1, cS_p4_1, cS_g4_2, cS_p4_2, cS_g4_3, cS_p4_3, cS_g4_4, cS_p4_4, cS_a5, cS_u5, cS_l5, cS_c5_2, cS_c5_3, cS_c5_5, cS_c5_7, cS_c5_8, cS_c5_10, cS_c5_11, cS_c5_12, cS_i6, cS_g6_0, cS_g6_1, cS_g6_2, cS_g6_3, cS_g6_4, cS_p6_4, cS_g6_5, cS_p6_5, cS_g6_6, cS_p6_6, cS_g6_7, cS_p6_7, cS_g6_8, cS_p6_8, cS_g6_9, cS_p6_9, cS_a7, cS_u7, cS_l7, cS_c7_2, cS_c7_3, cS_c7_5, cS_c7_7, cS_c7_8, cS_c7_10, cS_c7_11, cS_c7_12, cS_a8, cS_u8, cS_l8, cS_c8_2, cS_c8_3, cS_c8_5, cS_c8_7, cS_c8_8, cS_c8_10, cS_c8_11, cS_c8_12, cS_i9, cS_g9_0, cS_g9_1, cS_g9_2, cS_a10, cS_u10, cS_l10, cS_c10_2, cS_c10_3, cS_c10_5, cS_c10_7, cS_c10_8, cS_c10_10, cS_c10_11, cS_c10_12, cS_a11, cS_u11, cS_l11, cS_c11_2, cS_c11_3, cS_c11_5, cS_c11_7, cS_c11_8, cS_c11_10, cS_c11_11, cS_c11_12, cS_a12, cS_u12, cS_l12, cS_c12_2, cS_c12_3, cS_c12_5, cS_c12_7, cS_c12_8, cS_c12_10, cS_c12_11, cS_c12_12, pK_v, pAdd_0, Nat.reduceAdd, true_and, true_or, or_true, hlt, if_false, hf, e1, nI_1, q_logged hf hff h1 (show k ≤ 6 by omega), q_placeAt (show ff + k < 1000 by omega), q_sum2 (show 8 * (10 + (ff + k) % 8) + 8 ≤ 384 by omega), ih (k + 1) _ _ (show k + 1 + m = n + 1 by omega) (show 1 ≤ k + 1 by omega), sbF, okNum]
    by_cases a1 : logged d1.1 ff k < 1 <;> by_cases a2 : 9 < logged d1.1 ff k <;> by_cases a3 : logged d1.1 ff k < 18 <;> by_cases a4 : logged d1.1 ff k < 48 <;> simp [a1, a2, a3, a4]
/-- how many blocks the commit at the first free place has, 0 if it isn't there whole -/
def sealedF (f : Nat → Int32) (ff : Nat) (q used : Int32) : Int32 :=
  if f (8 * (10 + ff % 8)) = 1001 then (if f (8 * (10 + ff % 8) + 1) = q then (if f (8 * (10 + ff % 8) + 2) < 1 then 0 else if 6 < f (8 * (10 + ff % 8) + 2) then 0 else if 8 - used < f (8 * (10 + ff % 8) + 2) + 2 then 0 else sbF f ff (f (8 * (10 + ff % 8) + 2)).toNatClampNeg q (f (8 * (10 + ff % 8) + 2)).toNatClampNeg 1 0) else 0) else 0
theorem q_sealed {ff : Nat} (hf : d6.2.2.2.1 = nI ff) (hff : ff < 8) : pW X 67 0 [.ref 6, pDum, pDum, pDum, pDum, pDum] [] (cSW d1 d4 d6 d9 R) nx ok Q ↔ Q (.inl (some (.int (sealedF d1.1 ff d6.2.2.2.2.2.1 d6.2.2.2.2.1))), cSW d1 d4 d6 d9 R, nx, ok, 0, 0) := by
  have e1 : nI (8 * (10 + ff % 8)) + 1 = nI (8 * (10 + ff % 8) + 1) := nI_1 _
  have e2 : nI (8 * (10 + ff % 8)) + 2 = nI (8 * (10 + ff % 8) + 2) := nI_add _ 2
  have c0 : (nI (8 * (10 + ff % 8))).toNatClampNeg = 8 * (10 + ff % 8) := nI_clamp (by omega)
  have c1 : (nI (8 * (10 + ff % 8) + 1)).toNatClampNeg = 8 * (10 + ff % 8) + 1 := nI_clamp (by omega)
  have c2 : (nI (8 * (10 + ff % 8) + 2)).toNatClampNeg = 8 * (10 + ff % 8) + 2 := nI_clamp (by omega)
  have i0 : pIn (nI (8 * (10 + ff % 8))) 384 = true := decide_eq_true (nI_in (by omega) (by decide))
  have i1 : pIn (nI (8 * (10 + ff % 8) + 1)) 384 = true := decide_eq_true (nI_in (by omega) (by decide))
  have i2 : pIn (nI (8 * (10 + ff % 8) + 2)) 384 = true := decide_eq_true (nI_in (by omega) (by decide))
  simp only [w67_0, w67_1, w67_4, w67_7, w67_8, w67_9, w67_12, w67_15, w67_16, w67_17, w67_18, w67_19, w67_20, w67_21, w67_24, w67_27, w67_28, w67_29, w67_32, w67_35, w67_36, w67_39, w67_42, w67_43, w67_44, w67_45, w67_46, w67_47, w67_50, w67_53, w67_54, w67_55, w67_56, w67_57, w67_60, w67_61, w67_63, w67_66, w67_67, w67_68, w67_69, w67_70, w67_73, w67_76, w67_77, w67_78, w67_79, w67_80, w67_81, w55_0, w55_2, w55_3, w55_6, w55_7, cS_i0, cS_g0_0, cS_g0_1, cS_g0_2, cS_g0_3, cS_i1, cS_g1_0, cS_g1_1, cS_g1_2, cS_p1_2, cS_g1_3, cS_p1_3, cS_g1_4, cS_p1_4, cS_g1_5, cS_p1_5, cS_g1_6, cS_p1_6, cS_g1_7, cS_p1_7, cS_a2, cS_u2, cS_l2, cS_c2_2, cS_c2_3, cS_c2_5, cS_c2_7, cS_c2_8, cS_c2_10, cS_c2_11, cS_c2_12, cS_a3, cS_u3, cS_l3, cS_c3_2, cS_c3_3, cS_c3_5, cS_c3_7, cS_c3_8, cS_c3_10, cS_c3_11, cS_c3_12, cS_i4, cS_g4_0, cS_g4_1, cS_p4_1, cS_g4_2, cS_p4_2, cS_g4_3, cS_p4_3, cS_g4_4, cS_p4_4, cS_a5, cS_u5, cS_l5, cS_c5_2, cS_c5_3, cS_c5_5, cS_c5_7, cS_c5_8, cS_c5_10, cS_c5_11, cS_c5_12, cS_i6, cS_g6_0, cS_g6_1, cS_g6_2, cS_g6_3, cS_g6_4, cS_p6_4, cS_g6_5, cS_p6_5, cS_g6_6, cS_p6_6, cS_g6_7, cS_p6_7, cS_g6_8, cS_p6_8, cS_g6_9, cS_p6_9, cS_a7, cS_u7, cS_l7, cS_c7_2, cS_c7_3, cS_c7_5, cS_c7_7, cS_c7_8, cS_c7_10, cS_c7_11, cS_c7_12, cS_a8, cS_u8, cS_l8, cS_c8_2, cS_c8_3, cS_c8_5, cS_c8_7, cS_c8_8, cS_c8_10, cS_c8_11, cS_c8_12, cS_i9, cS_g9_0, cS_g9_1, cS_g9_2, cS_a10, cS_u10, cS_l10, cS_c10_2, cS_c10_3, cS_c10_5, cS_c10_7, cS_c10_8, cS_c10_10, cS_c10_11, cS_c10_12, cS_a11, cS_u11, cS_l11, cS_c11_2, cS_c11_3, cS_c11_5, cS_c11_7, cS_c11_8, cS_c11_10, cS_c11_11, cS_c11_12, cS_a12, cS_u12, cS_l12, cS_c12_2, cS_c12_3, cS_c12_5, cS_c12_7, cS_c12_8, cS_c12_10, cS_c12_11, cS_c12_12, pK_v, pAdd_0, Nat.reduceAdd, true_and, hf, q_placeAt (show ff < 1000 by omega), e1, e2, c0, c1, c2, i0, i1, i2, sealedF]
  by_cases h1 : d1.1 (8 * (10 + ff % 8)) = 1001
  · by_cases h2 : d1.1 (8 * (10 + ff % 8) + 1) = d6.2.2.2.2.2.1
    · by_cases h3 : d1.1 (8 * (10 + ff % 8) + 2) < 1
      · simp only [h1, h2, h3, if_true]
      · by_cases h4 : 6 < d1.1 (8 * (10 + ff % 8) + 2)
        · simp only [h1, h2, h3, h4, if_true, if_false]
        · by_cases h5 : 8 - d6.2.2.2.2.1 < d1.1 (8 * (10 + ff % 8) + 2) + 2
          · simp only [h1, h2, h3, h4, h5, if_true, if_false]
          · simp only [h1, h2, h3, h4, h5, if_true, if_false]
            obtain ⟨j, hj6, hj⟩ := nI_of2 (x := d1.1 (8 * (10 + ff % 8) + 2)) (M := 6) (n := 6) rfl (fun h => h3 (Int32.lt_trans h (by decide))) (Int32.not_lt.mp h4)
            have hc : (nI j).toNatClampNeg = j := nI_clamp (by omega)
            rw [hj, hc]
            exact q_sealed_l hf hff hj6 j 1 0 pDum (by omega) (by omega)
    · simp only [h1, h2, if_true, if_false]
  · simp only [h1, if_false]
end RUN
