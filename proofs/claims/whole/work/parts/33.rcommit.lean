section RUN
variable {X : pScr} {nx : Nat} {ok : Bool} {Q : pRes → Prop} {e1 : rS1} {e2 : rS2} {e3 : rS3} {e4 : rS4} {R : pMem} {M : pMem}
theorem q_rcm1_l {c : Int32} {y3 y4 y5 y6 : Value} : ∀ m b e1 n, b + m = 48 → rOk e1 n → n + m < 100 → (pW X 114 14 [.ref 13, .int c, .int (nI b), y3, y4, y5, y6] [] (rSW e1 e2 e3 e4 R) nx ok Q ↔ pW X 114 48 [.ref 13, .int c, .int (nI 48), y3, y4, y5, y6] [] (rSW (rputsF (mb e2.2.2.1) e2.1 m b e1) e2 e3 e4 R) nx ok Q) := by
  intro m
  induction m with
  | zero =>
    intro b e1 n hb ho hn
    have e : b = 48 := by omega
    subst e
    rw [w114_14]
    simp (disch := omega) only [w114_15, w114_17, lit_0, lit_1, lit_2, lit_3, lit_4, lit_5, lit_6, lit_7, lit_8, lit_9, lit_10, lit_11, lit_12, lit_13, lit_14, lit_15, lit_16, lit_17, lit_18, lit_19, lit_20, lit_21, lit_22, lit_23, lit_24, lit_25, lit_26, lit_27, lit_28, lit_29, lit_30, lit_31, lit_32, lit_33, lit_34, lit_35, lit_36, lit_37, lit_38, lit_39, lit_40, lit_41, lit_42, lit_43, lit_44, lit_45, lit_46, lit_47, lit_48, lit_49, lit_50, lit_51, lit_52, lit_53, lit_54, lit_55, lit_56, lit_57, lit_58, lit_59, lit_60, lit_61, lit_62, lit_63, lit_64, lit_80, lit_100, lit_524287, lit_262143, lit_384, lit_1001, lit_1002, lit_61267, nI_add, pk_mul, pk_div, nI_rm, pk_sub, Nrm, Nrm8, Nrm4, nI_inT, nI_clamp, nI_ltT, nI_ltF, nI_eqT, nI_eqF, nI_ltI, nI_eq, nI_ushr, m4, m8, if_true, if_false, true_and, and_true, true_or, or_true, not_false_eq_true, not_true_eq_false, Nat.reduceAdd, Nat.reduceDiv, Nat.reduceMod, Nat.reduceMul, Nat.add_zero, Nat.lt_irrefl, pAdd_0, pK_n, pK_v, rputsF]
  | succ m ih =>
    intro b e1 n hb ho hn
    rw [w114_14]
    by_cases h : e2.2.2.1 b = nI 0
    · have h2 := ih (b + 1) e1 n (by omega) ho (by omega)
      simp (disch := omega) only [w114_0, w114_1, w114_4, w114_5, w114_6, w114_9, w114_12, w114_13, w114_15, w114_17, w114_20, w114_21, w114_24, w114_25, w114_26, w114_29, w114_30, w114_31, w114_32, w114_35, w114_36, w114_38, w114_39, w114_42, w114_45, rS_i13, rS_g13_0, rS_g13_1, rS_g13_2, rS_g13_3, rS_g13_4, rS_g13_5, rS_g13_6, rS_g13_7, rS_g13_8, rS_g13_9, rS_g13_10, rS_g13_11, rS_p13_11, rS_g13_12, rS_p13_12, rS_g13_13, rS_p13_13, rS_g13_14, rS_p13_14, rS_g13_15, rS_p13_15, rS_g13_16, rS_p13_16, rS_g13_17, rS_p13_17, rS_g13_18, rS_p13_18, rS_g13_19, rS_p13_19, rS_g13_20, rS_p13_20, rS_g13_21, rS_p13_21, rS_g13_22, rS_p13_22, rS_g13_23, rS_p13_23, rS_g13_24, rS_p13_24, rS_g13_25, rS_g13_26, rS_p13_26, rS_a14, rS_u14, rS_l14, rS_a15, rS_u15, rS_l15, rS_a16, rS_u16, rS_l16, rS_a17, rS_u17, rS_l17, rS_a18, rS_u18, rS_l18, rS_a19, rS_u19, rS_l19, rS_a20, rS_u20, rS_a21, rS_u21, rS_a22, rS_u22, rS_a23, rS_u23, rS_l23, rS_a24, rS_u24, rS_a25, rS_u25, rS_l25, lit_0, lit_1, lit_2, lit_3, lit_4, lit_5, lit_6, lit_7, lit_8, lit_9, lit_10, lit_11, lit_12, lit_13, lit_14, lit_15, lit_16, lit_17, lit_18, lit_19, lit_20, lit_21, lit_22, lit_23, lit_24, lit_25, lit_26, lit_27, lit_28, lit_29, lit_30, lit_31, lit_32, lit_33, lit_34, lit_35, lit_36, lit_37, lit_38, lit_39, lit_40, lit_41, lit_42, lit_43, lit_44, lit_45, lit_46, lit_47, lit_48, lit_49, lit_50, lit_51, lit_52, lit_53, lit_54, lit_55, lit_56, lit_57, lit_58, lit_59, lit_60, lit_61, lit_62, lit_63, lit_64, lit_80, lit_100, lit_524287, lit_262143, lit_384, lit_1001, lit_1002, lit_61267, nI_add, pk_mul, pk_div, nI_rm, pk_sub, Nrm, Nrm8, Nrm4, nI_inT, nI_clamp, nI_ltT, nI_ltF, nI_eqT, nI_eqF, nI_ltI, nI_eq, nI_ushr, m4, m8, if_true, if_false, true_and, and_true, true_or, or_true, not_false_eq_true, not_true_eq_false, Nat.reduceAdd, Nat.reduceDiv, Nat.reduceMod, Nat.reduceMul, Nat.add_zero, Nat.lt_irrefl, pAdd_0, pK_n, pK_v, h, rputsF, mb_t, h2]
    · have h2 := ih (b + 1) (rPut b (8 * b) e2.1 e1) (n + 1) (by omega) (rPut_ok (by omega) (by omega) ho) (by omega)
      simp (disch := omega) only [w114_0, w114_1, w114_4, w114_5, w114_6, w114_9, w114_12, w114_13, w114_15, w114_17, w114_20, w114_21, w114_24, w114_25, w114_26, w114_29, w114_30, w114_31, w114_32, w114_35, w114_36, w114_38, w114_39, w114_42, w114_45, rS_i13, rS_g13_0, rS_g13_1, rS_g13_2, rS_g13_3, rS_g13_4, rS_g13_5, rS_g13_6, rS_g13_7, rS_g13_8, rS_g13_9, rS_g13_10, rS_g13_11, rS_p13_11, rS_g13_12, rS_p13_12, rS_g13_13, rS_p13_13, rS_g13_14, rS_p13_14, rS_g13_15, rS_p13_15, rS_g13_16, rS_p13_16, rS_g13_17, rS_p13_17, rS_g13_18, rS_p13_18, rS_g13_19, rS_p13_19, rS_g13_20, rS_p13_20, rS_g13_21, rS_p13_21, rS_g13_22, rS_p13_22, rS_g13_23, rS_p13_23, rS_g13_24, rS_p13_24, rS_g13_25, rS_g13_26, rS_p13_26, rS_a14, rS_u14, rS_l14, rS_a15, rS_u15, rS_l15, rS_a16, rS_u16, rS_l16, rS_a17, rS_u17, rS_l17, rS_a18, rS_u18, rS_l18, rS_a19, rS_u19, rS_l19, rS_a20, rS_u20, rS_a21, rS_u21, rS_a22, rS_u22, rS_a23, rS_u23, rS_l23, rS_a24, rS_u24, rS_a25, rS_u25, rS_l25, lit_0, lit_1, lit_2, lit_3, lit_4, lit_5, lit_6, lit_7, lit_8, lit_9, lit_10, lit_11, lit_12, lit_13, lit_14, lit_15, lit_16, lit_17, lit_18, lit_19, lit_20, lit_21, lit_22, lit_23, lit_24, lit_25, lit_26, lit_27, lit_28, lit_29, lit_30, lit_31, lit_32, lit_33, lit_34, lit_35, lit_36, lit_37, lit_38, lit_39, lit_40, lit_41, lit_42, lit_43, lit_44, lit_45, lit_46, lit_47, lit_48, lit_49, lit_50, lit_51, lit_52, lit_53, lit_54, lit_55, lit_56, lit_57, lit_58, lit_59, lit_60, lit_61, lit_62, lit_63, lit_64, lit_80, lit_100, lit_524287, lit_262143, lit_384, lit_1001, lit_1002, lit_61267, nI_add, pk_mul, pk_div, nI_rm, pk_sub, Nrm, Nrm8, Nrm4, nI_inT, nI_clamp, nI_ltT, nI_ltF, nI_eqT, nI_eqF, nI_ltI, nI_eq, nI_ushr, m4, m8, if_true, if_false, true_and, and_true, true_or, or_true, not_false_eq_true, not_true_eq_false, Nat.reduceAdd, Nat.reduceDiv, Nat.reduceMod, Nat.reduceMul, Nat.add_zero, Nat.lt_irrefl, pAdd_0, pK_n, pK_v, h, rputsF, mb_t, q_rput16 (show b < 48 by omega) (show 8 * b + 8 ≤ 384 by omega) ho (show n < 100 by omega), h2]
theorem q_rcm2_l {c : Int32} {g : Nat → Int32} {y3 y4 y5 y6 : Value} : ∀ m b, b + m = 48 → (pW X 114 54 [.ref 13, .int c, .int (nI b), y3, y4, y5, y6] [] (rSW e1 (e2.1, e2.2.1, fillF b (nI 0) g, e2.2.2.2) e3 e4 R) nx ok Q ↔ pW X 114 73 [.ref 13, .int c, .int (nI 48), y3, y4, y5, y6] [] (rSW e1 (e2.1, e2.2.1, fillF 48 (nI 0) g, e2.2.2.2) e3 e4 R) nx ok Q) := by
  intro m
  induction m with
  | zero =>
    intro b hb
    have e : b = 48 := by omega
    subst e
    rw [w114_54]
    simp (disch := omega) only [w114_55, w114_57, lit_0, lit_1, lit_2, lit_3, lit_4, lit_5, lit_6, lit_7, lit_8, lit_9, lit_10, lit_11, lit_12, lit_13, lit_14, lit_15, lit_16, lit_17, lit_18, lit_19, lit_20, lit_21, lit_22, lit_23, lit_24, lit_25, lit_26, lit_27, lit_28, lit_29, lit_30, lit_31, lit_32, lit_33, lit_34, lit_35, lit_36, lit_37, lit_38, lit_39, lit_40, lit_41, lit_42, lit_43, lit_44, lit_45, lit_46, lit_47, lit_48, lit_49, lit_50, lit_51, lit_52, lit_53, lit_54, lit_55, lit_56, lit_57, lit_58, lit_59, lit_60, lit_61, lit_62, lit_63, lit_64, lit_80, lit_100, lit_524287, lit_262143, lit_384, lit_1001, lit_1002, lit_61267, nI_add, pk_mul, pk_div, nI_rm, pk_sub, Nrm, Nrm8, Nrm4, nI_inT, nI_clamp, nI_ltT, nI_ltF, nI_eqT, nI_eqF, nI_ltI, nI_eq, nI_ushr, m4, m8, if_true, if_false, true_and, and_true, true_or, or_true, not_false_eq_true, not_true_eq_false, Nat.reduceAdd, Nat.reduceDiv, Nat.reduceMod, Nat.reduceMul, Nat.add_zero, Nat.lt_irrefl, pAdd_0, pK_n, pK_v]
  | succ m ih =>
    intro b hb
    rw [← ih (b + 1) (by omega), w114_54]
    simp (disch := omega) only [w114_55, w114_57, w114_60, w114_61, w114_64, w114_65, w114_66, w114_67, w114_70, rS_i13, rS_g13_0, rS_g13_1, rS_g13_2, rS_g13_3, rS_g13_4, rS_g13_5, rS_g13_6, rS_g13_7, rS_g13_8, rS_g13_9, rS_g13_10, rS_g13_11, rS_p13_11, rS_g13_12, rS_p13_12, rS_g13_13, rS_p13_13, rS_g13_14, rS_p13_14, rS_g13_15, rS_p13_15, rS_g13_16, rS_p13_16, rS_g13_17, rS_p13_17, rS_g13_18, rS_p13_18, rS_g13_19, rS_p13_19, rS_g13_20, rS_p13_20, rS_g13_21, rS_p13_21, rS_g13_22, rS_p13_22, rS_g13_23, rS_p13_23, rS_g13_24, rS_p13_24, rS_g13_25, rS_g13_26, rS_p13_26, rS_a14, rS_u14, rS_l14, rS_a15, rS_u15, rS_l15, rS_a16, rS_u16, rS_l16, rS_a17, rS_u17, rS_l17, rS_a18, rS_u18, rS_l18, rS_a19, rS_u19, rS_l19, rS_a20, rS_u20, rS_a21, rS_u21, rS_a22, rS_u22, rS_a23, rS_u23, rS_l23, rS_a24, rS_u24, rS_a25, rS_u25, rS_l25, lit_0, lit_1, lit_2, lit_3, lit_4, lit_5, lit_6, lit_7, lit_8, lit_9, lit_10, lit_11, lit_12, lit_13, lit_14, lit_15, lit_16, lit_17, lit_18, lit_19, lit_20, lit_21, lit_22, lit_23, lit_24, lit_25, lit_26, lit_27, lit_28, lit_29, lit_30, lit_31, lit_32, lit_33, lit_34, lit_35, lit_36, lit_37, lit_38, lit_39, lit_40, lit_41, lit_42, lit_43, lit_44, lit_45, lit_46, lit_47, lit_48, lit_49, lit_50, lit_51, lit_52, lit_53, lit_54, lit_55, lit_56, lit_57, lit_58, lit_59, lit_60, lit_61, lit_62, lit_63, lit_64, lit_80, lit_100, lit_524287, lit_262143, lit_384, lit_1001, lit_1002, lit_61267, nI_add, pk_mul, pk_div, nI_rm, pk_sub, Nrm, Nrm8, Nrm4, nI_inT, nI_clamp, nI_ltT, nI_ltF, nI_eqT, nI_eqF, nI_ltI, nI_eq, nI_ushr, m4, m8, if_true, if_false, true_and, and_true, true_or, or_true, not_false_eq_true, not_true_eq_false, Nat.reduceAdd, Nat.reduceDiv, Nat.reduceMod, Nat.reduceMul, Nat.add_zero, Nat.lt_irrefl, pAdd_0, pK_n, pK_v, fillF_s]
/-- the header's numbers -/
def rhdF (P : Nat → Bool) : Nat → Nat → Nat → (Nat → Int32) → (Nat → Int32)
  | 0, _, _, f => f
  | m + 1, b, k, f => if P b = true then rhdF P m (b + 1) (k + 1) (upd f (3 + k / 2) (f (3 + k / 2) ||| nI b <<< (nI (6 * (k % 2)) &&& nI 31))) else rhdF P m (b + 1) k f
theorem q_rcm3_l {c : Int32} {y4 y5 y6 : Value} : ∀ m b k f, b + m = 48 → cntF (mb e2.2.1) m b k ≤ 9 → ∃ k' : Nat, (pW X 114 136 [.ref 13, .int c, .int (nI k), .int (nI b), y4, y5, y6] [] (rSW e1 e2 (e3.1, e3.2.1, e3.2.2.1, e3.2.2.2.1, e3.2.2.2.2.1, e3.2.2.2.2.2.1, e3.2.2.2.2.2.2.1, f) e4 R) nx ok Q ↔ pW X 114 181 [.ref 13, .int c, .int (nI k'), .int (nI 48), y4, y5, y6] [] (rSW e1 e2 (e3.1, e3.2.1, e3.2.2.1, e3.2.2.2.1, e3.2.2.2.2.1, e3.2.2.2.2.2.1, e3.2.2.2.2.2.2.1, rhdF (mb e2.2.1) m b k f) e4 R) nx ok Q) := by
  intro m
  induction m with
  | zero =>
    intro b k f hb hk
    have e : b = 48 := by omega
    subst e
    refine ⟨k, ?_⟩
    rw [w114_136]
    simp (disch := omega) only [w114_137, w114_139, lit_0, lit_1, lit_2, lit_3, lit_4, lit_5, lit_6, lit_7, lit_8, lit_9, lit_10, lit_11, lit_12, lit_13, lit_14, lit_15, lit_16, lit_17, lit_18, lit_19, lit_20, lit_21, lit_22, lit_23, lit_24, lit_25, lit_26, lit_27, lit_28, lit_29, lit_30, lit_31, lit_32, lit_33, lit_34, lit_35, lit_36, lit_37, lit_38, lit_39, lit_40, lit_41, lit_42, lit_43, lit_44, lit_45, lit_46, lit_47, lit_48, lit_49, lit_50, lit_51, lit_52, lit_53, lit_54, lit_55, lit_56, lit_57, lit_58, lit_59, lit_60, lit_61, lit_62, lit_63, lit_64, lit_80, lit_100, lit_524287, lit_262143, lit_384, lit_1001, lit_1002, lit_61267, nI_add, pk_mul, pk_div, nI_rm, pk_sub, Nrm, Nrm8, Nrm4, nI_inT, nI_clamp, nI_ltT, nI_ltF, nI_eqT, nI_eqF, nI_ltI, nI_eq, nI_ushr, m4, m8, if_true, if_false, true_and, and_true, true_or, or_true, not_false_eq_true, not_true_eq_false, Nat.reduceAdd, Nat.reduceDiv, Nat.reduceMod, Nat.reduceMul, Nat.add_zero, Nat.lt_irrefl, pAdd_0, pK_n, pK_v, rhdF]
  | succ m ih =>
    intro b k f hb hk
    by_cases h : e2.2.1 b = nI 0
    · have hk2 : cntF (mb e2.2.1) m (b + 1) k ≤ 9 := by
        have e : mb e2.2.1 b = false := mb_f.mpr h
        simpa [cntF, e] using hk
      obtain ⟨k', hh⟩ := ih (b + 1) k f (by omega) hk2
      refine ⟨k', ?_⟩
      rw [w114_136]
      simp (disch := omega) only [w114_137, w114_139, w114_142, w114_143, w114_146, w114_147, w114_148, w114_175, w114_178, rS_i13, rS_g13_0, rS_g13_1, rS_g13_2, rS_g13_3, rS_g13_4, rS_g13_5, rS_g13_6, rS_g13_7, rS_g13_8, rS_g13_9, rS_g13_10, rS_g13_11, rS_p13_11, rS_g13_12, rS_p13_12, rS_g13_13, rS_p13_13, rS_g13_14, rS_p13_14, rS_g13_15, rS_p13_15, rS_g13_16, rS_p13_16, rS_g13_17, rS_p13_17, rS_g13_18, rS_p13_18, rS_g13_19, rS_p13_19, rS_g13_20, rS_p13_20, rS_g13_21, rS_p13_21, rS_g13_22, rS_p13_22, rS_g13_23, rS_p13_23, rS_g13_24, rS_p13_24, rS_g13_25, rS_g13_26, rS_p13_26, rS_a14, rS_u14, rS_l14, rS_a15, rS_u15, rS_l15, rS_a16, rS_u16, rS_l16, rS_a17, rS_u17, rS_l17, rS_a18, rS_u18, rS_l18, rS_a19, rS_u19, rS_l19, rS_a20, rS_u20, rS_a21, rS_u21, rS_a22, rS_u22, rS_a23, rS_u23, rS_l23, rS_a24, rS_u24, rS_a25, rS_u25, rS_l25, lit_0, lit_1, lit_2, lit_3, lit_4, lit_5, lit_6, lit_7, lit_8, lit_9, lit_10, lit_11, lit_12, lit_13, lit_14, lit_15, lit_16, lit_17, lit_18, lit_19, lit_20, lit_21, lit_22, lit_23, lit_24, lit_25, lit_26, lit_27, lit_28, lit_29, lit_30, lit_31, lit_32, lit_33, lit_34, lit_35, lit_36, lit_37, lit_38, lit_39, lit_40, lit_41, lit_42, lit_43, lit_44, lit_45, lit_46, lit_47, lit_48, lit_49, lit_50, lit_51, lit_52, lit_53, lit_54, lit_55, lit_56, lit_57, lit_58, lit_59, lit_60, lit_61, lit_62, lit_63, lit_64, lit_80, lit_100, lit_524287, lit_262143, lit_384, lit_1001, lit_1002, lit_61267, nI_add, pk_mul, pk_div, nI_rm, pk_sub, Nrm, Nrm8, Nrm4, nI_inT, nI_clamp, nI_ltT, nI_ltF, nI_eqT, nI_eqF, nI_ltI, nI_eq, nI_ushr, m4, m8, if_true, if_false, true_and, and_true, true_or, or_true, not_false_eq_true, not_true_eq_false, Nat.reduceAdd, Nat.reduceDiv, Nat.reduceMod, Nat.reduceMul, Nat.add_zero, Nat.lt_irrefl, pAdd_0, pK_n, pK_v, h, rhdF, mb_t, hh]
    · have hk2 : cntF (mb e2.2.1) m (b + 1) (k + 1) ≤ 9 := by
        have e : mb e2.2.1 b = true := mb_t.mpr h
        simpa [cntF, e] using hk
      have hk3 := cntF_ge (P := mb e2.2.1) m (b + 1) (k + 1)
      obtain ⟨k', hh⟩ := ih (b + 1) (k + 1) (upd f (3 + k / 2) (f (3 + k / 2) ||| nI b <<< (nI (6 * (k % 2)) &&& nI 31))) (by omega) hk2
      refine ⟨k', ?_⟩
      rw [w114_136]
      have n2 : ¬ nI 2 = nI 0 := by decide
      simp (disch := omega) only [w114_137, w114_139, w114_142, w114_143, w114_146, w114_147, w114_148, w114_151, w114_152, w114_155, w114_156, w114_157, w114_158, w114_159, w114_160, w114_161, w114_162, w114_163, w114_165, w114_166, w114_167, w114_168, w114_169, w114_170, w114_171, w114_172, w114_175, w114_178, rS_i13, rS_g13_0, rS_g13_1, rS_g13_2, rS_g13_3, rS_g13_4, rS_g13_5, rS_g13_6, rS_g13_7, rS_g13_8, rS_g13_9, rS_g13_10, rS_g13_11, rS_p13_11, rS_g13_12, rS_p13_12, rS_g13_13, rS_p13_13, rS_g13_14, rS_p13_14, rS_g13_15, rS_p13_15, rS_g13_16, rS_p13_16, rS_g13_17, rS_p13_17, rS_g13_18, rS_p13_18, rS_g13_19, rS_p13_19, rS_g13_20, rS_p13_20, rS_g13_21, rS_p13_21, rS_g13_22, rS_p13_22, rS_g13_23, rS_p13_23, rS_g13_24, rS_p13_24, rS_g13_25, rS_g13_26, rS_p13_26, rS_a14, rS_u14, rS_l14, rS_a15, rS_u15, rS_l15, rS_a16, rS_u16, rS_l16, rS_a17, rS_u17, rS_l17, rS_a18, rS_u18, rS_l18, rS_a19, rS_u19, rS_l19, rS_a20, rS_u20, rS_a21, rS_u21, rS_a22, rS_u22, rS_a23, rS_u23, rS_l23, rS_a24, rS_u24, rS_a25, rS_u25, rS_l25, lit_0, lit_1, lit_2, lit_3, lit_4, lit_5, lit_6, lit_7, lit_8, lit_9, lit_10, lit_11, lit_12, lit_13, lit_14, lit_15, lit_16, lit_17, lit_18, lit_19, lit_20, lit_21, lit_22, lit_23, lit_24, lit_25, lit_26, lit_27, lit_28, lit_29, lit_30, lit_31, lit_32, lit_33, lit_34, lit_35, lit_36, lit_37, lit_38, lit_39, lit_40, lit_41, lit_42, lit_43, lit_44, lit_45, lit_46, lit_47, lit_48, lit_49, lit_50, lit_51, lit_52, lit_53, lit_54, lit_55, lit_56, lit_57, lit_58, lit_59, lit_60, lit_61, lit_62, lit_63, lit_64, lit_80, lit_100, lit_524287, lit_262143, lit_384, lit_1001, lit_1002, lit_61267, nI_add, pk_mul, pk_div, nI_rm, pk_sub, Nrm, Nrm8, Nrm4, nI_inT, nI_clamp, nI_ltT, nI_ltF, nI_eqT, nI_eqF, nI_ltI, nI_eq, nI_ushr, m4, m8, if_true, if_false, true_and, and_true, true_or, or_true, not_false_eq_true, not_true_eq_false, Nat.reduceAdd, Nat.reduceDiv, Nat.reduceMod, Nat.reduceMul, Nat.add_zero, Nat.lt_irrefl, pAdd_0, pK_n, pK_v, n2, h, rhdF, mb_t, hh]
theorem q_rcm4_s {c y3 : Int32} {a b : Nat} {s : Int32} (hb : b < 48) : ∀ m n g, n + m = 8 → (pW X 114 255 [.ref 13, .int c, .int y3, .int (smF e2.1 (8 * b) n s), .int (nI a), .int (nI b), .int (nI n)] [] (rSW e1 e2 (va_cpy e2.1 g (8 * b) (8 * b) n, e3.2) e4 R) nx ok Q ↔ pW X 114 313 [.ref 13, .int c, .int y3, .int (smF e2.1 (8 * b) 8 s), .int (nI a), .int (nI b), .int (nI 8)] [] (rSW e1 e2 (va_cpy e2.1 g (8 * b) (8 * b) 8, e3.2) e4 R) nx ok Q) := by
  intro m
  induction m with
  | zero =>
    intro n g hn
    have e : n = 8 := by omega
    subst e
    rw [w114_255]
    simp (disch := omega) only [w114_257, w114_259, lit_0, lit_1, lit_2, lit_3, lit_4, lit_5, lit_6, lit_7, lit_8, lit_9, lit_10, lit_11, lit_12, lit_13, lit_14, lit_15, lit_16, lit_17, lit_18, lit_19, lit_20, lit_21, lit_22, lit_23, lit_24, lit_25, lit_26, lit_27, lit_28, lit_29, lit_30, lit_31, lit_32, lit_33, lit_34, lit_35, lit_36, lit_37, lit_38, lit_39, lit_40, lit_41, lit_42, lit_43, lit_44, lit_45, lit_46, lit_47, lit_48, lit_49, lit_50, lit_51, lit_52, lit_53, lit_54, lit_55, lit_56, lit_57, lit_58, lit_59, lit_60, lit_61, lit_62, lit_63, lit_64, lit_80, lit_100, lit_524287, lit_262143, lit_384, lit_1001, lit_1002, lit_61267, nI_add, pk_mul, pk_div, nI_rm, pk_sub, Nrm, Nrm8, Nrm4, nI_inT, nI_clamp, nI_ltT, nI_ltF, nI_eqT, nI_eqF, nI_ltI, nI_eq, nI_ushr, m4, m8, if_true, if_false, true_and, and_true, true_or, or_true, not_false_eq_true, not_true_eq_false, Nat.reduceAdd, Nat.reduceDiv, Nat.reduceMod, Nat.reduceMul, Nat.add_zero, Nat.lt_irrefl, pAdd_0, pK_n, pK_v]
  | succ m ih =>
    intro n g hn
    rw [← ih (n + 1) g (by omega), w114_255]
    have e31 : (31 : Int32) = nI 31 := rfl
    have es : smF e2.1 (8 * b) (n + 1) s = smF e2.1 (8 * b) n s * nI 31 + e2.1 (8 * b + n) := by
      rw [Int32.mul_comm]
      rfl
    simp (disch := omega) only [w114_257, w114_259, w114_262, w114_263, w114_265, w114_266, w114_267, w114_270, w114_272, w114_274, w114_275, w114_277, w114_278, w114_279, w114_280, w114_281, w114_282, w114_285, w114_287, w114_289, w114_290, w114_292, w114_293, w114_294, w114_297, w114_299, w114_301, w114_302, w114_304, w114_305, w114_306, w114_307, w114_310, rS_i13, rS_g13_0, rS_g13_1, rS_g13_2, rS_g13_3, rS_g13_4, rS_g13_5, rS_g13_6, rS_g13_7, rS_g13_8, rS_g13_9, rS_g13_10, rS_g13_11, rS_p13_11, rS_g13_12, rS_p13_12, rS_g13_13, rS_p13_13, rS_g13_14, rS_p13_14, rS_g13_15, rS_p13_15, rS_g13_16, rS_p13_16, rS_g13_17, rS_p13_17, rS_g13_18, rS_p13_18, rS_g13_19, rS_p13_19, rS_g13_20, rS_p13_20, rS_g13_21, rS_p13_21, rS_g13_22, rS_p13_22, rS_g13_23, rS_p13_23, rS_g13_24, rS_p13_24, rS_g13_25, rS_g13_26, rS_p13_26, rS_a14, rS_u14, rS_l14, rS_a15, rS_u15, rS_l15, rS_a16, rS_u16, rS_l16, rS_a17, rS_u17, rS_l17, rS_a18, rS_u18, rS_l18, rS_a19, rS_u19, rS_l19, rS_a20, rS_u20, rS_a21, rS_u21, rS_a22, rS_u22, rS_a23, rS_u23, rS_l23, rS_a24, rS_u24, rS_a25, rS_u25, rS_l25, lit_0, lit_1, lit_2, lit_3, lit_4, lit_5, lit_6, lit_7, lit_8, lit_9, lit_10, lit_11, lit_12, lit_13, lit_14, lit_15, lit_16, lit_17, lit_18, lit_19, lit_20, lit_21, lit_22, lit_23, lit_24, lit_25, lit_26, lit_27, lit_28, lit_29, lit_30, lit_31, lit_32, lit_33, lit_34, lit_35, lit_36, lit_37, lit_38, lit_39, lit_40, lit_41, lit_42, lit_43, lit_44, lit_45, lit_46, lit_47, lit_48, lit_49, lit_50, lit_51, lit_52, lit_53, lit_54, lit_55, lit_56, lit_57, lit_58, lit_59, lit_60, lit_61, lit_62, lit_63, lit_64, lit_80, lit_100, lit_524287, lit_262143, lit_384, lit_1001, lit_1002, lit_61267, nI_add, pk_mul, pk_div, nI_rm, pk_sub, Nrm, Nrm8, Nrm4, nI_inT, nI_clamp, nI_ltT, nI_ltF, nI_eqT, nI_eqF, nI_ltI, nI_eq, nI_ushr, m4, m8, if_true, if_false, true_and, and_true, true_or, or_true, not_false_eq_true, not_true_eq_false, Nat.reduceAdd, Nat.reduceDiv, Nat.reduceMod, Nat.reduceMul, Nat.add_zero, Nat.lt_irrefl, pAdd_0, pK_n, pK_v, cpy_s, es]
/-- the blocks of a set go to the journal's places: device, what is logged, the last place, sum -/
def rtrF (P : Nat → Bool) (f : Nat → Int32) : Nat → Nat → Nat → Int32 → rS1 → (Nat → Int32) → rS1 × (Nat → Int32) × Nat × Int32
  | 0, _, a, s, e, l => (e, l, a, s)
  | m + 1, b, a, s, e, l => if P b = true then rtrF P f m (b + 1) ((a + 1) % 8) (smF f (8 * b) 8 s) (rPut (10 + (a + 1) % 8) (8 * b) f e) (va_cpy f l (8 * b) (8 * b) 8) else rtrF P f m (b + 1) a s e l
theorem rtrF_ok {P : Nat → Bool} {f : Nat → Int32} : ∀ m b a s e l n, n + m < 100 → rOk e n → rOk (rtrF P f m b a s e l).1 (n + m) := by
  intro m
  induction m with
  | zero =>
    intro b a s e l n hn h
    exact h
  | succ m ih =>
    intro b a s e l n hn h
    unfold rtrF
    split
    · exact rOk_le (ih (b + 1) _ _ _ _ (n + 1) (by omega) (rPut_ok (by omega) (by omega) h)) (by omega)
    · exact rOk_le (ih (b + 1) _ _ _ _ n (by omega) h) (by omega)
theorem rtrF_at {P : Nat → Bool} {f : Nat → Int32} : ∀ m b a s e l, a < 8 → (rtrF P f m b a s e l).2.2.1 < 8 := by
  intro m
  induction m with
  | zero =>
    intro b a s e l h
    exact h
  | succ m ih =>
    intro b a s e l h
    unfold rtrF
    split
    · exact ih _ _ _ _ _ (by omega)
    · exact ih _ _ _ _ _ h
/-- the members below b of the set P are put into g -/
def orF (P : Nat → Bool) (b : Nat) (g : Nat → Int32) : Nat → Int32 := fun q => if q < b ∧ P q = true then nI 1 else g q
theorem orF_t {P : Nat → Bool} {b : Nat} {g : Nat → Int32} (h : P b = true) : upd (orF P b g) b (nI 1) = orF P (b + 1) g := by
  funext q
  by_cases e : q = b
  · subst e
    rw [pk_us]
    unfold orF
    rw [if_pos ⟨by omega, h⟩]
  · rw [pk_un e]
    unfold orF
    have e2 : (q < b ∧ P q = true) ↔ (q < b + 1 ∧ P q = true) := by
      constructor
      · rintro ⟨a, b⟩
        exact ⟨by omega, b⟩
      · rintro ⟨a, b⟩
        exact ⟨by omega, b⟩
    simp only [e2]
theorem orF_f {P : Nat → Bool} {b : Nat} {g : Nat → Int32} (h : P b = false) : orF P b g = orF P (b + 1) g := by
  funext q
  unfold orF
  have e2 : (q < b ∧ P q = true) ↔ (q < b + 1 ∧ P q = true) := by
    constructor
    · rintro ⟨a, b⟩
      exact ⟨by omega, b⟩
    · rintro ⟨a, c⟩
      refine ⟨?_, c⟩
      by_cases e : q = b
      · subst e
        rw [h] at c
        cases c
      · omega
  simp only [e2]
theorem orF_0 {P : Nat → Bool} {g : Nat → Int32} : orF P 0 g = g := by
  funext q
  simp [orF]
theorem fillF_same {b : Nat} {g : Nat → Int32} (h : g b = nI 0) : fillF b (nI 0) g = fillF (b + 1) (nI 0) g := by
  rw [← fillF_s]
  funext q
  by_cases e : q = b
  · subst e
    rw [pk_us]
    unfold fillF
    rw [if_neg (by omega)]
    exact h
  · rw [pk_un e]
theorem q_rcm4_l {c y2 : Int32} {g il : Nat → Int32} : ∀ m b a s e1 l n y6, b + m = 48 → a < 8 → rOk e1 n → n + m < 100 → ∃ y6', (pW X 114 208 [.ref 13, .int c, .int y2, .int s, .int (nI a), .int (nI b), y6] [] (rSW e1 (e2.1, fillF b (nI 0) g, e2.2.2) (l, orF (mb g) b il, e3.2.2) e4 R) nx ok Q ↔ pW X 114 335 [.ref 13, .int c, .int y2, .int (rtrF (mb g) e2.1 m b a s e1 l).2.2.2, .int (nI (rtrF (mb g) e2.1 m b a s e1 l).2.2.1), .int (nI 48), y6'] [] (rSW (rtrF (mb g) e2.1 m b a s e1 l).1 (e2.1, fillF 48 (nI 0) g, e2.2.2) ((rtrF (mb g) e2.1 m b a s e1 l).2.1, orF (mb g) 48 il, e3.2.2) e4 R) nx ok Q) := by
  intro m
  induction m with
  | zero =>
    intro b a s e1 l n y6 hb ha ho hn
    have e : b = 48 := by omega
    subst e
    refine ⟨y6, ?_⟩
    rw [w114_208]
    simp (disch := omega) only [w114_210, w114_212, lit_0, lit_1, lit_2, lit_3, lit_4, lit_5, lit_6, lit_7, lit_8, lit_9, lit_10, lit_11, lit_12, lit_13, lit_14, lit_15, lit_16, lit_17, lit_18, lit_19, lit_20, lit_21, lit_22, lit_23, lit_24, lit_25, lit_26, lit_27, lit_28, lit_29, lit_30, lit_31, lit_32, lit_33, lit_34, lit_35, lit_36, lit_37, lit_38, lit_39, lit_40, lit_41, lit_42, lit_43, lit_44, lit_45, lit_46, lit_47, lit_48, lit_49, lit_50, lit_51, lit_52, lit_53, lit_54, lit_55, lit_56, lit_57, lit_58, lit_59, lit_60, lit_61, lit_62, lit_63, lit_64, lit_80, lit_100, lit_524287, lit_262143, lit_384, lit_1001, lit_1002, lit_61267, nI_add, pk_mul, pk_div, nI_rm, pk_sub, Nrm, Nrm8, Nrm4, nI_inT, nI_clamp, nI_ltT, nI_ltF, nI_eqT, nI_eqF, nI_ltI, nI_eq, nI_ushr, m4, m8, if_true, if_false, true_and, and_true, true_or, or_true, not_false_eq_true, not_true_eq_false, Nat.reduceAdd, Nat.reduceDiv, Nat.reduceMod, Nat.reduceMul, Nat.add_zero, Nat.lt_irrefl, pAdd_0, pK_n, pK_v, rtrF]
  | succ m ih =>
    intro b a s e1 l n y6 hb ha ho hn
    have e0 : fillF b (nI 0) g b = g b := by
      unfold fillF
      rw [if_neg (by omega)]
    by_cases h : g b = nI 0
    · obtain ⟨y6', h2⟩ := ih (b + 1) a s e1 l n y6 (by omega) ha ho (by omega)
      refine ⟨y6', ?_⟩
      rw [w114_208]
      simp (disch := omega) only [w114_210, w114_212, w114_215, w114_216, w114_219, w114_221, w114_222, w114_329, w114_332, rS_i13, rS_g13_0, rS_g13_1, rS_g13_2, rS_g13_3, rS_g13_4, rS_g13_5, rS_g13_6, rS_g13_7, rS_g13_8, rS_g13_9, rS_g13_10, rS_g13_11, rS_p13_11, rS_g13_12, rS_p13_12, rS_g13_13, rS_p13_13, rS_g13_14, rS_p13_14, rS_g13_15, rS_p13_15, rS_g13_16, rS_p13_16, rS_g13_17, rS_p13_17, rS_g13_18, rS_p13_18, rS_g13_19, rS_p13_19, rS_g13_20, rS_p13_20, rS_g13_21, rS_p13_21, rS_g13_22, rS_p13_22, rS_g13_23, rS_p13_23, rS_g13_24, rS_p13_24, rS_g13_25, rS_g13_26, rS_p13_26, rS_a14, rS_u14, rS_l14, rS_a15, rS_u15, rS_l15, rS_a16, rS_u16, rS_l16, rS_a17, rS_u17, rS_l17, rS_a18, rS_u18, rS_l18, rS_a19, rS_u19, rS_l19, rS_a20, rS_u20, rS_a21, rS_u21, rS_a22, rS_u22, rS_a23, rS_u23, rS_l23, rS_a24, rS_u24, rS_a25, rS_u25, rS_l25, lit_0, lit_1, lit_2, lit_3, lit_4, lit_5, lit_6, lit_7, lit_8, lit_9, lit_10, lit_11, lit_12, lit_13, lit_14, lit_15, lit_16, lit_17, lit_18, lit_19, lit_20, lit_21, lit_22, lit_23, lit_24, lit_25, lit_26, lit_27, lit_28, lit_29, lit_30, lit_31, lit_32, lit_33, lit_34, lit_35, lit_36, lit_37, lit_38, lit_39, lit_40, lit_41, lit_42, lit_43, lit_44, lit_45, lit_46, lit_47, lit_48, lit_49, lit_50, lit_51, lit_52, lit_53, lit_54, lit_55, lit_56, lit_57, lit_58, lit_59, lit_60, lit_61, lit_62, lit_63, lit_64, lit_80, lit_100, lit_524287, lit_262143, lit_384, lit_1001, lit_1002, lit_61267, nI_add, pk_mul, pk_div, nI_rm, pk_sub, Nrm, Nrm8, Nrm4, nI_inT, nI_clamp, nI_ltT, nI_ltF, nI_eqT, nI_eqF, nI_ltI, nI_eq, nI_ushr, m4, m8, if_true, if_false, true_and, and_true, true_or, or_true, not_false_eq_true, not_true_eq_false, Nat.reduceAdd, Nat.reduceDiv, Nat.reduceMod, Nat.reduceMul, Nat.add_zero, Nat.lt_irrefl, pAdd_0, pK_n, pK_v, e0, h, rtrF, mb_t]
      rw [fillF_same h, orF_f (mb_f.mpr h)]
      exact h2
    · obtain ⟨y6', h2⟩ := ih (b + 1) ((a + 1) % 8) (smF e2.1 (8 * b) 8 s) (rPut (10 + (a + 1) % 8) (8 * b) e2.1 e1) (va_cpy e2.1 l (8 * b) (8 * b) 8) (n + 1) (.int (nI 8)) (by omega) (by omega) (rPut_ok (by omega) (by omega) ho) (by omega)
      refine ⟨y6', ?_⟩
      rw [w114_208]
      have n8 : ¬ nI 8 = nI 0 := by decide
      have hs := q_rcm4_s (X := X) (nx := nx) (ok := ok) (Q := Q) (e1 := rPut (10 + (a + 1) % 8) (8 * b) e2.1 e1) (e2 := (e2.1, fillF b (nI 0) g, e2.2.2)) (e3 := (l, orF (mb g) b il, e3.2.2)) (e4 := e4) (R := R) (c := c) (y3 := y2) (a := (a + 1) % 8) (b := b) (s := s) (by omega) 8 0 l rfl
      rw [cpy_0] at hs
      simp (disch := omega) only [w114_210, w114_212, w114_215, w114_216, w114_219, w114_221, w114_222, w114_225, w114_227, w114_228, w114_229, w114_231, w114_232, w114_234, w114_235, w114_237, w114_239, w114_240, w114_241, w114_244, w114_246, w114_248, w114_249, w114_252, w114_253, rS_i13, rS_g13_0, rS_g13_1, rS_g13_2, rS_g13_3, rS_g13_4, rS_g13_5, rS_g13_6, rS_g13_7, rS_g13_8, rS_g13_9, rS_g13_10, rS_g13_11, rS_p13_11, rS_g13_12, rS_p13_12, rS_g13_13, rS_p13_13, rS_g13_14, rS_p13_14, rS_g13_15, rS_p13_15, rS_g13_16, rS_p13_16, rS_g13_17, rS_p13_17, rS_g13_18, rS_p13_18, rS_g13_19, rS_p13_19, rS_g13_20, rS_p13_20, rS_g13_21, rS_p13_21, rS_g13_22, rS_p13_22, rS_g13_23, rS_p13_23, rS_g13_24, rS_p13_24, rS_g13_25, rS_g13_26, rS_p13_26, rS_a14, rS_u14, rS_l14, rS_a15, rS_u15, rS_l15, rS_a16, rS_u16, rS_l16, rS_a17, rS_u17, rS_l17, rS_a18, rS_u18, rS_l18, rS_a19, rS_u19, rS_l19, rS_a20, rS_u20, rS_a21, rS_u21, rS_a22, rS_u22, rS_a23, rS_u23, rS_l23, rS_a24, rS_u24, rS_a25, rS_u25, rS_l25, lit_0, lit_1, lit_2, lit_3, lit_4, lit_5, lit_6, lit_7, lit_8, lit_9, lit_10, lit_11, lit_12, lit_13, lit_14, lit_15, lit_16, lit_17, lit_18, lit_19, lit_20, lit_21, lit_22, lit_23, lit_24, lit_25, lit_26, lit_27, lit_28, lit_29, lit_30, lit_31, lit_32, lit_33, lit_34, lit_35, lit_36, lit_37, lit_38, lit_39, lit_40, lit_41, lit_42, lit_43, lit_44, lit_45, lit_46, lit_47, lit_48, lit_49, lit_50, lit_51, lit_52, lit_53, lit_54, lit_55, lit_56, lit_57, lit_58, lit_59, lit_60, lit_61, lit_62, lit_63, lit_64, lit_80, lit_100, lit_524287, lit_262143, lit_384, lit_1001, lit_1002, lit_61267, nI_add, pk_mul, pk_div, nI_rm, pk_sub, Nrm, Nrm8, Nrm4, nI_inT, nI_clamp, nI_ltT, nI_ltF, nI_eqT, nI_eqF, nI_ltI, nI_eq, nI_ushr, m4, m8, if_true, if_false, true_and, and_true, true_or, or_true, not_false_eq_true, not_true_eq_false, Nat.reduceAdd, Nat.reduceDiv, Nat.reduceMod, Nat.reduceMul, Nat.add_zero, Nat.lt_irrefl, pAdd_0, pK_n, pK_v, n8, e0, h, q_rput16 (show 10 + (a + 1) % 8 < 48 by omega) (show 8 * b + 8 ≤ 384 by omega) ho (show n < 100 by omega), rtrF, mb_t]
      refine hs.trans ?_
      simp (disch := omega) only [w114_313, w114_314, w114_317, w114_319, w114_320, w114_321, w114_322, w114_325, w114_327, w114_328, w114_329, w114_332, rS_i13, rS_g13_0, rS_g13_1, rS_g13_2, rS_g13_3, rS_g13_4, rS_g13_5, rS_g13_6, rS_g13_7, rS_g13_8, rS_g13_9, rS_g13_10, rS_g13_11, rS_p13_11, rS_g13_12, rS_p13_12, rS_g13_13, rS_p13_13, rS_g13_14, rS_p13_14, rS_g13_15, rS_p13_15, rS_g13_16, rS_p13_16, rS_g13_17, rS_p13_17, rS_g13_18, rS_p13_18, rS_g13_19, rS_p13_19, rS_g13_20, rS_p13_20, rS_g13_21, rS_p13_21, rS_g13_22, rS_p13_22, rS_g13_23, rS_p13_23, rS_g13_24, rS_p13_24, rS_g13_25, rS_g13_26, rS_p13_26, rS_a14, rS_u14, rS_l14, rS_a15, rS_u15, rS_l15, rS_a16, rS_u16, rS_l16, rS_a17, rS_u17, rS_l17, rS_a18, rS_u18, rS_l18, rS_a19, rS_u19, rS_l19, rS_a20, rS_u20, rS_a21, rS_u21, rS_a22, rS_u22, rS_a23, rS_u23, rS_l23, rS_a24, rS_u24, rS_a25, rS_u25, rS_l25, lit_0, lit_1, lit_2, lit_3, lit_4, lit_5, lit_6, lit_7, lit_8, lit_9, lit_10, lit_11, lit_12, lit_13, lit_14, lit_15, lit_16, lit_17, lit_18, lit_19, lit_20, lit_21, lit_22, lit_23, lit_24, lit_25, lit_26, lit_27, lit_28, lit_29, lit_30, lit_31, lit_32, lit_33, lit_34, lit_35, lit_36, lit_37, lit_38, lit_39, lit_40, lit_41, lit_42, lit_43, lit_44, lit_45, lit_46, lit_47, lit_48, lit_49, lit_50, lit_51, lit_52, lit_53, lit_54, lit_55, lit_56, lit_57, lit_58, lit_59, lit_60, lit_61, lit_62, lit_63, lit_64, lit_80, lit_100, lit_524287, lit_262143, lit_384, lit_1001, lit_1002, lit_61267, nI_add, pk_mul, pk_div, nI_rm, pk_sub, Nrm, Nrm8, Nrm4, nI_inT, nI_clamp, nI_ltT, nI_ltF, nI_eqT, nI_eqF, nI_ltI, nI_eq, nI_ushr, m4, m8, if_true, if_false, true_and, and_true, true_or, or_true, not_false_eq_true, not_true_eq_false, Nat.reduceAdd, Nat.reduceDiv, Nat.reduceMod, Nat.reduceMul, Nat.add_zero, Nat.lt_irrefl, pAdd_0, pK_n, pK_v, fillF_s, orF_t (mb_t.mpr h)]
      exact h2
theorem q_rcm5_l {c y2 y3 : Int32} {y6 : Value} {a : Nat} {g : Nat → Int32} : ∀ m b, b + m = 48 → (pW X 114 446 [.ref 13, .int c, .int y2, .int y3, .int (nI a), .int (nI b), y6] [] (rSW e1 (e2.1, e2.2.1, e2.2.2.1, fillF b (nI 0) g, e2.2.2.2.2) e3 e4 R) nx ok Q ↔ pW X 114 467 [.ref 13, .int c, .int y2, .int y3, .int (nI a), .int (nI 48), y6] [] (rSW e1 (e2.1, e2.2.1, e2.2.2.1, fillF 48 (nI 0) g, e2.2.2.2.2) e3 e4 R) nx ok Q) := by
  intro m
  induction m with
  | zero =>
    intro b hb
    have e : b = 48 := by omega
    subst e
    rw [w114_446]
    simp (disch := omega) only [w114_448, w114_450, lit_0, lit_1, lit_2, lit_3, lit_4, lit_5, lit_6, lit_7, lit_8, lit_9, lit_10, lit_11, lit_12, lit_13, lit_14, lit_15, lit_16, lit_17, lit_18, lit_19, lit_20, lit_21, lit_22, lit_23, lit_24, lit_25, lit_26, lit_27, lit_28, lit_29, lit_30, lit_31, lit_32, lit_33, lit_34, lit_35, lit_36, lit_37, lit_38, lit_39, lit_40, lit_41, lit_42, lit_43, lit_44, lit_45, lit_46, lit_47, lit_48, lit_49, lit_50, lit_51, lit_52, lit_53, lit_54, lit_55, lit_56, lit_57, lit_58, lit_59, lit_60, lit_61, lit_62, lit_63, lit_64, lit_80, lit_100, lit_524287, lit_262143, lit_384, lit_1001, lit_1002, lit_61267, nI_add, pk_mul, pk_div, nI_rm, pk_sub, Nrm, Nrm8, Nrm4, nI_inT, nI_clamp, nI_ltT, nI_ltF, nI_eqT, nI_eqF, nI_ltI, nI_eq, nI_ushr, m4, m8, if_true, if_false, true_and, and_true, true_or, or_true, not_false_eq_true, not_true_eq_false, Nat.reduceAdd, Nat.reduceDiv, Nat.reduceMod, Nat.reduceMul, Nat.add_zero, Nat.lt_irrefl, pAdd_0, pK_n, pK_v]
  | succ m ih =>
    intro b hb
    rw [← ih (b + 1) (by omega), w114_446]
    simp (disch := omega) only [w114_448, w114_450, w114_453, w114_454, w114_457, w114_459, w114_460, w114_461, w114_464, rS_i13, rS_g13_0, rS_g13_1, rS_g13_2, rS_g13_3, rS_g13_4, rS_g13_5, rS_g13_6, rS_g13_7, rS_g13_8, rS_g13_9, rS_g13_10, rS_g13_11, rS_p13_11, rS_g13_12, rS_p13_12, rS_g13_13, rS_p13_13, rS_g13_14, rS_p13_14, rS_g13_15, rS_p13_15, rS_g13_16, rS_p13_16, rS_g13_17, rS_p13_17, rS_g13_18, rS_p13_18, rS_g13_19, rS_p13_19, rS_g13_20, rS_p13_20, rS_g13_21, rS_p13_21, rS_g13_22, rS_p13_22, rS_g13_23, rS_p13_23, rS_g13_24, rS_p13_24, rS_g13_25, rS_g13_26, rS_p13_26, rS_a14, rS_u14, rS_l14, rS_a15, rS_u15, rS_l15, rS_a16, rS_u16, rS_l16, rS_a17, rS_u17, rS_l17, rS_a18, rS_u18, rS_l18, rS_a19, rS_u19, rS_l19, rS_a20, rS_u20, rS_a21, rS_u21, rS_a22, rS_u22, rS_a23, rS_u23, rS_l23, rS_a24, rS_u24, rS_a25, rS_u25, rS_l25, lit_0, lit_1, lit_2, lit_3, lit_4, lit_5, lit_6, lit_7, lit_8, lit_9, lit_10, lit_11, lit_12, lit_13, lit_14, lit_15, lit_16, lit_17, lit_18, lit_19, lit_20, lit_21, lit_22, lit_23, lit_24, lit_25, lit_26, lit_27, lit_28, lit_29, lit_30, lit_31, lit_32, lit_33, lit_34, lit_35, lit_36, lit_37, lit_38, lit_39, lit_40, lit_41, lit_42, lit_43, lit_44, lit_45, lit_46, lit_47, lit_48, lit_49, lit_50, lit_51, lit_52, lit_53, lit_54, lit_55, lit_56, lit_57, lit_58, lit_59, lit_60, lit_61, lit_62, lit_63, lit_64, lit_80, lit_100, lit_524287, lit_262143, lit_384, lit_1001, lit_1002, lit_61267, nI_add, pk_mul, pk_div, nI_rm, pk_sub, Nrm, Nrm8, Nrm4, nI_inT, nI_clamp, nI_ltT, nI_ltF, nI_eqT, nI_eqF, nI_ltI, nI_eq, nI_ushr, m4, m8, if_true, if_false, true_and, and_true, true_or, or_true, not_false_eq_true, not_true_eq_false, Nat.reduceAdd, Nat.reduceDiv, Nat.reduceMod, Nat.reduceMul, Nat.add_zero, Nat.lt_irrefl, pAdd_0, pK_n, pK_v, fillF_s]
end RUN
