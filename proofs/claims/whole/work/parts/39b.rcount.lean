section RUN
variable {X : pScr} {nx : Nat} {ok : Bool} {Q : pRes → Prop} {e1 : rS1} {e2 : rS2} {e3 : rS3} {e4 : rS4} {R : pMem} {M : pMem}
def rcnt (w : Int32) (m : Nat) (e1 : rS1) (e2 : rS2) (e3 : rS3) : Int32 :=
  if w = nI 0 then nI m else if w = nI 1 then e1.2.2.2.2.2.2.2.2.2.1 else if w = nI 2 then e1.2.2.2.2.2.2.1 else if w = nI 3 then e1.2.2.2.2.2.2.2.2.2.2 else if w = nI 4 then e3.2.2.1 else if w = nI 5 then nI (cntF (mb e2.2.1) 48 0 0) else if w = nI 6 then nI (cntF (mb e2.2.2.1) 48 0 0) else if w = nI 7 then nI 8 - e3.2.2.2.2.1 else if w = nI 8 then nI (freeN e2.1 e2.2.2.2.1) else if w = nI 9 then nI (freeI e2.1) else if w = nI 10 then e3.2.2.2.2.2.1 else if w = nI 11 then e3.2.2.2.2.2.2.1 else -nI 1
def rcount (w : Int32) (m : Nat) (e1 : rS1) (e2 : rS2) (e3 : rS3) : Int32 := if (¬ w < nI 4 ∧ ¬ nI 9 < w) ∧ m = 0 then nI 0 else rcnt w m e1 e2 e3
theorem ite_push {c : Prop} [Decidable c] {f : Int32 → Prop} {a b : Int32} : (if c then f a else f b) ↔ f (if c then a else b) := by
  by_cases h : c
  · rw [if_pos h, if_pos h]
  · rw [if_neg h, if_neg h]
theorem q_rcount {w : Int32} {m : Nat} (hm : e1.2.2.2.2.1 = nI m) (hm2 : m < 2) : pW X 167 0 [.ref 13, .int w] [] (rSW e1 e2 e3 e4 R) nx ok Q ↔ Q (.inl (some (.int (rcount w m e1 e2 e3))), rSW e1 e2 e3 (e4.1, e4.2.1, nI 0) R, nx, ok, 0, 0) := by
  have ev : (e1.2.2.2.2.1 = nI 0) ↔ m = 0 := by rw [hm]; exact nI_eq (by omega) (by omega)
  have tail : pW X 167 25 [.ref 13, .int w] [] (rSW e1 e2 e3 (e4.1, e4.2.1, nI 0) R) nx ok Q ↔ Q (.inl (some (.int (rcnt w m e1 e2 e3))), rSW e1 e2 e3 (e4.1, e4.2.1, nI 0) R, nx, ok, 0, 0) := by
    unfold rcnt
    have e0 : (if m = 0 then Q (.inl (some (.int (nI 0))), rSW e1 e2 e3 (e4.1, e4.2.1, nI 0) R, nx, ok, 0, 0) else Q (.inl (some (.int (nI 1))), rSW e1 e2 e3 (e4.1, e4.2.1, nI 0) R, nx, ok, 0, 0)) ↔ Q (.inl (some (.int (nI m))), rSW e1 e2 e3 (e4.1, e4.2.1, nI 0) R, nx, ok, 0, 0) := by
      by_cases h : m = 0
      · rw [if_pos h, h]
      · have h1 : m = 1 := by omega
        rw [if_neg h, h1]
    simp (maxSteps := 3000000) (disch := omega) only [w167_0, w167_1, w167_2, w167_5, w167_6, w167_7, w167_10, w167_11, w167_13, w167_16, w167_17, w167_20, w167_23, w167_24, w167_25, w167_26, w167_88, w167_89, w167_92, w167_95, w167_96, w167_99, w167_100, w167_101, w167_102, w167_105, w167_106, w167_107, w167_110, w167_111, w167_112, w167_115, w167_116, w167_117, w167_120, w167_121, w167_122, w167_125, w167_126, w167_127, w167_130, w167_131, w167_133, w167_134, w167_137, w167_138, w167_139, w167_140, w167_143, w167_144, w167_145, w167_148, w167_149, w167_150, w167_153, w167_154, w167_155, w167_158, w167_159, w167_160, rS_i13, rS_g13_0, rS_g13_1, rS_g13_2, rS_g13_3, rS_g13_4, rS_g13_5, rS_g13_6, rS_g13_7, rS_g13_8, rS_g13_9, rS_g13_10, rS_g13_11, rS_p13_11, rS_g13_12, rS_p13_12, rS_g13_13, rS_p13_13, rS_g13_14, rS_p13_14, rS_g13_15, rS_p13_15, rS_g13_16, rS_p13_16, rS_g13_17, rS_p13_17, rS_g13_18, rS_p13_18, rS_g13_19, rS_p13_19, rS_g13_20, rS_p13_20, rS_g13_21, rS_p13_21, rS_g13_22, rS_p13_22, rS_g13_23, rS_p13_23, rS_g13_24, rS_p13_24, rS_g13_25, rS_g13_26, rS_p13_26, rS_a14, rS_u14, rS_l14, rS_a15, rS_u15, rS_l15, rS_a16, rS_u16, rS_l16, rS_a17, rS_u17, rS_l17, rS_a18, rS_u18, rS_l18, rS_a19, rS_u19, rS_l19, rS_a20, rS_u20, rS_a21, rS_u21, rS_a22, rS_u22, rS_a23, rS_u23, rS_l23, rS_a24, rS_u24, rS_a25, rS_u25, rS_l25, lit_0, lit_1, lit_2, lit_3, lit_4, lit_5, lit_6, lit_7, lit_8, lit_9, lit_10, lit_11, lit_12, lit_13, lit_14, lit_15, lit_16, lit_17, lit_18, lit_19, lit_20, lit_21, lit_22, lit_23, lit_24, lit_25, lit_26, lit_27, lit_28, lit_29, lit_30, lit_31, lit_32, lit_33, lit_34, lit_35, lit_36, lit_37, lit_38, lit_39, lit_40, lit_41, lit_42, lit_43, lit_44, lit_45, lit_46, lit_47, lit_48, lit_49, lit_50, lit_51, lit_52, lit_53, lit_54, lit_55, lit_56, lit_57, lit_58, lit_59, lit_60, lit_61, lit_62, lit_63, lit_64, lit_80, lit_100, lit_524287, lit_262143, lit_384, lit_1001, lit_1002, lit_61267, nI_add, pk_mul, pk_div, nI_rm, pk_sub, Nrm, Nrm8, Nrm4, nI_inT, nI_clamp, nI_ltT, nI_ltF, nI_eqT, nI_eqF, nI_ltI, nI_eq, nI_ushr, m4, m8, if_true, if_false, true_and, and_true, true_or, or_true, not_false_eq_true, not_true_eq_false, Nat.reduceAdd, Nat.reduceDiv, Nat.reduceMod, Nat.reduceMul, Nat.add_zero, Nat.lt_irrefl, pAdd_0, pK_n, pK_v, ev, e0, q_rinChange, q_rinLoose, q_rfb, q_rfi]
    by_cases a0 : w = nI 0
    · rw [if_pos a0, if_pos a0]
    rw [if_neg a0, if_neg a0]
    by_cases a1 : w = nI 1
    · rw [if_pos a1, if_pos a1]
    rw [if_neg a1, if_neg a1]
    by_cases a2 : w = nI 2
    · rw [if_pos a2, if_pos a2]
    rw [if_neg a2, if_neg a2]
    by_cases a3 : w = nI 3
    · rw [if_pos a3, if_pos a3]
    rw [if_neg a3, if_neg a3]
    by_cases a4 : w = nI 4
    · rw [if_pos a4, if_pos a4]
    rw [if_neg a4, if_neg a4]
    by_cases a5 : w = nI 5
    · rw [if_pos a5, if_pos a5]
    rw [if_neg a5, if_neg a5]
    by_cases a6 : w = nI 6
    · rw [if_pos a6, if_pos a6]
    rw [if_neg a6, if_neg a6]
    by_cases a7 : w = nI 7
    · rw [if_pos a7, if_pos a7]
    rw [if_neg a7, if_neg a7]
    by_cases a8 : w = nI 8
    · rw [if_pos a8, if_pos a8]
    rw [if_neg a8, if_neg a8]
    by_cases a9 : w = nI 9
    · rw [if_pos a9, if_pos a9]
    rw [if_neg a9, if_neg a9]
    by_cases a10 : w = nI 10
    · rw [if_pos a10, if_pos a10]
    rw [if_neg a10, if_neg a10]
    by_cases a11 : w = nI 11
    · rw [if_pos a11, if_pos a11]
    rw [if_neg a11, if_neg a11]
  unfold rcount
  by_cases b1 : w < nI 4
  · have c : ¬ ((¬ w < nI 4 ∧ ¬ nI 9 < w) ∧ m = 0) := fun q => q.1.1 b1
    rw [if_neg c, ← tail]
    simp (disch := omega) only [w167_0, w167_1, w167_2, w167_5, w167_6, w167_7, w167_10, w167_11, w167_13, w167_16, w167_17, w167_20, w167_23, w167_24, rS_i13, rS_g13_0, rS_g13_1, rS_g13_2, rS_g13_3, rS_g13_4, rS_g13_5, rS_g13_6, rS_g13_7, rS_g13_8, rS_g13_9, rS_g13_10, rS_g13_11, rS_p13_11, rS_g13_12, rS_p13_12, rS_g13_13, rS_p13_13, rS_g13_14, rS_p13_14, rS_g13_15, rS_p13_15, rS_g13_16, rS_p13_16, rS_g13_17, rS_p13_17, rS_g13_18, rS_p13_18, rS_g13_19, rS_p13_19, rS_g13_20, rS_p13_20, rS_g13_21, rS_p13_21, rS_g13_22, rS_p13_22, rS_g13_23, rS_p13_23, rS_g13_24, rS_p13_24, rS_g13_25, rS_g13_26, rS_p13_26, rS_a14, rS_u14, rS_l14, rS_a15, rS_u15, rS_l15, rS_a16, rS_u16, rS_l16, rS_a17, rS_u17, rS_l17, rS_a18, rS_u18, rS_l18, rS_a19, rS_u19, rS_l19, rS_a20, rS_u20, rS_a21, rS_u21, rS_a22, rS_u22, rS_a23, rS_u23, rS_l23, rS_a24, rS_u24, rS_a25, rS_u25, rS_l25, lit_0, lit_1, lit_2, lit_3, lit_4, lit_5, lit_6, lit_7, lit_8, lit_9, lit_10, lit_11, lit_12, lit_13, lit_14, lit_15, lit_16, lit_17, lit_18, lit_19, lit_20, lit_21, lit_22, lit_23, lit_24, lit_25, lit_26, lit_27, lit_28, lit_29, lit_30, lit_31, lit_32, lit_33, lit_34, lit_35, lit_36, lit_37, lit_38, lit_39, lit_40, lit_41, lit_42, lit_43, lit_44, lit_45, lit_46, lit_47, lit_48, lit_49, lit_50, lit_51, lit_52, lit_53, lit_54, lit_55, lit_56, lit_57, lit_58, lit_59, lit_60, lit_61, lit_62, lit_63, lit_64, lit_80, lit_100, lit_524287, lit_262143, lit_384, lit_1001, lit_1002, lit_61267, nI_add, pk_mul, pk_div, nI_rm, pk_sub, Nrm, Nrm8, Nrm4, nI_inT, nI_clamp, nI_ltT, nI_ltF, nI_eqT, nI_eqF, nI_ltI, nI_eq, nI_ushr, m4, m8, if_true, if_false, true_and, and_true, true_or, or_true, not_false_eq_true, not_true_eq_false, Nat.reduceAdd, Nat.reduceDiv, Nat.reduceMod, Nat.reduceMul, Nat.add_zero, Nat.lt_irrefl, pAdd_0, pK_n, pK_v, b1]
  · by_cases b2 : nI 9 < w
    · have c : ¬ ((¬ w < nI 4 ∧ ¬ nI 9 < w) ∧ m = 0) := fun q => q.1.2 b2
      rw [if_neg c, ← tail]
      simp (disch := omega) only [w167_0, w167_1, w167_2, w167_5, w167_6, w167_7, w167_10, w167_11, w167_13, w167_16, w167_17, w167_20, w167_23, w167_24, rS_i13, rS_g13_0, rS_g13_1, rS_g13_2, rS_g13_3, rS_g13_4, rS_g13_5, rS_g13_6, rS_g13_7, rS_g13_8, rS_g13_9, rS_g13_10, rS_g13_11, rS_p13_11, rS_g13_12, rS_p13_12, rS_g13_13, rS_p13_13, rS_g13_14, rS_p13_14, rS_g13_15, rS_p13_15, rS_g13_16, rS_p13_16, rS_g13_17, rS_p13_17, rS_g13_18, rS_p13_18, rS_g13_19, rS_p13_19, rS_g13_20, rS_p13_20, rS_g13_21, rS_p13_21, rS_g13_22, rS_p13_22, rS_g13_23, rS_p13_23, rS_g13_24, rS_p13_24, rS_g13_25, rS_g13_26, rS_p13_26, rS_a14, rS_u14, rS_l14, rS_a15, rS_u15, rS_l15, rS_a16, rS_u16, rS_l16, rS_a17, rS_u17, rS_l17, rS_a18, rS_u18, rS_l18, rS_a19, rS_u19, rS_l19, rS_a20, rS_u20, rS_a21, rS_u21, rS_a22, rS_u22, rS_a23, rS_u23, rS_l23, rS_a24, rS_u24, rS_a25, rS_u25, rS_l25, lit_0, lit_1, lit_2, lit_3, lit_4, lit_5, lit_6, lit_7, lit_8, lit_9, lit_10, lit_11, lit_12, lit_13, lit_14, lit_15, lit_16, lit_17, lit_18, lit_19, lit_20, lit_21, lit_22, lit_23, lit_24, lit_25, lit_26, lit_27, lit_28, lit_29, lit_30, lit_31, lit_32, lit_33, lit_34, lit_35, lit_36, lit_37, lit_38, lit_39, lit_40, lit_41, lit_42, lit_43, lit_44, lit_45, lit_46, lit_47, lit_48, lit_49, lit_50, lit_51, lit_52, lit_53, lit_54, lit_55, lit_56, lit_57, lit_58, lit_59, lit_60, lit_61, lit_62, lit_63, lit_64, lit_80, lit_100, lit_524287, lit_262143, lit_384, lit_1001, lit_1002, lit_61267, nI_add, pk_mul, pk_div, nI_rm, pk_sub, Nrm, Nrm8, Nrm4, nI_inT, nI_clamp, nI_ltT, nI_ltF, nI_eqT, nI_eqF, nI_ltI, nI_eq, nI_ushr, m4, m8, if_true, if_false, true_and, and_true, true_or, or_true, not_false_eq_true, not_true_eq_false, Nat.reduceAdd, Nat.reduceDiv, Nat.reduceMod, Nat.reduceMul, Nat.add_zero, Nat.lt_irrefl, pAdd_0, pK_n, pK_v, b1, b2]
    · by_cases b3 : m = 0
      · rw [if_pos ⟨⟨b1, b2⟩, b3⟩]
        simp (disch := omega) only [w167_0, w167_1, w167_2, w167_5, w167_6, w167_7, w167_10, w167_11, w167_13, w167_16, w167_17, w167_20, w167_23, w167_24, rS_i13, rS_g13_0, rS_g13_1, rS_g13_2, rS_g13_3, rS_g13_4, rS_g13_5, rS_g13_6, rS_g13_7, rS_g13_8, rS_g13_9, rS_g13_10, rS_g13_11, rS_p13_11, rS_g13_12, rS_p13_12, rS_g13_13, rS_p13_13, rS_g13_14, rS_p13_14, rS_g13_15, rS_p13_15, rS_g13_16, rS_p13_16, rS_g13_17, rS_p13_17, rS_g13_18, rS_p13_18, rS_g13_19, rS_p13_19, rS_g13_20, rS_p13_20, rS_g13_21, rS_p13_21, rS_g13_22, rS_p13_22, rS_g13_23, rS_p13_23, rS_g13_24, rS_p13_24, rS_g13_25, rS_g13_26, rS_p13_26, rS_a14, rS_u14, rS_l14, rS_a15, rS_u15, rS_l15, rS_a16, rS_u16, rS_l16, rS_a17, rS_u17, rS_l17, rS_a18, rS_u18, rS_l18, rS_a19, rS_u19, rS_l19, rS_a20, rS_u20, rS_a21, rS_u21, rS_a22, rS_u22, rS_a23, rS_u23, rS_l23, rS_a24, rS_u24, rS_a25, rS_u25, rS_l25, lit_0, lit_1, lit_2, lit_3, lit_4, lit_5, lit_6, lit_7, lit_8, lit_9, lit_10, lit_11, lit_12, lit_13, lit_14, lit_15, lit_16, lit_17, lit_18, lit_19, lit_20, lit_21, lit_22, lit_23, lit_24, lit_25, lit_26, lit_27, lit_28, lit_29, lit_30, lit_31, lit_32, lit_33, lit_34, lit_35, lit_36, lit_37, lit_38, lit_39, lit_40, lit_41, lit_42, lit_43, lit_44, lit_45, lit_46, lit_47, lit_48, lit_49, lit_50, lit_51, lit_52, lit_53, lit_54, lit_55, lit_56, lit_57, lit_58, lit_59, lit_60, lit_61, lit_62, lit_63, lit_64, lit_80, lit_100, lit_524287, lit_262143, lit_384, lit_1001, lit_1002, lit_61267, nI_add, pk_mul, pk_div, nI_rm, pk_sub, Nrm, Nrm8, Nrm4, nI_inT, nI_clamp, nI_ltT, nI_ltF, nI_eqT, nI_eqF, nI_ltI, nI_eq, nI_ushr, m4, m8, if_true, if_false, true_and, and_true, true_or, or_true, not_false_eq_true, not_true_eq_false, Nat.reduceAdd, Nat.reduceDiv, Nat.reduceMod, Nat.reduceMul, Nat.add_zero, Nat.lt_irrefl, pAdd_0, pK_n, pK_v, b1, b2, ev, b3]
      · have c : ¬ ((¬ w < nI 4 ∧ ¬ nI 9 < w) ∧ m = 0) := fun q => b3 q.2
        rw [if_neg c, ← tail]
        simp (disch := omega) only [w167_0, w167_1, w167_2, w167_5, w167_6, w167_7, w167_10, w167_11, w167_13, w167_16, w167_17, w167_20, w167_23, w167_24, rS_i13, rS_g13_0, rS_g13_1, rS_g13_2, rS_g13_3, rS_g13_4, rS_g13_5, rS_g13_6, rS_g13_7, rS_g13_8, rS_g13_9, rS_g13_10, rS_g13_11, rS_p13_11, rS_g13_12, rS_p13_12, rS_g13_13, rS_p13_13, rS_g13_14, rS_p13_14, rS_g13_15, rS_p13_15, rS_g13_16, rS_p13_16, rS_g13_17, rS_p13_17, rS_g13_18, rS_p13_18, rS_g13_19, rS_p13_19, rS_g13_20, rS_p13_20, rS_g13_21, rS_p13_21, rS_g13_22, rS_p13_22, rS_g13_23, rS_p13_23, rS_g13_24, rS_p13_24, rS_g13_25, rS_g13_26, rS_p13_26, rS_a14, rS_u14, rS_l14, rS_a15, rS_u15, rS_l15, rS_a16, rS_u16, rS_l16, rS_a17, rS_u17, rS_l17, rS_a18, rS_u18, rS_l18, rS_a19, rS_u19, rS_l19, rS_a20, rS_u20, rS_a21, rS_u21, rS_a22, rS_u22, rS_a23, rS_u23, rS_l23, rS_a24, rS_u24, rS_a25, rS_u25, rS_l25, lit_0, lit_1, lit_2, lit_3, lit_4, lit_5, lit_6, lit_7, lit_8, lit_9, lit_10, lit_11, lit_12, lit_13, lit_14, lit_15, lit_16, lit_17, lit_18, lit_19, lit_20, lit_21, lit_22, lit_23, lit_24, lit_25, lit_26, lit_27, lit_28, lit_29, lit_30, lit_31, lit_32, lit_33, lit_34, lit_35, lit_36, lit_37, lit_38, lit_39, lit_40, lit_41, lit_42, lit_43, lit_44, lit_45, lit_46, lit_47, lit_48, lit_49, lit_50, lit_51, lit_52, lit_53, lit_54, lit_55, lit_56, lit_57, lit_58, lit_59, lit_60, lit_61, lit_62, lit_63, lit_64, lit_80, lit_100, lit_524287, lit_262143, lit_384, lit_1001, lit_1002, lit_61267, nI_add, pk_mul, pk_div, nI_rm, pk_sub, Nrm, Nrm8, Nrm4, nI_inT, nI_clamp, nI_ltT, nI_ltF, nI_eqT, nI_eqF, nI_ltI, nI_eq, nI_ushr, m4, m8, if_true, if_false, true_and, and_true, true_or, or_true, not_false_eq_true, not_true_eq_false, Nat.reduceAdd, Nat.reduceDiv, Nat.reduceMod, Nat.reduceMul, Nat.add_zero, Nat.lt_irrefl, pAdd_0, pK_n, pK_v, b1, b2, ev, b3]
end RUN
