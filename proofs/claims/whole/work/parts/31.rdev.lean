/-! THE REFERENCE'S DEVICE -/
section RUN
variable {X : pScr} {nx : Nat} {ok : Bool} {Q : pRes → Prop} {e1 : rS1} {e2 : rS2} {e3 : rS3} {e4 : rS4} {R : pMem} {M : pMem}
theorem cpy_s {f g : Nat → Int32} {sp dp n : Nat} : upd (va_cpy f g sp dp n) (dp + n) (f (sp + n)) = va_cpy f g sp dp (n + 1) := by
  funext q
  by_cases h : q = dp + n
  · subst h
    rw [pk_us, pk_cpy_in (by omega) (by omega)]
    congr 1
    omega
  · rw [pk_un h]
    unfold va_cpy
    have e : (dp ≤ q ∧ q < dp + n) ↔ (dp ≤ q ∧ q < dp + (n + 1)) := by omega
    simp only [e]
theorem cpy_0 {f g : Nat → Int32} {sp dp : Nat} : va_cpy f g sp dp 0 = g := by
  funext q
  exact pk_cpy_out (by omega)
theorem cpy_s0 {f g : Nat → Int32} {n : Nat} : upd (va_cpy f g 0 0 n) n (f n) = va_cpy f g 0 0 (n + 1) := by
  have h := cpy_s (f := f) (g := g) (sp := 0) (dp := 0) (n := n)
  simpa using h
/-- what has stayed of the late writes, by the mask -/
def lateF (k : Int32) (B D : Nat → Int32) : Nat → (Nat → Int32) → (Nat → Int32)
  | 0, g => g
  | w + 1, g => if ib k (w % 31) = true then va_cpy D (lateF k B D w g) (8 * w) (8 * (B w).toNatClampNeg) 8 else lateF k B D w g
theorem q_rdie_c {n c : Nat} {k : Int32} {z : Value} (hb : c < 48) (hB : e1.2.2.1 n = nI c) (hn : n < 100) : ∀ m i g, i + m = 8 → (pW X 106 23 [.ref 13, .int k, .int (nI n), .int (nI i)] [] (rSW (e1.1, va_cpy e1.2.2.2.1 g (8 * n) (8 * c) i, e1.2.2) e2 e3 e4 R) nx ok Q ↔ pW X 106 62 [.ref 13, .int k, .int (nI n), .int (nI 8)] [] (rSW (e1.1, va_cpy e1.2.2.2.1 g (8 * n) (8 * c) 8, e1.2.2) e2 e3 e4 R) nx ok Q) := by
  intro m
  induction m with
  | zero =>
    intro i g hi
    have e : i = 8 := by omega
    subst e
    rw [w106_23]
    simp (disch := omega) only [w106_24, w106_26, lit_0, lit_1, lit_2, lit_3, lit_4, lit_5, lit_6, lit_7, lit_8, lit_9, lit_10, lit_11, lit_12, lit_13, lit_14, lit_15, lit_16, lit_17, lit_18, lit_19, lit_20, lit_21, lit_22, lit_23, lit_24, lit_25, lit_26, lit_27, lit_28, lit_29, lit_30, lit_31, lit_32, lit_33, lit_34, lit_35, lit_36, lit_37, lit_38, lit_39, lit_40, lit_41, lit_42, lit_43, lit_44, lit_45, lit_46, lit_47, lit_48, lit_49, lit_50, lit_51, lit_52, lit_53, lit_54, lit_55, lit_56, lit_57, lit_58, lit_59, lit_60, lit_61, lit_62, lit_63, lit_64, lit_80, lit_100, lit_524287, lit_262143, lit_384, lit_1001, lit_1002, lit_61267, nI_add, pk_mul, pk_div, nI_rm, pk_sub, Nrm, Nrm8, Nrm4, nI_inT, nI_clamp, nI_ltT, nI_ltF, nI_eqT, nI_eqF, nI_ltI, nI_eq, nI_ushr, m4, m8, if_true, if_false, true_and, and_true, true_or, or_true, not_false_eq_true, not_true_eq_false, Nat.reduceAdd, Nat.reduceDiv, Nat.reduceMod, Nat.reduceMul, Nat.add_zero, Nat.lt_irrefl, pAdd_0, pK_n, pK_v]
  | succ m ih =>
    intro i g hi
    rw [← ih (i + 1) g (by omega), w106_23]
    simp (disch := omega) only [w106_0, w106_1, w106_3, w106_4, w106_7, w106_10, w106_11, w106_12, w106_14, w106_15, w106_16, w106_17, w106_18, w106_21, w106_22, w106_24, w106_26, w106_29, w106_30, w106_33, w106_34, w106_37, w106_38, w106_39, w106_41, w106_42, w106_43, w106_44, w106_45, w106_48, w106_49, w106_51, w106_52, w106_53, w106_54, w106_55, w106_56, w106_59, w106_62, w106_65, w106_68, w106_69, w106_71, w106_74, w106_77, w106_78, w106_81, w106_82, w106_83, w106_86, w106_87, w106_88, w106_89, w106_92, w106_95, w106_96, w106_97, w106_100, w106_101, w106_102, w106_105, w106_106, w106_107, w106_110, w106_111, w106_112, w106_115, rS_i13, rS_g13_0, rS_g13_1, rS_g13_2, rS_g13_3, rS_g13_4, rS_g13_5, rS_g13_6, rS_g13_7, rS_g13_8, rS_g13_9, rS_g13_10, rS_g13_11, rS_p13_11, rS_g13_12, rS_p13_12, rS_g13_13, rS_p13_13, rS_g13_14, rS_p13_14, rS_g13_15, rS_p13_15, rS_g13_16, rS_p13_16, rS_g13_17, rS_p13_17, rS_g13_18, rS_p13_18, rS_g13_19, rS_p13_19, rS_g13_20, rS_p13_20, rS_g13_21, rS_p13_21, rS_g13_22, rS_p13_22, rS_g13_23, rS_p13_23, rS_g13_24, rS_p13_24, rS_g13_25, rS_g13_26, rS_p13_26, rS_a14, rS_u14, rS_l14, rS_a15, rS_u15, rS_l15, rS_a16, rS_u16, rS_l16, rS_a17, rS_u17, rS_l17, rS_a18, rS_u18, rS_l18, rS_a19, rS_u19, rS_l19, rS_a20, rS_u20, rS_a21, rS_u21, rS_a22, rS_u22, rS_a23, rS_u23, rS_l23, rS_a24, rS_u24, rS_a25, rS_u25, rS_l25, hB, lit_0, lit_1, lit_2, lit_3, lit_4, lit_5, lit_6, lit_7, lit_8, lit_9, lit_10, lit_11, lit_12, lit_13, lit_14, lit_15, lit_16, lit_17, lit_18, lit_19, lit_20, lit_21, lit_22, lit_23, lit_24, lit_25, lit_26, lit_27, lit_28, lit_29, lit_30, lit_31, lit_32, lit_33, lit_34, lit_35, lit_36, lit_37, lit_38, lit_39, lit_40, lit_41, lit_42, lit_43, lit_44, lit_45, lit_46, lit_47, lit_48, lit_49, lit_50, lit_51, lit_52, lit_53, lit_54, lit_55, lit_56, lit_57, lit_58, lit_59, lit_60, lit_61, lit_62, lit_63, lit_64, lit_80, lit_100, lit_524287, lit_262143, lit_384, lit_1001, lit_1002, lit_61267, nI_add, pk_mul, pk_div, nI_rm, pk_sub, Nrm, Nrm8, Nrm4, nI_inT, nI_clamp, nI_ltT, nI_ltF, nI_eqT, nI_eqF, nI_ltI, nI_eq, nI_ushr, m4, m8, if_true, if_false, true_and, and_true, true_or, or_true, not_false_eq_true, not_true_eq_false, Nat.reduceAdd, Nat.reduceDiv, Nat.reduceMod, Nat.reduceMul, Nat.add_zero, Nat.lt_irrefl, pAdd_0, pK_n, pK_v, cpy_s]
theorem q_rdie_l {k : Int32} {N : Nat} (hN : N < 100) (hl : e1.2.2.2.2.2.2.2.2.1 = nI N) (hB : ∀ w, w < N → ∃ c, c < 48 ∧ e1.2.2.1 w = nI c) : ∀ m n z, n + m = N → ∃ z', (pW X 106 2 [.ref 13, .int k, .int (nI n), z] [] (rSW (e1.1, lateF k e1.2.2.1 e1.2.2.2.1 n e1.2.1, e1.2.2) e2 e3 e4 R) nx ok Q ↔ pW X 106 68 [.ref 13, .int k, .int (nI N), z'] [] (rSW (e1.1, lateF k e1.2.2.1 e1.2.2.2.1 N e1.2.1, e1.2.2) e2 e3 e4 R) nx ok Q) := by
  intro m
  induction m with
  | zero =>
    intro n z hn
    have e : n = N := by omega
    subst e
    refine ⟨z, ?_⟩
    rw [w106_2]
    simp (disch := omega) only [w106_3, w106_4, w106_7, rS_i13, rS_g13_0, rS_g13_1, rS_g13_2, rS_g13_3, rS_g13_4, rS_g13_5, rS_g13_6, rS_g13_7, rS_g13_8, rS_g13_9, rS_g13_10, rS_g13_11, rS_p13_11, rS_g13_12, rS_p13_12, rS_g13_13, rS_p13_13, rS_g13_14, rS_p13_14, rS_g13_15, rS_p13_15, rS_g13_16, rS_p13_16, rS_g13_17, rS_p13_17, rS_g13_18, rS_p13_18, rS_g13_19, rS_p13_19, rS_g13_20, rS_p13_20, rS_g13_21, rS_p13_21, rS_g13_22, rS_p13_22, rS_g13_23, rS_p13_23, rS_g13_24, rS_p13_24, rS_g13_25, rS_g13_26, rS_p13_26, rS_a14, rS_u14, rS_l14, rS_a15, rS_u15, rS_l15, rS_a16, rS_u16, rS_l16, rS_a17, rS_u17, rS_l17, rS_a18, rS_u18, rS_l18, rS_a19, rS_u19, rS_l19, rS_a20, rS_u20, rS_a21, rS_u21, rS_a22, rS_u22, rS_a23, rS_u23, rS_l23, rS_a24, rS_u24, rS_a25, rS_u25, rS_l25, hl, lit_0, lit_1, lit_2, lit_3, lit_4, lit_5, lit_6, lit_7, lit_8, lit_9, lit_10, lit_11, lit_12, lit_13, lit_14, lit_15, lit_16, lit_17, lit_18, lit_19, lit_20, lit_21, lit_22, lit_23, lit_24, lit_25, lit_26, lit_27, lit_28, lit_29, lit_30, lit_31, lit_32, lit_33, lit_34, lit_35, lit_36, lit_37, lit_38, lit_39, lit_40, lit_41, lit_42, lit_43, lit_44, lit_45, lit_46, lit_47, lit_48, lit_49, lit_50, lit_51, lit_52, lit_53, lit_54, lit_55, lit_56, lit_57, lit_58, lit_59, lit_60, lit_61, lit_62, lit_63, lit_64, lit_80, lit_100, lit_524287, lit_262143, lit_384, lit_1001, lit_1002, lit_61267, nI_add, pk_mul, pk_div, nI_rm, pk_sub, Nrm, Nrm8, Nrm4, nI_inT, nI_clamp, nI_ltT, nI_ltF, nI_eqT, nI_eqF, nI_ltI, nI_eq, nI_ushr, m4, m8, if_true, if_false, true_and, and_true, true_or, or_true, not_false_eq_true, not_true_eq_false, Nat.reduceAdd, Nat.reduceDiv, Nat.reduceMod, Nat.reduceMul, Nat.add_zero, Nat.lt_irrefl, pAdd_0, pK_n, pK_v]
  | succ m ih =>
    intro n z hn
    obtain ⟨c, hc, hBn⟩ := hB n (by omega)
    have n31 : ¬ nI 31 = nI 0 := by decide
    have hb := nI_bit (u := k) (b := n % 31) (by omega)
    by_cases h : ib k (n % 31) = true
    · obtain ⟨z', hz⟩ := ih (n + 1) (.int (nI 8)) (by omega)
      refine ⟨z', ?_⟩
      rw [← hz, w106_2]
      have h0 := q_rdie_c (X := X) (nx := nx) (ok := ok) (Q := Q) (e1 := e1) (e2 := e2) (e3 := e3) (e4 := e4) (R := R) (k := k) (z := z) hc hBn (show n < 100 by omega) 8 0 (lateF k e1.2.2.1 e1.2.2.2.1 n e1.2.1) rfl
      rw [cpy_0] at h0
      simp (disch := omega) only [w106_3, w106_4, w106_7, w106_10, w106_11, w106_12, w106_14, w106_15, w106_16, w106_17, w106_18, w106_21, w106_22, rS_i13, rS_g13_0, rS_g13_1, rS_g13_2, rS_g13_3, rS_g13_4, rS_g13_5, rS_g13_6, rS_g13_7, rS_g13_8, rS_g13_9, rS_g13_10, rS_g13_11, rS_p13_11, rS_g13_12, rS_p13_12, rS_g13_13, rS_p13_13, rS_g13_14, rS_p13_14, rS_g13_15, rS_p13_15, rS_g13_16, rS_p13_16, rS_g13_17, rS_p13_17, rS_g13_18, rS_p13_18, rS_g13_19, rS_p13_19, rS_g13_20, rS_p13_20, rS_g13_21, rS_p13_21, rS_g13_22, rS_p13_22, rS_g13_23, rS_p13_23, rS_g13_24, rS_p13_24, rS_g13_25, rS_g13_26, rS_p13_26, rS_a14, rS_u14, rS_l14, rS_a15, rS_u15, rS_l15, rS_a16, rS_u16, rS_l16, rS_a17, rS_u17, rS_l17, rS_a18, rS_u18, rS_l18, rS_a19, rS_u19, rS_l19, rS_a20, rS_u20, rS_a21, rS_u21, rS_a22, rS_u22, rS_a23, rS_u23, rS_l23, rS_a24, rS_u24, rS_a25, rS_u25, rS_l25, hl, lit_0, lit_1, lit_2, lit_3, lit_4, lit_5, lit_6, lit_7, lit_8, lit_9, lit_10, lit_11, lit_12, lit_13, lit_14, lit_15, lit_16, lit_17, lit_18, lit_19, lit_20, lit_21, lit_22, lit_23, lit_24, lit_25, lit_26, lit_27, lit_28, lit_29, lit_30, lit_31, lit_32, lit_33, lit_34, lit_35, lit_36, lit_37, lit_38, lit_39, lit_40, lit_41, lit_42, lit_43, lit_44, lit_45, lit_46, lit_47, lit_48, lit_49, lit_50, lit_51, lit_52, lit_53, lit_54, lit_55, lit_56, lit_57, lit_58, lit_59, lit_60, lit_61, lit_62, lit_63, lit_64, lit_80, lit_100, lit_524287, lit_262143, lit_384, lit_1001, lit_1002, lit_61267, nI_add, pk_mul, pk_div, nI_rm, pk_sub, Nrm, Nrm8, Nrm4, nI_inT, nI_clamp, nI_ltT, nI_ltF, nI_eqT, nI_eqF, nI_ltI, nI_eq, nI_ushr, m4, m8, if_true, if_false, true_and, and_true, true_or, or_true, not_false_eq_true, not_true_eq_false, Nat.reduceAdd, Nat.reduceDiv, Nat.reduceMod, Nat.reduceMul, Nat.add_zero, Nat.lt_irrefl, pAdd_0, pK_n, pK_v, n31, hb, h, nI_b0, Bool.true_eq_false, h0]
      simp (disch := omega) only [w106_62, w106_65, lit_0, lit_1, lit_2, lit_3, lit_4, lit_5, lit_6, lit_7, lit_8, lit_9, lit_10, lit_11, lit_12, lit_13, lit_14, lit_15, lit_16, lit_17, lit_18, lit_19, lit_20, lit_21, lit_22, lit_23, lit_24, lit_25, lit_26, lit_27, lit_28, lit_29, lit_30, lit_31, lit_32, lit_33, lit_34, lit_35, lit_36, lit_37, lit_38, lit_39, lit_40, lit_41, lit_42, lit_43, lit_44, lit_45, lit_46, lit_47, lit_48, lit_49, lit_50, lit_51, lit_52, lit_53, lit_54, lit_55, lit_56, lit_57, lit_58, lit_59, lit_60, lit_61, lit_62, lit_63, lit_64, lit_80, lit_100, lit_524287, lit_262143, lit_384, lit_1001, lit_1002, lit_61267, nI_add, pk_mul, pk_div, nI_rm, pk_sub, Nrm, Nrm8, Nrm4, nI_inT, nI_clamp, nI_ltT, nI_ltF, nI_eqT, nI_eqF, nI_ltI, nI_eq, nI_ushr, m4, m8, if_true, if_false, true_and, and_true, true_or, or_true, not_false_eq_true, not_true_eq_false, Nat.reduceAdd, Nat.reduceDiv, Nat.reduceMod, Nat.reduceMul, Nat.add_zero, Nat.lt_irrefl, pAdd_0, pK_n, pK_v, lateF, h, hBn]
    · obtain ⟨z', hz⟩ := ih (n + 1) z (by omega)
      refine ⟨z', ?_⟩
      rw [← hz, w106_2]
      have hf : ib k (n % 31) = false := by simpa using h
      simp (disch := omega) only [w106_3, w106_4, w106_7, w106_10, w106_11, w106_12, w106_14, w106_15, w106_16, w106_17, w106_18, w106_62, w106_65, rS_i13, rS_g13_0, rS_g13_1, rS_g13_2, rS_g13_3, rS_g13_4, rS_g13_5, rS_g13_6, rS_g13_7, rS_g13_8, rS_g13_9, rS_g13_10, rS_g13_11, rS_p13_11, rS_g13_12, rS_p13_12, rS_g13_13, rS_p13_13, rS_g13_14, rS_p13_14, rS_g13_15, rS_p13_15, rS_g13_16, rS_p13_16, rS_g13_17, rS_p13_17, rS_g13_18, rS_p13_18, rS_g13_19, rS_p13_19, rS_g13_20, rS_p13_20, rS_g13_21, rS_p13_21, rS_g13_22, rS_p13_22, rS_g13_23, rS_p13_23, rS_g13_24, rS_p13_24, rS_g13_25, rS_g13_26, rS_p13_26, rS_a14, rS_u14, rS_l14, rS_a15, rS_u15, rS_l15, rS_a16, rS_u16, rS_l16, rS_a17, rS_u17, rS_l17, rS_a18, rS_u18, rS_l18, rS_a19, rS_u19, rS_l19, rS_a20, rS_u20, rS_a21, rS_u21, rS_a22, rS_u22, rS_a23, rS_u23, rS_l23, rS_a24, rS_u24, rS_a25, rS_u25, rS_l25, hl, lit_0, lit_1, lit_2, lit_3, lit_4, lit_5, lit_6, lit_7, lit_8, lit_9, lit_10, lit_11, lit_12, lit_13, lit_14, lit_15, lit_16, lit_17, lit_18, lit_19, lit_20, lit_21, lit_22, lit_23, lit_24, lit_25, lit_26, lit_27, lit_28, lit_29, lit_30, lit_31, lit_32, lit_33, lit_34, lit_35, lit_36, lit_37, lit_38, lit_39, lit_40, lit_41, lit_42, lit_43, lit_44, lit_45, lit_46, lit_47, lit_48, lit_49, lit_50, lit_51, lit_52, lit_53, lit_54, lit_55, lit_56, lit_57, lit_58, lit_59, lit_60, lit_61, lit_62, lit_63, lit_64, lit_80, lit_100, lit_524287, lit_262143, lit_384, lit_1001, lit_1002, lit_61267, nI_add, pk_mul, pk_div, nI_rm, pk_sub, Nrm, Nrm8, Nrm4, nI_inT, nI_clamp, nI_ltT, nI_ltF, nI_eqT, nI_eqF, nI_ltI, nI_eq, nI_ushr, m4, m8, if_true, if_false, true_and, and_true, true_or, or_true, not_false_eq_true, not_true_eq_false, Nat.reduceAdd, Nat.reduceDiv, Nat.reduceMod, Nat.reduceMul, Nat.add_zero, Nat.lt_irrefl, pAdd_0, pK_n, pK_v, n31, hb, hf, nI_b0, lateF, Bool.false_eq_true]
end RUN
