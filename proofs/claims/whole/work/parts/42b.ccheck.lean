/-- the q-th number in order -/
def nio (f : Nat → Int32) (q : Nat) : Int32 := f (16 + 4 * (1 + q / 2) + 2 + q % 2)
/-- of the m numbers from r on, one is v -/
def anQ (f : Nat → Int32) (v : Int32) : Nat → Nat → Bool
  | 0, _ => false
  | m + 1, r => decide (nio f r = v) || anQ f v m (r + 1)
theorem anQ_s {f : Nat → Int32} {v : Int32} {m r : Nat} : anQ f v (m + 1) r = (decide (nio f r = v) || anQ f v m (r + 1)) := rfl
def repQ (f : Nat → Int32) (q : Nat) : Bool := !decide (nio f q = nI 0) && anQ f (nio f q) q 0
theorem anQ_iff {f : Nat → Int32} {v : Int32} : ∀ m r, (anQ f v m r = true) ↔ ∃ s, r ≤ s ∧ s < r + m ∧ nio f s = v := by
  intro m
  induction m with
  | zero =>
    intro r
    constructor
    · intro h
      cases h
    · rintro ⟨s, h1, h2, -⟩
      omega
  | succ m ih =>
    intro r
    rw [anQ_s, Bool.or_eq_true, decide_eq_true_eq, ih (r + 1)]
    constructor
    · rintro (h | ⟨s, h1, h2, h3⟩)
      · exact ⟨r, Nat.le_refl r, by omega, h⟩
      · exact ⟨s, by omega, by omega, h3⟩
    · rintro ⟨s, h1, h2, h3⟩
      by_cases e : s = r
      · subst e
        exact Or.inl h3
      · exact Or.inr ⟨s, by omega, by omega, h3⟩
theorem bfF_iff {f : Nat → Int32} {i k : Nat} : ∀ m j, (bfF f i k m j = true) ↔ ∃ t l, j ≤ t ∧ t < j + m ∧ 2 ≤ l ∧ l < 4 ∧ (t < i ∨ l < k) ∧ f (16 + 4 * t + l) = f (16 + 4 * i + k) := by
  intro m
  induction m with
  | zero =>
    intro j
    constructor
    · intro h
      cases h
    · rintro ⟨t, l, h1, h2, -⟩
      omega
  | succ m ih =>
    intro j
    rw [bfF_s, Bool.or_eq_true, Bool.or_eq_true, ih (j + 1)]
    simp only [Bool.and_eq_true, Bool.or_eq_true, decide_eq_true_eq]
    constructor
    · rintro (⟨h1, h2⟩ | ⟨h1, h2⟩ | ⟨t, l, a, b, c, d, e, g⟩)
      · exact ⟨j, 2, Nat.le_refl j, by omega, by omega, by omega, h1, h2⟩
      · exact ⟨j, 3, Nat.le_refl j, by omega, by omega, by omega, h1, h2⟩
      · exact ⟨t, l, by omega, by omega, c, d, e, g⟩
    · rintro ⟨t, l, a, b, c, d, e, g⟩
      by_cases ht : t = j
      · subst ht
        have hl : l = 2 ∨ l = 3 := by omega
        rcases hl with rfl | rfl
        · exact Or.inl ⟨e, g⟩
        · exact Or.inr (Or.inl ⟨e, g⟩)
      · exact Or.inr (Or.inr ⟨t, l, by omega, by omega, c, d, e, g⟩)
theorem nio_e {f : Nat → Int32} {i k : Nat} (hi : 1 ≤ i) (hk : k < 2) : nio f (2 * (i - 1) + k) = f (16 + 4 * i + (2 + k)) := by
  unfold nio
  congr 1
  omega
theorem rep_q {f : Nat → Int32} {i k : Nat} (hi : 1 ≤ i) (hk : k < 2) : repQ f (2 * (i - 1) + k) = repB f i (2 + k) := by
  unfold repQ repB
  rw [nio_e hi hk]
  congr 1
  rw [Bool.eq_iff_iff, anQ_iff, bfF_iff]
  constructor
  · rintro ⟨s, -, h2, h3⟩
    refine ⟨1 + s / 2, 2 + s % 2, by omega, by omega, by omega, by omega, by omega, ?_⟩
    rw [← h3]
    unfold nio
    congr 1
    omega
  · rintro ⟨t, l, h1, h2, h3, h4, h5, h6⟩
    refine ⟨2 * (t - 1) + (l - 2), Nat.zero_le _, by omega, ?_⟩
    rw [← h6, nio_e h1 (by omega)]
    congr 1
    omega
theorem p1_sum {f : Nat → Int32} : ∀ m i c, 1 ≤ i → f1F f m i c + 0 = c + (cntF (wrongB f) m i 0 + cntF (repQ f) (2 * m) (2 * (i - 1)) 0) := by
  have sh : ∀ (P : Nat → Bool) m k c, cntF P m k c = c + cntF P m k 0 := by
    intro P m
    induction m with
    | zero => intro k c; rfl
    | succ m ih =>
      intro k c
      show cntF P m (k + 1) (if P k = true then c + 1 else c) = c + cntF P m (k + 1) (if P k = true then 0 + 1 else 0)
      rw [ih (k + 1) (if P k = true then c + 1 else c), ih (k + 1) (if P k = true then 0 + 1 else 0)]
      split <;> omega
  have one : ∀ (P : Nat → Bool) m k, cntF P (m + 1) k 0 = b2n (P k) + cntF P m (k + 1) 0 := by
    intro P m k
    show cntF P m (k + 1) (if P k = true then 0 + 1 else 0) = _
    rw [sh P m (k + 1) (if P k = true then 0 + 1 else 0)]
    rfl
  intro m
  induction m with
  | zero => intro i c hi; rfl
  | succ m ih =>
    intro i c hi
    have h := ih (i + 1) (c + b2n (wrongB f i) + b2n (repB f i 2) + b2n (repB f i 3)) (by omega)
    have e1 : f1F f (m + 1) i c = f1F f m (i + 1) (c + b2n (wrongB f i) + b2n (repB f i 2) + b2n (repB f i 3)) := rfl
    have e2 : 2 * (m + 1) = 2 * m + 1 + 1 := by omega
    have e3 : 2 * (i + 1 - 1) = 2 * (i - 1) + 1 + 1 := by omega
    have r2 := rep_q (f := f) (i := i) (k := 0) hi (by omega)
    have r3 := rep_q (f := f) (i := i) (k := 1) hi (by omega)
    rw [e1, h, e2, one, one, one, e3, ← r2, ← r3]
    simp only [Nat.add_zero]
    omega
section RUN
variable {X : pScr} {nx : Nat} {ok : Bool} {Q : pRes → Prop} {d1 : cS1} {d4 : cS4} {d6 : cS6} {d9 : cS9} {R : pMem} {M : pMem}
theorem q_bad_l : ∀ m i c, i + m = 16 → c ≤ i → (pW X 36 4 [.ref 2, .int (nI c), .int (nI i)] [] (cSW d1 d4 d6 d9 R) nx ok Q ↔ Q (.inl (some (.int (nI (cntF (wrongB d1.1) m i c)))), cSW d1 d4 d6 d9 R, nx, ok, 0, 0)) := by
  intro m
  induction m with
  | zero =>
    intro i c hi hc
    have e : i = 16 := by omega
    subst e
    rw [w36_4]
    simp (disch := omega) only [w36_0, w36_1, w36_2, w36_3, w36_5, w36_7, w36_10, w36_11, w36_12, w36_15, w36_18, w36_21, w36_24, w36_27, w36_28, lit_0, lit_1, lit_2, lit_3, lit_4, lit_5, lit_6, lit_7, lit_8, lit_9, lit_10, lit_11, lit_12, lit_13, lit_14, lit_15, lit_16, lit_17, lit_18, lit_19, lit_20, lit_21, lit_22, lit_23, lit_24, lit_25, lit_26, lit_27, lit_28, lit_29, lit_30, lit_31, lit_32, lit_33, lit_34, lit_35, lit_36, lit_37, lit_38, lit_39, lit_40, lit_41, lit_42, lit_43, lit_44, lit_45, lit_46, lit_47, lit_48, lit_49, lit_50, lit_51, lit_52, lit_53, lit_54, lit_55, lit_56, lit_57, lit_58, lit_59, lit_60, lit_61, lit_62, lit_63, lit_64, lit_80, lit_100, lit_524287, lit_262143, lit_384, lit_1001, lit_1002, lit_61267, nI_add, pk_mul, pk_div, nI_rm, pk_sub, Nrm, Nrm8, Nrm4, nI_inT, nI_clamp, nI_ltT, nI_ltF, nI_eqT, nI_eqF, nI_ltI, nI_eq, nI_ushr, m4, m8, if_true, if_false, true_and, and_true, true_or, or_true, not_false_eq_true, not_true_eq_false, Nat.reduceAdd, Nat.reduceDiv, Nat.reduceMod, Nat.reduceMul, Nat.add_zero, Nat.lt_irrefl, pAdd_0, pK_n, pK_v, cntF]
  | succ m ih =>
    intro i c hi hc
    have ec : cntF (wrongB d1.1) (m + 1) i c = cntF (wrongB d1.1) m (i + 1) (if wrongB d1.1 i = true then c + 1 else c) := rfl
    rw [w36_4, ec]
    by_cases h : wrongB d1.1 i = true
    · have h9 := ih (i + 1) (c + 1) (by omega) (by omega)
      simp (disch := omega) only [w36_0, w36_1, w36_2, w36_3, w36_5, w36_7, w36_10, w36_11, w36_12, w36_15, w36_18, w36_21, w36_24, w36_27, w36_28, cS_i0, cS_g0_0, cS_g0_1, cS_g0_2, cS_g0_3, cS_i1, cS_g1_0, cS_g1_1, cS_g1_2, cS_p1_2, cS_g1_3, cS_p1_3, cS_g1_4, cS_p1_4, cS_g1_5, cS_p1_5, cS_g1_6, cS_p1_6, cS_g1_7, cS_p1_7, cS_a2, cS_u2, cS_l2, cS_c2_2, cS_c2_3, cS_c2_5, cS_c2_7, cS_c2_8, cS_c2_10, cS_c2_11, cS_c2_12, cS_a3, cS_u3, cS_l3, cS_c3_2, cS_c3_3, cS_c3_5, cS_c3_7, cS_c3_8, cS_c3_10, cS_c3_11, cS_c3_12, cS_i4, cS_g4_0, cS_g4_1, cS_p4_1, cS_g4_2, cS_p4_2, cS_g4_3, cS_p4_3, cS_g4_4, cS_p4_4, cS_a5, cS_u5, cS_l5, cS_c5_2, cS_c5_3, cS_c5_5, cS_c5_7, cS_c5_8, cS_c5_10, cS_c5_11, cS_c5_12, cS_i6, cS_g6_0, cS_g6_1, cS_g6_2, cS_g6_3, cS_g6_4, cS_p6_4, cS_g6_5, cS_p6_5, cS_g6_6, cS_p6_6, cS_g6_7, cS_p6_7, cS_g6_8, cS_p6_8, cS_g6_9, cS_p6_9, cS_a7, cS_u7, cS_l7, cS_c7_2, cS_c7_3, cS_c7_5, cS_c7_7, cS_c7_8, cS_c7_10, cS_c7_11, cS_c7_12, cS_a8, cS_u8, cS_l8, cS_c8_2, cS_c8_3, cS_c8_5, cS_c8_7, cS_c8_8, cS_c8_10, cS_c8_11, cS_c8_12, cS_i9, cS_g9_0, cS_g9_1, cS_g9_2, cS_a10, cS_u10, cS_l10, cS_c10_2, cS_c10_3, cS_c10_5, cS_c10_7, cS_c10_8, cS_c10_10, cS_c10_11, cS_c10_12, cS_a11, cS_u11, cS_l11, cS_c11_2, cS_c11_3, cS_c11_5, cS_c11_7, cS_c11_8, cS_c11_10, cS_c11_11, cS_c11_12, cS_a12, cS_u12, cS_l12, cS_c12_2, cS_c12_3, cS_c12_5, cS_c12_7, cS_c12_8, cS_c12_10, cS_c12_11, cS_c12_12, lit_0, lit_1, lit_2, lit_3, lit_4, lit_5, lit_6, lit_7, lit_8, lit_9, lit_10, lit_11, lit_12, lit_13, lit_14, lit_15, lit_16, lit_17, lit_18, lit_19, lit_20, lit_21, lit_22, lit_23, lit_24, lit_25, lit_26, lit_27, lit_28, lit_29, lit_30, lit_31, lit_32, lit_33, lit_34, lit_35, lit_36, lit_37, lit_38, lit_39, lit_40, lit_41, lit_42, lit_43, lit_44, lit_45, lit_46, lit_47, lit_48, lit_49, lit_50, lit_51, lit_52, lit_53, lit_54, lit_55, lit_56, lit_57, lit_58, lit_59, lit_60, lit_61, lit_62, lit_63, lit_64, lit_80, lit_100, lit_524287, lit_262143, lit_384, lit_1001, lit_1002, lit_61267, nI_add, pk_mul, pk_div, nI_rm, pk_sub, Nrm, Nrm8, Nrm4, nI_inT, nI_clamp, nI_ltT, nI_ltF, nI_eqT, nI_eqF, nI_ltI, nI_eq, nI_ushr, m4, m8, if_true, if_false, true_and, and_true, true_or, or_true, not_false_eq_true, not_true_eq_false, Nat.reduceAdd, Nat.reduceDiv, Nat.reduceMod, Nat.reduceMul, Nat.add_zero, Nat.lt_irrefl, pAdd_0, pK_n, pK_v, q_right (show i < 16 by omega), h, Bool.not_true, bI_eq, Bool.false_eq_true]
      exact h9
    · have hf : wrongB d1.1 i = false := by simpa using h
      have h9 := ih (i + 1) c (by omega) (by omega)
      simp (disch := omega) only [w36_0, w36_1, w36_2, w36_3, w36_5, w36_7, w36_10, w36_11, w36_12, w36_15, w36_18, w36_21, w36_24, w36_27, w36_28, cS_i0, cS_g0_0, cS_g0_1, cS_g0_2, cS_g0_3, cS_i1, cS_g1_0, cS_g1_1, cS_g1_2, cS_p1_2, cS_g1_3, cS_p1_3, cS_g1_4, cS_p1_4, cS_g1_5, cS_p1_5, cS_g1_6, cS_p1_6, cS_g1_7, cS_p1_7, cS_a2, cS_u2, cS_l2, cS_c2_2, cS_c2_3, cS_c2_5, cS_c2_7, cS_c2_8, cS_c2_10, cS_c2_11, cS_c2_12, cS_a3, cS_u3, cS_l3, cS_c3_2, cS_c3_3, cS_c3_5, cS_c3_7, cS_c3_8, cS_c3_10, cS_c3_11, cS_c3_12, cS_i4, cS_g4_0, cS_g4_1, cS_p4_1, cS_g4_2, cS_p4_2, cS_g4_3, cS_p4_3, cS_g4_4, cS_p4_4, cS_a5, cS_u5, cS_l5, cS_c5_2, cS_c5_3, cS_c5_5, cS_c5_7, cS_c5_8, cS_c5_10, cS_c5_11, cS_c5_12, cS_i6, cS_g6_0, cS_g6_1, cS_g6_2, cS_g6_3, cS_g6_4, cS_p6_4, cS_g6_5, cS_p6_5, cS_g6_6, cS_p6_6, cS_g6_7, cS_p6_7, cS_g6_8, cS_p6_8, cS_g6_9, cS_p6_9, cS_a7, cS_u7, cS_l7, cS_c7_2, cS_c7_3, cS_c7_5, cS_c7_7, cS_c7_8, cS_c7_10, cS_c7_11, cS_c7_12, cS_a8, cS_u8, cS_l8, cS_c8_2, cS_c8_3, cS_c8_5, cS_c8_7, cS_c8_8, cS_c8_10, cS_c8_11, cS_c8_12, cS_i9, cS_g9_0, cS_g9_1, cS_g9_2, cS_a10, cS_u10, cS_l10, cS_c10_2, cS_c10_3, cS_c10_5, cS_c10_7, cS_c10_8, cS_c10_10, cS_c10_11, cS_c10_12, cS_a11, cS_u11, cS_l11, cS_c11_2, cS_c11_3, cS_c11_5, cS_c11_7, cS_c11_8, cS_c11_10, cS_c11_11, cS_c11_12, cS_a12, cS_u12, cS_l12, cS_c12_2, cS_c12_3, cS_c12_5, cS_c12_7, cS_c12_8, cS_c12_10, cS_c12_11, cS_c12_12, lit_0, lit_1, lit_2, lit_3, lit_4, lit_5, lit_6, lit_7, lit_8, lit_9, lit_10, lit_11, lit_12, lit_13, lit_14, lit_15, lit_16, lit_17, lit_18, lit_19, lit_20, lit_21, lit_22, lit_23, lit_24, lit_25, lit_26, lit_27, lit_28, lit_29, lit_30, lit_31, lit_32, lit_33, lit_34, lit_35, lit_36, lit_37, lit_38, lit_39, lit_40, lit_41, lit_42, lit_43, lit_44, lit_45, lit_46, lit_47, lit_48, lit_49, lit_50, lit_51, lit_52, lit_53, lit_54, lit_55, lit_56, lit_57, lit_58, lit_59, lit_60, lit_61, lit_62, lit_63, lit_64, lit_80, lit_100, lit_524287, lit_262143, lit_384, lit_1001, lit_1002, lit_61267, nI_add, pk_mul, pk_div, nI_rm, pk_sub, Nrm, Nrm8, Nrm4, nI_inT, nI_clamp, nI_ltT, nI_ltF, nI_eqT, nI_eqF, nI_ltI, nI_eq, nI_ushr, m4, m8, if_true, if_false, true_and, and_true, true_or, or_true, not_false_eq_true, not_true_eq_false, Nat.reduceAdd, Nat.reduceDiv, Nat.reduceMod, Nat.reduceMul, Nat.add_zero, Nat.lt_irrefl, pAdd_0, pK_n, pK_v, q_right (show i < 16 by omega), hf, Bool.not_false, bI_eq, Bool.false_eq_true]
      exact h9
theorem q_bad : pW X 36 0 [.ref 2, pDum, pDum] [] (cSW d1 d4 d6 d9 R) nx ok Q ↔ Q (.inl (some (.int (nI (cntF (wrongB d1.1) 15 1 0)))), cSW d1 d4 d6 d9 R, nx, ok, 0, 0) := by
  simp (disch := omega) only [w36_0, w36_1, w36_2, w36_3, lit_0, lit_1, lit_2, lit_3, lit_4, lit_5, lit_6, lit_7, lit_8, lit_9, lit_10, lit_11, lit_12, lit_13, lit_14, lit_15, lit_16, lit_17, lit_18, lit_19, lit_20, lit_21, lit_22, lit_23, lit_24, lit_25, lit_26, lit_27, lit_28, lit_29, lit_30, lit_31, lit_32, lit_33, lit_34, lit_35, lit_36, lit_37, lit_38, lit_39, lit_40, lit_41, lit_42, lit_43, lit_44, lit_45, lit_46, lit_47, lit_48, lit_49, lit_50, lit_51, lit_52, lit_53, lit_54, lit_55, lit_56, lit_57, lit_58, lit_59, lit_60, lit_61, lit_62, lit_63, lit_64, lit_80, lit_100, lit_524287, lit_262143, lit_384, lit_1001, lit_1002, lit_61267, nI_add, pk_mul, pk_div, nI_rm, pk_sub, Nrm, Nrm8, Nrm4, nI_inT, nI_clamp, nI_ltT, nI_ltF, nI_eqT, nI_eqF, nI_ltI, nI_eq, nI_ushr, m4, m8, if_true, if_false, true_and, and_true, true_or, or_true, not_false_eq_true, not_true_eq_false, Nat.reduceAdd, Nat.reduceDiv, Nat.reduceMod, Nat.reduceMul, Nat.add_zero, Nat.lt_irrefl, pAdd_0, pK_n, pK_v]
  exact q_bad_l 15 1 0 (by omega) (by omega)
theorem q_nio {q : Nat} (hq : q < 30) : pW X 40 0 [.ref 2, .int (nI q)] [] (cSW d1 d4 d6 d9 R) nx ok Q ↔ Q (.inl (some (.int (nio d1.1 q))), cSW d1 d4 d6 d9 R, nx, ok, 0, 0) := by
  have n2 : ¬ nI 2 = nI 0 := by decide
  unfold nio
  simp (disch := omega) only [w40_0, w40_1, w40_2, w40_3, w40_4, w40_5, w40_6, w40_9, w40_10, w40_11, w40_12, w40_13, w40_14, w40_15, w40_16, w168_0, w168_2, w168_3, w168_4, w168_5, w168_6, cS_i0, cS_g0_0, cS_g0_1, cS_g0_2, cS_g0_3, cS_i1, cS_g1_0, cS_g1_1, cS_g1_2, cS_p1_2, cS_g1_3, cS_p1_3, cS_g1_4, cS_p1_4, cS_g1_5, cS_p1_5, cS_g1_6, cS_p1_6, cS_g1_7, cS_p1_7, cS_a2, cS_u2, cS_l2, cS_c2_2, cS_c2_3, cS_c2_5, cS_c2_7, cS_c2_8, cS_c2_10, cS_c2_11, cS_c2_12, cS_a3, cS_u3, cS_l3, cS_c3_2, cS_c3_3, cS_c3_5, cS_c3_7, cS_c3_8, cS_c3_10, cS_c3_11, cS_c3_12, cS_i4, cS_g4_0, cS_g4_1, cS_p4_1, cS_g4_2, cS_p4_2, cS_g4_3, cS_p4_3, cS_g4_4, cS_p4_4, cS_a5, cS_u5, cS_l5, cS_c5_2, cS_c5_3, cS_c5_5, cS_c5_7, cS_c5_8, cS_c5_10, cS_c5_11, cS_c5_12, cS_i6, cS_g6_0, cS_g6_1, cS_g6_2, cS_g6_3, cS_g6_4, cS_p6_4, cS_g6_5, cS_p6_5, cS_g6_6, cS_p6_6, cS_g6_7, cS_p6_7, cS_g6_8, cS_p6_8, cS_g6_9, cS_p6_9, cS_a7, cS_u7, cS_l7, cS_c7_2, cS_c7_3, cS_c7_5, cS_c7_7, cS_c7_8, cS_c7_10, cS_c7_11, cS_c7_12, cS_a8, cS_u8, cS_l8, cS_c8_2, cS_c8_3, cS_c8_5, cS_c8_7, cS_c8_8, cS_c8_10, cS_c8_11, cS_c8_12, cS_i9, cS_g9_0, cS_g9_1, cS_g9_2, cS_a10, cS_u10, cS_l10, cS_c10_2, cS_c10_3, cS_c10_5, cS_c10_7, cS_c10_8, cS_c10_10, cS_c10_11, cS_c10_12, cS_a11, cS_u11, cS_l11, cS_c11_2, cS_c11_3, cS_c11_5, cS_c11_7, cS_c11_8, cS_c11_10, cS_c11_11, cS_c11_12, cS_a12, cS_u12, cS_l12, cS_c12_2, cS_c12_3, cS_c12_5, cS_c12_7, cS_c12_8, cS_c12_10, cS_c12_11, cS_c12_12, lit_0, lit_1, lit_2, lit_3, lit_4, lit_5, lit_6, lit_7, lit_8, lit_9, lit_10, lit_11, lit_12, lit_13, lit_14, lit_15, lit_16, lit_17, lit_18, lit_19, lit_20, lit_21, lit_22, lit_23, lit_24, lit_25, lit_26, lit_27, lit_28, lit_29, lit_30, lit_31, lit_32, lit_33, lit_34, lit_35, lit_36, lit_37, lit_38, lit_39, lit_40, lit_41, lit_42, lit_43, lit_44, lit_45, lit_46, lit_47, lit_48, lit_49, lit_50, lit_51, lit_52, lit_53, lit_54, lit_55, lit_56, lit_57, lit_58, lit_59, lit_60, lit_61, lit_62, lit_63, lit_64, lit_80, lit_100, lit_524287, lit_262143, lit_384, lit_1001, lit_1002, lit_61267, nI_add, pk_mul, pk_div, nI_rm, pk_sub, Nrm, Nrm8, Nrm4, nI_inT, nI_clamp, nI_ltT, nI_ltF, nI_eqT, nI_eqF, nI_ltI, nI_eq, nI_ushr, m4, m8, if_true, if_false, true_and, and_true, true_or, or_true, not_false_eq_true, not_true_eq_false, Nat.reduceAdd, Nat.reduceDiv, Nat.reduceMod, Nat.reduceMul, Nat.add_zero, Nat.lt_irrefl, pAdd_0, pK_n, pK_v, n2]
theorem q_rep_r {q c : Nat} (hq : q < 30) : ∀ m r b, r + m = q → (pW X 39 22 [.ref 2, .int (nI c), .int (nI q), .int (nio d1.1 q), .int (bI b), .int (nI r)] [] (cSW d1 d4 d6 d9 R) nx ok Q ↔ pW X 39 54 [.ref 2, .int (nI c), .int (nI q), .int (nio d1.1 q), .int (bI (b || anQ d1.1 (nio d1.1 q) m r)), .int (nI q)] [] (cSW d1 d4 d6 d9 R) nx ok Q) := by
  intro m
  induction m with
  | zero =>
    intro r b hr
    have e : r = q := by omega
    subst e
    rw [w39_22]
    simp (disch := omega) only [w39_24, w39_25, lit_0, lit_1, lit_2, lit_3, lit_4, lit_5, lit_6, lit_7, lit_8, lit_9, lit_10, lit_11, lit_12, lit_13, lit_14, lit_15, lit_16, lit_17, lit_18, lit_19, lit_20, lit_21, lit_22, lit_23, lit_24, lit_25, lit_26, lit_27, lit_28, lit_29, lit_30, lit_31, lit_32, lit_33, lit_34, lit_35, lit_36, lit_37, lit_38, lit_39, lit_40, lit_41, lit_42, lit_43, lit_44, lit_45, lit_46, lit_47, lit_48, lit_49, lit_50, lit_51, lit_52, lit_53, lit_54, lit_55, lit_56, lit_57, lit_58, lit_59, lit_60, lit_61, lit_62, lit_63, lit_64, lit_80, lit_100, lit_524287, lit_262143, lit_384, lit_1001, lit_1002, lit_61267, nI_add, pk_mul, pk_div, nI_rm, pk_sub, Nrm, Nrm8, Nrm4, nI_inT, nI_clamp, nI_ltT, nI_ltF, nI_eqT, nI_eqF, nI_ltI, nI_eq, nI_ushr, m4, m8, if_true, if_false, true_and, and_true, true_or, or_true, not_false_eq_true, not_true_eq_false, Nat.reduceAdd, Nat.reduceDiv, Nat.reduceMod, Nat.reduceMul, Nat.add_zero, Nat.lt_irrefl, pAdd_0, pK_n, pK_v, anQ, Bool.or_false]
  | succ m ih =>
    intro r b hr
    have o1 : bI b ||| nI 1 = bI true := by cases b <;> decide
    have o0 : bI b ||| nI 0 = bI b := by cases b <;> decide
    rw [w39_22, anQ_s]
    by_cases h : nio d1.1 r = nio d1.1 q
    · have h9 := ih (r + 1) true (by omega)
      have e : (b || (decide (nio d1.1 r = nio d1.1 q) || anQ d1.1 (nio d1.1 q) m (r + 1))) = (true || anQ d1.1 (nio d1.1 q) m (r + 1)) := by simp [h]
      rw [e]
      simp (disch := omega) only [w39_24, w39_25, w39_28, w39_30, w39_31, w39_33, w39_36, w39_37, w39_40, w39_41, w39_45, w39_46, w39_48, w39_51, cS_i0, cS_g0_0, cS_g0_1, cS_g0_2, cS_g0_3, cS_i1, cS_g1_0, cS_g1_1, cS_g1_2, cS_p1_2, cS_g1_3, cS_p1_3, cS_g1_4, cS_p1_4, cS_g1_5, cS_p1_5, cS_g1_6, cS_p1_6, cS_g1_7, cS_p1_7, cS_a2, cS_u2, cS_l2, cS_c2_2, cS_c2_3, cS_c2_5, cS_c2_7, cS_c2_8, cS_c2_10, cS_c2_11, cS_c2_12, cS_a3, cS_u3, cS_l3, cS_c3_2, cS_c3_3, cS_c3_5, cS_c3_7, cS_c3_8, cS_c3_10, cS_c3_11, cS_c3_12, cS_i4, cS_g4_0, cS_g4_1, cS_p4_1, cS_g4_2, cS_p4_2, cS_g4_3, cS_p4_3, cS_g4_4, cS_p4_4, cS_a5, cS_u5, cS_l5, cS_c5_2, cS_c5_3, cS_c5_5, cS_c5_7, cS_c5_8, cS_c5_10, cS_c5_11, cS_c5_12, cS_i6, cS_g6_0, cS_g6_1, cS_g6_2, cS_g6_3, cS_g6_4, cS_p6_4, cS_g6_5, cS_p6_5, cS_g6_6, cS_p6_6, cS_g6_7, cS_p6_7, cS_g6_8, cS_p6_8, cS_g6_9, cS_p6_9, cS_a7, cS_u7, cS_l7, cS_c7_2, cS_c7_3, cS_c7_5, cS_c7_7, cS_c7_8, cS_c7_10, cS_c7_11, cS_c7_12, cS_a8, cS_u8, cS_l8, cS_c8_2, cS_c8_3, cS_c8_5, cS_c8_7, cS_c8_8, cS_c8_10, cS_c8_11, cS_c8_12, cS_i9, cS_g9_0, cS_g9_1, cS_g9_2, cS_a10, cS_u10, cS_l10, cS_c10_2, cS_c10_3, cS_c10_5, cS_c10_7, cS_c10_8, cS_c10_10, cS_c10_11, cS_c10_12, cS_a11, cS_u11, cS_l11, cS_c11_2, cS_c11_3, cS_c11_5, cS_c11_7, cS_c11_8, cS_c11_10, cS_c11_11, cS_c11_12, cS_a12, cS_u12, cS_l12, cS_c12_2, cS_c12_3, cS_c12_5, cS_c12_7, cS_c12_8, cS_c12_10, cS_c12_11, cS_c12_12, lit_0, lit_1, lit_2, lit_3, lit_4, lit_5, lit_6, lit_7, lit_8, lit_9, lit_10, lit_11, lit_12, lit_13, lit_14, lit_15, lit_16, lit_17, lit_18, lit_19, lit_20, lit_21, lit_22, lit_23, lit_24, lit_25, lit_26, lit_27, lit_28, lit_29, lit_30, lit_31, lit_32, lit_33, lit_34, lit_35, lit_36, lit_37, lit_38, lit_39, lit_40, lit_41, lit_42, lit_43, lit_44, lit_45, lit_46, lit_47, lit_48, lit_49, lit_50, lit_51, lit_52, lit_53, lit_54, lit_55, lit_56, lit_57, lit_58, lit_59, lit_60, lit_61, lit_62, lit_63, lit_64, lit_80, lit_100, lit_524287, lit_262143, lit_384, lit_1001, lit_1002, lit_61267, nI_add, pk_mul, pk_div, nI_rm, pk_sub, Nrm, Nrm8, Nrm4, nI_inT, nI_clamp, nI_ltT, nI_ltF, nI_eqT, nI_eqF, nI_ltI, nI_eq, nI_ushr, m4, m8, if_true, if_false, true_and, and_true, true_or, or_true, not_false_eq_true, not_true_eq_false, Nat.reduceAdd, Nat.reduceDiv, Nat.reduceMod, Nat.reduceMul, Nat.add_zero, Nat.lt_irrefl, pAdd_0, pK_n, pK_v, q_nio (show r < 30 by omega), h, o1]
      exact h9
    · have h9 := ih (r + 1) b (by omega)
      have e : (b || (decide (nio d1.1 r = nio d1.1 q) || anQ d1.1 (nio d1.1 q) m (r + 1))) = (b || anQ d1.1 (nio d1.1 q) m (r + 1)) := by simp [h]
      rw [e]
      simp (disch := omega) only [w39_24, w39_25, w39_28, w39_30, w39_31, w39_33, w39_36, w39_37, w39_44, w39_45, w39_46, w39_48, w39_51, cS_i0, cS_g0_0, cS_g0_1, cS_g0_2, cS_g0_3, cS_i1, cS_g1_0, cS_g1_1, cS_g1_2, cS_p1_2, cS_g1_3, cS_p1_3, cS_g1_4, cS_p1_4, cS_g1_5, cS_p1_5, cS_g1_6, cS_p1_6, cS_g1_7, cS_p1_7, cS_a2, cS_u2, cS_l2, cS_c2_2, cS_c2_3, cS_c2_5, cS_c2_7, cS_c2_8, cS_c2_10, cS_c2_11, cS_c2_12, cS_a3, cS_u3, cS_l3, cS_c3_2, cS_c3_3, cS_c3_5, cS_c3_7, cS_c3_8, cS_c3_10, cS_c3_11, cS_c3_12, cS_i4, cS_g4_0, cS_g4_1, cS_p4_1, cS_g4_2, cS_p4_2, cS_g4_3, cS_p4_3, cS_g4_4, cS_p4_4, cS_a5, cS_u5, cS_l5, cS_c5_2, cS_c5_3, cS_c5_5, cS_c5_7, cS_c5_8, cS_c5_10, cS_c5_11, cS_c5_12, cS_i6, cS_g6_0, cS_g6_1, cS_g6_2, cS_g6_3, cS_g6_4, cS_p6_4, cS_g6_5, cS_p6_5, cS_g6_6, cS_p6_6, cS_g6_7, cS_p6_7, cS_g6_8, cS_p6_8, cS_g6_9, cS_p6_9, cS_a7, cS_u7, cS_l7, cS_c7_2, cS_c7_3, cS_c7_5, cS_c7_7, cS_c7_8, cS_c7_10, cS_c7_11, cS_c7_12, cS_a8, cS_u8, cS_l8, cS_c8_2, cS_c8_3, cS_c8_5, cS_c8_7, cS_c8_8, cS_c8_10, cS_c8_11, cS_c8_12, cS_i9, cS_g9_0, cS_g9_1, cS_g9_2, cS_a10, cS_u10, cS_l10, cS_c10_2, cS_c10_3, cS_c10_5, cS_c10_7, cS_c10_8, cS_c10_10, cS_c10_11, cS_c10_12, cS_a11, cS_u11, cS_l11, cS_c11_2, cS_c11_3, cS_c11_5, cS_c11_7, cS_c11_8, cS_c11_10, cS_c11_11, cS_c11_12, cS_a12, cS_u12, cS_l12, cS_c12_2, cS_c12_3, cS_c12_5, cS_c12_7, cS_c12_8, cS_c12_10, cS_c12_11, cS_c12_12, lit_0, lit_1, lit_2, lit_3, lit_4, lit_5, lit_6, lit_7, lit_8, lit_9, lit_10, lit_11, lit_12, lit_13, lit_14, lit_15, lit_16, lit_17, lit_18, lit_19, lit_20, lit_21, lit_22, lit_23, lit_24, lit_25, lit_26, lit_27, lit_28, lit_29, lit_30, lit_31, lit_32, lit_33, lit_34, lit_35, lit_36, lit_37, lit_38, lit_39, lit_40, lit_41, lit_42, lit_43, lit_44, lit_45, lit_46, lit_47, lit_48, lit_49, lit_50, lit_51, lit_52, lit_53, lit_54, lit_55, lit_56, lit_57, lit_58, lit_59, lit_60, lit_61, lit_62, lit_63, lit_64, lit_80, lit_100, lit_524287, lit_262143, lit_384, lit_1001, lit_1002, lit_61267, nI_add, pk_mul, pk_div, nI_rm, pk_sub, Nrm, Nrm8, Nrm4, nI_inT, nI_clamp, nI_ltT, nI_ltF, nI_eqT, nI_eqF, nI_ltI, nI_eq, nI_ushr, m4, m8, if_true, if_false, true_and, and_true, true_or, or_true, not_false_eq_true, not_true_eq_false, Nat.reduceAdd, Nat.reduceDiv, Nat.reduceMod, Nat.reduceMul, Nat.add_zero, Nat.lt_irrefl, pAdd_0, pK_n, pK_v, q_nio (show r < 30 by omega), h, o0]
      exact h9
theorem q_rep_l : ∀ m q c z3 z4 z5, q + m = 30 → c ≤ q → (pW X 39 4 [.ref 2, .int (nI c), .int (nI q), z3, z4, z5] [] (cSW d1 d4 d6 d9 R) nx ok Q ↔ Q (.inl (some (.int (nI (cntF (repQ d1.1) m q c)))), cSW d1 d4 d6 d9 R, nx, ok, 0, 0)) := by
  intro m
  induction m with
  | zero =>
    intro q c z3 z4 z5 hq hc
    have e : q = 30 := by omega
    subst e
    rw [w39_4]
    simp (disch := omega) only [w39_5, w39_7, w39_72, w39_73, lit_0, lit_1, lit_2, lit_3, lit_4, lit_5, lit_6, lit_7, lit_8, lit_9, lit_10, lit_11, lit_12, lit_13, lit_14, lit_15, lit_16, lit_17, lit_18, lit_19, lit_20, lit_21, lit_22, lit_23, lit_24, lit_25, lit_26, lit_27, lit_28, lit_29, lit_30, lit_31, lit_32, lit_33, lit_34, lit_35, lit_36, lit_37, lit_38, lit_39, lit_40, lit_41, lit_42, lit_43, lit_44, lit_45, lit_46, lit_47, lit_48, lit_49, lit_50, lit_51, lit_52, lit_53, lit_54, lit_55, lit_56, lit_57, lit_58, lit_59, lit_60, lit_61, lit_62, lit_63, lit_64, lit_80, lit_100, lit_524287, lit_262143, lit_384, lit_1001, lit_1002, lit_61267, nI_add, pk_mul, pk_div, nI_rm, pk_sub, Nrm, Nrm8, Nrm4, nI_inT, nI_clamp, nI_ltT, nI_ltF, nI_eqT, nI_eqF, nI_ltI, nI_eq, nI_ushr, m4, m8, if_true, if_false, true_and, and_true, true_or, or_true, not_false_eq_true, not_true_eq_false, Nat.reduceAdd, Nat.reduceDiv, Nat.reduceMod, Nat.reduceMul, Nat.add_zero, Nat.lt_irrefl, pAdd_0, pK_n, pK_v, cntF]
  | succ m ih =>
    intro q c z3 z4 z5 hq hc
    have ec : cntF (repQ d1.1) (m + 1) q c = cntF (repQ d1.1) m (q + 1) (if repQ d1.1 q = true then c + 1 else c) := rfl
    have hr := q_rep_r (X := X) (nx := nx) (ok := ok) (Q := Q) (d1 := d1) (d4 := d4) (d6 := d6) (d9 := d9) (R := R) (q := q) (c := c) (by omega) q 0 false (by omega)
    have e0 : bI false = nI 0 := rfl
    rw [e0, Bool.false_or] at hr
    rw [w39_4, ec]
    simp (disch := omega) only [w39_5, w39_7, w39_10, w39_11, w39_12, w39_15, w39_16, w39_17, w39_19, w39_20, cS_i0, cS_g0_0, cS_g0_1, cS_g0_2, cS_g0_3, cS_i1, cS_g1_0, cS_g1_1, cS_g1_2, cS_p1_2, cS_g1_3, cS_p1_3, cS_g1_4, cS_p1_4, cS_g1_5, cS_p1_5, cS_g1_6, cS_p1_6, cS_g1_7, cS_p1_7, cS_a2, cS_u2, cS_l2, cS_c2_2, cS_c2_3, cS_c2_5, cS_c2_7, cS_c2_8, cS_c2_10, cS_c2_11, cS_c2_12, cS_a3, cS_u3, cS_l3, cS_c3_2, cS_c3_3, cS_c3_5, cS_c3_7, cS_c3_8, cS_c3_10, cS_c3_11, cS_c3_12, cS_i4, cS_g4_0, cS_g4_1, cS_p4_1, cS_g4_2, cS_p4_2, cS_g4_3, cS_p4_3, cS_g4_4, cS_p4_4, cS_a5, cS_u5, cS_l5, cS_c5_2, cS_c5_3, cS_c5_5, cS_c5_7, cS_c5_8, cS_c5_10, cS_c5_11, cS_c5_12, cS_i6, cS_g6_0, cS_g6_1, cS_g6_2, cS_g6_3, cS_g6_4, cS_p6_4, cS_g6_5, cS_p6_5, cS_g6_6, cS_p6_6, cS_g6_7, cS_p6_7, cS_g6_8, cS_p6_8, cS_g6_9, cS_p6_9, cS_a7, cS_u7, cS_l7, cS_c7_2, cS_c7_3, cS_c7_5, cS_c7_7, cS_c7_8, cS_c7_10, cS_c7_11, cS_c7_12, cS_a8, cS_u8, cS_l8, cS_c8_2, cS_c8_3, cS_c8_5, cS_c8_7, cS_c8_8, cS_c8_10, cS_c8_11, cS_c8_12, cS_i9, cS_g9_0, cS_g9_1, cS_g9_2, cS_a10, cS_u10, cS_l10, cS_c10_2, cS_c10_3, cS_c10_5, cS_c10_7, cS_c10_8, cS_c10_10, cS_c10_11, cS_c10_12, cS_a11, cS_u11, cS_l11, cS_c11_2, cS_c11_3, cS_c11_5, cS_c11_7, cS_c11_8, cS_c11_10, cS_c11_11, cS_c11_12, cS_a12, cS_u12, cS_l12, cS_c12_2, cS_c12_3, cS_c12_5, cS_c12_7, cS_c12_8, cS_c12_10, cS_c12_11, cS_c12_12, lit_0, lit_1, lit_2, lit_3, lit_4, lit_5, lit_6, lit_7, lit_8, lit_9, lit_10, lit_11, lit_12, lit_13, lit_14, lit_15, lit_16, lit_17, lit_18, lit_19, lit_20, lit_21, lit_22, lit_23, lit_24, lit_25, lit_26, lit_27, lit_28, lit_29, lit_30, lit_31, lit_32, lit_33, lit_34, lit_35, lit_36, lit_37, lit_38, lit_39, lit_40, lit_41, lit_42, lit_43, lit_44, lit_45, lit_46, lit_47, lit_48, lit_49, lit_50, lit_51, lit_52, lit_53, lit_54, lit_55, lit_56, lit_57, lit_58, lit_59, lit_60, lit_61, lit_62, lit_63, lit_64, lit_80, lit_100, lit_524287, lit_262143, lit_384, lit_1001, lit_1002, lit_61267, nI_add, pk_mul, pk_div, nI_rm, pk_sub, Nrm, Nrm8, Nrm4, nI_inT, nI_clamp, nI_ltT, nI_ltF, nI_eqT, nI_eqF, nI_ltI, nI_eq, nI_ushr, m4, m8, if_true, if_false, true_and, and_true, true_or, or_true, not_false_eq_true, not_true_eq_false, Nat.reduceAdd, Nat.reduceDiv, Nat.reduceMod, Nat.reduceMul, Nat.add_zero, Nat.lt_irrefl, pAdd_0, pK_n, pK_v, q_nio (show q < 30 by omega)]
    refine hr.trans ?_
    unfold repQ
    by_cases a1 : nio d1.1 q = nI 0
    · have h9 := ih (q + 1) c (.int (nI 0)) (.int (bI (anQ d1.1 (nI 0) q 0))) (.int (nI q)) (by omega) (by omega)
      unfold repQ at h9
      simp (disch := omega) only [w39_54, w39_55, w39_66, w39_69, lit_0, lit_1, lit_2, lit_3, lit_4, lit_5, lit_6, lit_7, lit_8, lit_9, lit_10, lit_11, lit_12, lit_13, lit_14, lit_15, lit_16, lit_17, lit_18, lit_19, lit_20, lit_21, lit_22, lit_23, lit_24, lit_25, lit_26, lit_27, lit_28, lit_29, lit_30, lit_31, lit_32, lit_33, lit_34, lit_35, lit_36, lit_37, lit_38, lit_39, lit_40, lit_41, lit_42, lit_43, lit_44, lit_45, lit_46, lit_47, lit_48, lit_49, lit_50, lit_51, lit_52, lit_53, lit_54, lit_55, lit_56, lit_57, lit_58, lit_59, lit_60, lit_61, lit_62, lit_63, lit_64, lit_80, lit_100, lit_524287, lit_262143, lit_384, lit_1001, lit_1002, lit_61267, nI_add, pk_mul, pk_div, nI_rm, pk_sub, Nrm, Nrm8, Nrm4, nI_inT, nI_clamp, nI_ltT, nI_ltF, nI_eqT, nI_eqF, nI_ltI, nI_eq, nI_ushr, m4, m8, if_true, if_false, true_and, and_true, true_or, or_true, not_false_eq_true, not_true_eq_false, Nat.reduceAdd, Nat.reduceDiv, Nat.reduceMod, Nat.reduceMul, Nat.add_zero, Nat.lt_irrefl, pAdd_0, pK_n, pK_v, a1, decide_true, Bool.not_true, Bool.false_and, Bool.false_eq_true]
      exact h9
    · by_cases a2 : anQ d1.1 (nio d1.1 q) q 0 = true
      · have h9 := ih (q + 1) (c + 1) (.int (nio d1.1 q)) (.int (nI 1)) (.int (nI q)) (by omega) (by omega)
        unfold repQ at h9
        simp (disch := omega) only [w39_54, w39_55, w39_58, w39_60, w39_63, w39_66, w39_69, lit_0, lit_1, lit_2, lit_3, lit_4, lit_5, lit_6, lit_7, lit_8, lit_9, lit_10, lit_11, lit_12, lit_13, lit_14, lit_15, lit_16, lit_17, lit_18, lit_19, lit_20, lit_21, lit_22, lit_23, lit_24, lit_25, lit_26, lit_27, lit_28, lit_29, lit_30, lit_31, lit_32, lit_33, lit_34, lit_35, lit_36, lit_37, lit_38, lit_39, lit_40, lit_41, lit_42, lit_43, lit_44, lit_45, lit_46, lit_47, lit_48, lit_49, lit_50, lit_51, lit_52, lit_53, lit_54, lit_55, lit_56, lit_57, lit_58, lit_59, lit_60, lit_61, lit_62, lit_63, lit_64, lit_80, lit_100, lit_524287, lit_262143, lit_384, lit_1001, lit_1002, lit_61267, nI_add, pk_mul, pk_div, nI_rm, pk_sub, Nrm, Nrm8, Nrm4, nI_inT, nI_clamp, nI_ltT, nI_ltF, nI_eqT, nI_eqF, nI_ltI, nI_eq, nI_ushr, m4, m8, if_true, if_false, true_and, and_true, true_or, or_true, not_false_eq_true, not_true_eq_false, Nat.reduceAdd, Nat.reduceDiv, Nat.reduceMod, Nat.reduceMul, Nat.add_zero, Nat.lt_irrefl, pAdd_0, pK_n, pK_v, a1, a2, bI_eq, decide_false, Bool.not_false, Bool.true_and]
        exact h9
      · have f2 : anQ d1.1 (nio d1.1 q) q 0 = false := by simpa using a2
        have h9 := ih (q + 1) c (.int (nio d1.1 q)) (.int (nI 0)) (.int (nI q)) (by omega) (by omega)
        unfold repQ at h9
        simp (disch := omega) only [w39_54, w39_55, w39_58, w39_60, w39_66, w39_69, lit_0, lit_1, lit_2, lit_3, lit_4, lit_5, lit_6, lit_7, lit_8, lit_9, lit_10, lit_11, lit_12, lit_13, lit_14, lit_15, lit_16, lit_17, lit_18, lit_19, lit_20, lit_21, lit_22, lit_23, lit_24, lit_25, lit_26, lit_27, lit_28, lit_29, lit_30, lit_31, lit_32, lit_33, lit_34, lit_35, lit_36, lit_37, lit_38, lit_39, lit_40, lit_41, lit_42, lit_43, lit_44, lit_45, lit_46, lit_47, lit_48, lit_49, lit_50, lit_51, lit_52, lit_53, lit_54, lit_55, lit_56, lit_57, lit_58, lit_59, lit_60, lit_61, lit_62, lit_63, lit_64, lit_80, lit_100, lit_524287, lit_262143, lit_384, lit_1001, lit_1002, lit_61267, nI_add, pk_mul, pk_div, nI_rm, pk_sub, Nrm, Nrm8, Nrm4, nI_inT, nI_clamp, nI_ltT, nI_ltF, nI_eqT, nI_eqF, nI_ltI, nI_eq, nI_ushr, m4, m8, if_true, if_false, true_and, and_true, true_or, or_true, not_false_eq_true, not_true_eq_false, Nat.reduceAdd, Nat.reduceDiv, Nat.reduceMod, Nat.reduceMul, Nat.add_zero, Nat.lt_irrefl, pAdd_0, pK_n, pK_v, a1, f2, bI_eq, decide_false, Bool.not_false, Bool.true_and, Bool.false_eq_true]
        exact h9
theorem q_rep : pW X 39 0 [.ref 2, pDum, pDum, pDum, pDum, pDum] [] (cSW d1 d4 d6 d9 R) nx ok Q ↔ Q (.inl (some (.int (nI (cntF (repQ d1.1) 30 0 0)))), cSW d1 d4 d6 d9 R, nx, ok, 0, 0) := by
  simp (disch := omega) only [w39_0, w39_1, w39_2, w39_3, lit_0, lit_1, lit_2, lit_3, lit_4, lit_5, lit_6, lit_7, lit_8, lit_9, lit_10, lit_11, lit_12, lit_13, lit_14, lit_15, lit_16, lit_17, lit_18, lit_19, lit_20, lit_21, lit_22, lit_23, lit_24, lit_25, lit_26, lit_27, lit_28, lit_29, lit_30, lit_31, lit_32, lit_33, lit_34, lit_35, lit_36, lit_37, lit_38, lit_39, lit_40, lit_41, lit_42, lit_43, lit_44, lit_45, lit_46, lit_47, lit_48, lit_49, lit_50, lit_51, lit_52, lit_53, lit_54, lit_55, lit_56, lit_57, lit_58, lit_59, lit_60, lit_61, lit_62, lit_63, lit_64, lit_80, lit_100, lit_524287, lit_262143, lit_384, lit_1001, lit_1002, lit_61267, nI_add, pk_mul, pk_div, nI_rm, pk_sub, Nrm, Nrm8, Nrm4, nI_inT, nI_clamp, nI_ltT, nI_ltF, nI_eqT, nI_eqF, nI_ltI, nI_eq, nI_ushr, m4, m8, if_true, if_false, true_and, and_true, true_or, or_true, not_false_eq_true, not_true_eq_false, Nat.reduceAdd, Nat.reduceDiv, Nat.reduceMod, Nat.reduceMul, Nat.add_zero, Nat.lt_irrefl, pAdd_0, pK_n, pK_v]
  exact q_rep_l 30 0 0 _ _ _ (by omega) (by omega)
theorem p1_both {f : Nat → Int32} : cntF (wrongB f) 15 1 0 + cntF (repQ f) 30 0 0 = f1F f 15 1 0 := by
  have h := p1_sum (f := f) 15 1 0 (by omega)
  simp only [Nat.add_zero, Nat.zero_add, Nat.reduceMul, Nat.reduceSub] at h
  exact h.symm
end RUN
