section RUN
variable {X : pScr} {nx : Nat} {ok : Bool} {Q : pRes → Prop} {e1 : rS1} {e2 : rS2} {e3 : rS3} {e4 : rS4} {R : pMem} {M : pMem}
theorem okR_n {b : Int32} (h : okR b = true) : ∃ c, c < 48 ∧ b = nI c ∧ 1 ≤ c ∧ (c ≤ 9 ∨ 18 ≤ c) := by
  unfold okR at h
  simp only [Bool.and_eq_true, Bool.or_eq_true, Bool.not_eq_true', decide_eq_false_iff_not] at h
  obtain ⟨h1, h2, h3⟩ := h
  obtain ⟨j, hj, rfl⟩ := nI_of2 (x := b) (M := nI 47) (n := 47) rfl (fun h => h1 (Int32.lt_trans h (by decide))) (Int32.not_lt.mp h2)
  refine ⟨j, by omega, rfl, ?_, ?_⟩
  · by_cases g : 1 ≤ j
    · exact g
    · exact absurd (nI_lt (a := j) (b := 1) (by omega) (by decide)) h1
  · rcases h3 with h3 | h3
    · left
      by_cases g : j ≤ 9
      · exact g
      · exact absurd (nI_lt (a := 9) (b := j) (by omega) (by omega)) h3
    · right
      by_cases g : 18 ≤ j
      · exact g
      · exact absurd (nI_lt (a := j) (b := 18) (by omega) (by decide)) h3
/-- a write when power is gone -/
theorem rPut_gone {e : rS1} {b a : Nat} {f : Nat → Int32} (h : ¬ e.2.2.2.2.2.1 = nI 0) : rPut b a f e = e := by
  unfold rPut rHap
  rw [if_neg h]
  rfl
theorem rFl_gone {e : rS1} (h : ¬ e.2.2.2.2.2.1 = nI 0) : rFl e = e := by
  unfold rFl rHap
  rw [if_neg h]
  rfl
theorem rPut_alive {e : rS1} {b a : Nat} {f : Nat → Int32} (h : (rPut b a f e).2.2.2.2.2.1 = nI 0) : e.2.2.2.2.2.1 = nI 0 ∧ (rPut b a f e).1 = va_cpy f e.1 a (8 * b) 8 := by
  unfold rPut rHap at h ⊢
  by_cases g : e.2.2.2.2.2.1 = nI 0
  · by_cases g2 : e.2.2.2.2.2.2.1 = nI 0
    · rw [if_pos g, if_pos g2] at h
      exact absurd (show nI 1 = nI 0 from h) (by decide)
    · rw [if_pos g, if_neg g2]
      refine ⟨g, ?_⟩
      show va_cpy f (rSp e).1 a (8 * b) 8 = _
      unfold rSp
      split <;> rfl
  · rw [if_neg g] at h
    exact absurd h g
theorem q_rput25g {b a : Int32} (hg : ¬ e1.2.2.2.2.2.1 = nI 0) : pW X 104 0 [.ref 13, .int b, .ref 25, .int a, pDum] [] (rSW e1 e2 e3 e4 R) nx ok Q ↔ Q (.inl none, rSW e1 e2 e3 e4 R, nx, ok, 0, 0) := by
  simp (disch := omega) only [w104_0, w104_1, w102_0, w102_1, w102_4, w102_7, w102_8, w102_9, w102_10, w102_13, w102_16, w102_17, w102_18, w102_21, w102_22, w102_23, w102_26, w102_29, w102_30, w102_33, w102_36, w102_37, w102_38, w102_41, w102_44, w102_45, w102_48, w102_51, w102_52, w102_55, w102_56, rS_i13, rS_g13_0, rS_g13_1, rS_g13_2, rS_g13_3, rS_g13_4, rS_g13_5, rS_g13_6, rS_g13_7, rS_g13_8, rS_g13_9, rS_g13_10, rS_g13_11, rS_p13_11, rS_g13_12, rS_p13_12, rS_g13_13, rS_p13_13, rS_g13_14, rS_p13_14, rS_g13_15, rS_p13_15, rS_g13_16, rS_p13_16, rS_g13_17, rS_p13_17, rS_g13_18, rS_p13_18, rS_g13_19, rS_p13_19, rS_g13_20, rS_p13_20, rS_g13_21, rS_p13_21, rS_g13_22, rS_p13_22, rS_g13_23, rS_p13_23, rS_g13_24, rS_p13_24, rS_g13_25, rS_g13_26, rS_p13_26, rS_a14, rS_u14, rS_l14, rS_a15, rS_u15, rS_l15, rS_a16, rS_u16, rS_l16, rS_a17, rS_u17, rS_l17, rS_a18, rS_u18, rS_l18, rS_a19, rS_u19, rS_l19, rS_a20, rS_u20, rS_a21, rS_u21, rS_a22, rS_u22, rS_a23, rS_u23, rS_l23, rS_a24, rS_u24, rS_a25, rS_u25, rS_l25, lit_0, lit_1, lit_2, lit_3, lit_4, lit_5, lit_6, lit_7, lit_8, lit_9, lit_10, lit_11, lit_12, lit_13, lit_14, lit_15, lit_16, lit_17, lit_18, lit_19, lit_20, lit_21, lit_22, lit_23, lit_24, lit_25, lit_26, lit_27, lit_28, lit_29, lit_30, lit_31, lit_32, lit_33, lit_34, lit_35, lit_36, lit_37, lit_38, lit_39, lit_40, lit_41, lit_42, lit_43, lit_44, lit_45, lit_46, lit_47, lit_48, lit_49, lit_50, lit_51, lit_52, lit_53, lit_54, lit_55, lit_56, lit_57, lit_58, lit_59, lit_60, lit_61, lit_62, lit_63, lit_64, lit_80, lit_100, lit_524287, lit_262143, lit_384, lit_1001, lit_1002, lit_61267, nI_add, pk_mul, pk_div, nI_rm, pk_sub, Nrm, Nrm8, Nrm4, nI_inT, nI_clamp, nI_ltT, nI_ltF, nI_eqT, nI_eqF, nI_ltI, nI_eq, nI_ushr, m4, m8, if_true, if_false, true_and, and_true, true_or, or_true, not_false_eq_true, not_true_eq_false, Nat.reduceAdd, Nat.reduceDiv, Nat.reduceMod, Nat.reduceMul, Nat.add_zero, Nat.lt_irrefl, pAdd_0, pK_n, pK_v, hg, w104_4, w104_7]
theorem q_rput25i {b : Int32} {n : Nat} (hb : e1.2.2.2.2.2.1 = nI 0 → ∃ c, c < 48 ∧ b = nI c) (ho : rOk e1 n) (hn : n < 100) : pW X 104 0 [.ref 13, .int b, .ref 25, .int (nI 0), pDum] [] (rSW e1 e2 e3 e4 R) nx ok Q ↔ Q (.inl none, rSW (rPut b.toNatClampNeg 0 e3.2.2.2.2.2.2.2 e1) e2 e3 e4 R, nx, ok, 0, 0) := by
  by_cases hg : e1.2.2.2.2.2.1 = nI 0
  · obtain ⟨c, hc, rfl⟩ := hb hg
    rw [nI_clamp (by omega)]
    exact q_rput25 hc (by omega) ho hn
  · rw [rPut_gone hg]
    exact q_rput25g hg
/-- the block behind place x by k + 1 -/
def rsc (e : rS1) (x k : Nat) (s : Nat → Int32) : Nat → Int32 := va_cpy e.1 s (80 + 8 * ((x + 1 + k) % 8)) 0 8
/-- the blocks of a record are written where they belong -/
def rmid (x : Nat) : Nat → Nat → rS1 → (Nat → Int32) → rS1 × (Nat → Int32)
  | 0, _, e, s => (e, s)
  | m + 1, k, e, s => rmid x m (k + 1) (rPut (rnum e.1 (80 + 8 * x) k).toNatClampNeg 0 (rsc e x k s) e) (rsc e x k s)
theorem q_rmid_c {x k : Nat} {y1 y2 : Int32} {n : Nat} (hx : x < 8) (hk : k < 8) (hnx : e3.2.2.2.1 = nI x) : ∀ m i g, i + m = 8 → (pW X 118 50 [.ref 13, .int y1, .int y2, .int (nI n), .int (nI k), .int (nI i)] [] (rSW e1 e2 (e3.1, e3.2.1, e3.2.2.1, e3.2.2.2.1, e3.2.2.2.2.1, e3.2.2.2.2.2.1, e3.2.2.2.2.2.2.1, va_cpy e1.1 g (80 + 8 * ((x + 1 + k) % 8)) 0 i) e4 R) nx ok Q ↔ pW X 118 96 [.ref 13, .int y1, .int y2, .int (nI n), .int (nI k), .int (nI 8)] [] (rSW e1 e2 (e3.1, e3.2.1, e3.2.2.1, e3.2.2.2.1, e3.2.2.2.2.1, e3.2.2.2.2.2.1, e3.2.2.2.2.2.2.1, va_cpy e1.1 g (80 + 8 * ((x + 1 + k) % 8)) 0 8) e4 R) nx ok Q) := by
  intro m
  induction m with
  | zero =>
    intro i g hi
    have e : i = 8 := by omega
    subst e
    rw [w118_50]
    simp (disch := omega) only [w118_52, w118_54, lit_0, lit_1, lit_2, lit_3, lit_4, lit_5, lit_6, lit_7, lit_8, lit_9, lit_10, lit_11, lit_12, lit_13, lit_14, lit_15, lit_16, lit_17, lit_18, lit_19, lit_20, lit_21, lit_22, lit_23, lit_24, lit_25, lit_26, lit_27, lit_28, lit_29, lit_30, lit_31, lit_32, lit_33, lit_34, lit_35, lit_36, lit_37, lit_38, lit_39, lit_40, lit_41, lit_42, lit_43, lit_44, lit_45, lit_46, lit_47, lit_48, lit_49, lit_50, lit_51, lit_52, lit_53, lit_54, lit_55, lit_56, lit_57, lit_58, lit_59, lit_60, lit_61, lit_62, lit_63, lit_64, lit_80, lit_100, lit_524287, lit_262143, lit_384, lit_1001, lit_1002, lit_61267, nI_add, pk_mul, pk_div, nI_rm, pk_sub, Nrm, Nrm8, Nrm4, nI_inT, nI_clamp, nI_ltT, nI_ltF, nI_eqT, nI_eqF, nI_ltI, nI_eq, nI_ushr, m4, m8, if_true, if_false, true_and, and_true, true_or, or_true, not_false_eq_true, not_true_eq_false, Nat.reduceAdd, Nat.reduceDiv, Nat.reduceMod, Nat.reduceMul, Nat.add_zero, Nat.lt_irrefl, pAdd_0, pK_n, pK_v]
  | succ m ih =>
    intro i g hi
    rw [← ih (i + 1) g (by omega), w118_50]
    have n8 : ¬ nI 8 = nI 0 := by decide
    have e1' : e3.2.2.2.1 + nI 1 = nI (x + 1) := by rw [hnx]; exact nI_add x 1
    have ec : upd (va_cpy e1.1 g (80 + 8 * ((x + 1 + k) % 8)) 0 i) i (e1.1 (80 + 8 * ((x + 1 + k) % 8) + i)) = va_cpy e1.1 g (80 + 8 * ((x + 1 + k) % 8)) 0 (i + 1) := by
      have h := cpy_s (f := e1.1) (g := g) (sp := 80 + 8 * ((x + 1 + k) % 8)) (dp := 0) (n := i)
      rw [Nat.zero_add] at h
      exact h
    simp (disch := omega) only [w118_52, w118_54, w118_57, w118_58, w118_61, w118_63, w118_64, w118_67, w118_69, w118_70, w118_73, w118_74, w118_75, w118_77, w118_78, w118_80, w118_81, w118_83, w118_84, w118_85, w118_87, w118_88, w118_89, w118_90, w118_93, rS_i13, rS_g13_0, rS_g13_1, rS_g13_2, rS_g13_3, rS_g13_4, rS_g13_5, rS_g13_6, rS_g13_7, rS_g13_8, rS_g13_9, rS_g13_10, rS_g13_11, rS_p13_11, rS_g13_12, rS_p13_12, rS_g13_13, rS_p13_13, rS_g13_14, rS_p13_14, rS_g13_15, rS_p13_15, rS_g13_16, rS_p13_16, rS_g13_17, rS_p13_17, rS_g13_18, rS_p13_18, rS_g13_19, rS_p13_19, rS_g13_20, rS_p13_20, rS_g13_21, rS_p13_21, rS_g13_22, rS_p13_22, rS_g13_23, rS_p13_23, rS_g13_24, rS_p13_24, rS_g13_25, rS_g13_26, rS_p13_26, rS_a14, rS_u14, rS_l14, rS_a15, rS_u15, rS_l15, rS_a16, rS_u16, rS_l16, rS_a17, rS_u17, rS_l17, rS_a18, rS_u18, rS_l18, rS_a19, rS_u19, rS_l19, rS_a20, rS_u20, rS_a21, rS_u21, rS_a22, rS_u22, rS_a23, rS_u23, rS_l23, rS_a24, rS_u24, rS_a25, rS_u25, rS_l25, e1', lit_0, lit_1, lit_2, lit_3, lit_4, lit_5, lit_6, lit_7, lit_8, lit_9, lit_10, lit_11, lit_12, lit_13, lit_14, lit_15, lit_16, lit_17, lit_18, lit_19, lit_20, lit_21, lit_22, lit_23, lit_24, lit_25, lit_26, lit_27, lit_28, lit_29, lit_30, lit_31, lit_32, lit_33, lit_34, lit_35, lit_36, lit_37, lit_38, lit_39, lit_40, lit_41, lit_42, lit_43, lit_44, lit_45, lit_46, lit_47, lit_48, lit_49, lit_50, lit_51, lit_52, lit_53, lit_54, lit_55, lit_56, lit_57, lit_58, lit_59, lit_60, lit_61, lit_62, lit_63, lit_64, lit_80, lit_100, lit_524287, lit_262143, lit_384, lit_1001, lit_1002, lit_61267, nI_add, pk_mul, pk_div, nI_rm, pk_sub, Nrm, Nrm8, Nrm4, nI_inT, nI_clamp, nI_ltT, nI_ltF, nI_eqT, nI_eqF, nI_ltI, nI_eq, nI_ushr, m4, m8, if_true, if_false, true_and, and_true, true_or, or_true, not_false_eq_true, not_true_eq_false, Nat.reduceAdd, Nat.reduceDiv, Nat.reduceMod, Nat.reduceMul, Nat.add_zero, Nat.lt_irrefl, pAdd_0, pK_n, pK_v, n8, ec]
theorem rnum_j {f g : Nat → Int32} {x k : Nat} (hx : x < 8) (hk : k < 8) (h : ∀ q, 80 ≤ q → q < 144 → f q = g q) : rnum f (80 + 8 * x) k = rnum g (80 + 8 * x) k := by
  unfold rnum
  rw [h (80 + 8 * x + 3 + k / 2) (by omega) (by omega)]
theorem q_rmid_l {x n : Nat} {y1 y2 : Int32} (hx : x < 8) (hn : n ≤ 6) (hnx : e3.2.2.2.1 = nI x) : ∀ m k (e1 : rS1) s c z5, k + m = n → rOk e1 c → c + m < 100 → (∀ j, k ≤ j → j < n → e1.2.2.2.2.2.1 = nI 0 → okR (rnum e1.1 (80 + 8 * x) j) = true) → ∃ z5', (pW X 118 39 [.ref 13, .int y1, .int y2, .int (nI (n + 2)), .int (nI k), z5] [] (rSW e1 e2 (e3.1, e3.2.1, e3.2.2.1, e3.2.2.2.1, e3.2.2.2.2.1, e3.2.2.2.2.2.1, e3.2.2.2.2.2.2.1, s) e4 R) nx ok Q ↔ pW X 118 127 [.ref 13, .int y1, .int y2, .int (nI (n + 2)), .int (nI n), z5'] [] (rSW (rmid x m k e1 s).1 e2 (e3.1, e3.2.1, e3.2.2.1, e3.2.2.2.1, e3.2.2.2.2.1, e3.2.2.2.2.2.1, e3.2.2.2.2.2.2.1, (rmid x m k e1 s).2) e4 R) nx ok Q) := by
  intro m
  induction m with
  | zero =>
    intro k e1 s c z5 hk ho hc hj
    have e : k = n := by omega
    subst e
    refine ⟨z5, ?_⟩
    rw [w118_39]
    simp (disch := omega) only [w118_41, w118_42, w118_43, w118_44, lit_0, lit_1, lit_2, lit_3, lit_4, lit_5, lit_6, lit_7, lit_8, lit_9, lit_10, lit_11, lit_12, lit_13, lit_14, lit_15, lit_16, lit_17, lit_18, lit_19, lit_20, lit_21, lit_22, lit_23, lit_24, lit_25, lit_26, lit_27, lit_28, lit_29, lit_30, lit_31, lit_32, lit_33, lit_34, lit_35, lit_36, lit_37, lit_38, lit_39, lit_40, lit_41, lit_42, lit_43, lit_44, lit_45, lit_46, lit_47, lit_48, lit_49, lit_50, lit_51, lit_52, lit_53, lit_54, lit_55, lit_56, lit_57, lit_58, lit_59, lit_60, lit_61, lit_62, lit_63, lit_64, lit_80, lit_100, lit_524287, lit_262143, lit_384, lit_1001, lit_1002, lit_61267, nI_add, pk_mul, pk_div, nI_rm, pk_sub, Nrm, Nrm8, Nrm4, nI_inT, nI_clamp, nI_ltT, nI_ltF, nI_eqT, nI_eqF, nI_ltI, nI_eq, nI_ushr, m4, m8, if_true, if_false, true_and, and_true, true_or, or_true, not_false_eq_true, not_true_eq_false, Nat.reduceAdd, Nat.reduceDiv, Nat.reduceMod, Nat.reduceMul, Nat.add_zero, Nat.lt_irrefl, pAdd_0, pK_n, pK_v, Nat.add_sub_cancel, rmid]
  | succ m ih =>
    intro k e1 s c z5 hk ho hc hj
    have hr : ∀ h0 : e1.2.2.2.2.2.1 = nI 0, ∃ b, b < 48 ∧ rnum e1.1 (80 + 8 * x) k = nI b ∧ 1 ≤ b ∧ (b ≤ 9 ∨ 18 ≤ b) := fun h0 => okR_n (hj k (Nat.le_refl k) (by omega) h0)
    have o2 : rOk (rPut (rnum e1.1 (80 + 8 * x) k).toNatClampNeg 0 (rsc e1 x k s) e1) (c + 1) := by
      by_cases h0 : e1.2.2.2.2.2.1 = nI 0
      · obtain ⟨b, hb, he, -, -⟩ := hr h0
        rw [he, nI_clamp (by omega)]
        exact rPut_ok hb (by omega) ho
      · rw [rPut_gone h0]
        exact rOk_le ho (by omega)
    have hj2 : ∀ j, k + 1 ≤ j → j < n → (rPut (rnum e1.1 (80 + 8 * x) k).toNatClampNeg 0 (rsc e1 x k s) e1).2.2.2.2.2.1 = nI 0 → okR (rnum (rPut (rnum e1.1 (80 + 8 * x) k).toNatClampNeg 0 (rsc e1 x k s) e1).1 (80 + 8 * x) j) = true := by
      intro j h1 h2 h3
      obtain ⟨h4, h5⟩ := rPut_alive h3
      obtain ⟨b, hb, he, hb1, hb2⟩ := hr h4
      rw [h5, rnum_j (g := e1.1) hx (by omega) (fun q hq1 hq2 => pk_cpy_out (by rw [he, nI_clamp (by omega)]; omega))]
      exact hj j (by omega) h2 h4
    obtain ⟨z5', h2⟩ := ih (k + 1) (rPut (rnum e1.1 (80 + 8 * x) k).toNatClampNeg 0 (rsc e1 x k s) e1) (rsc e1 x k s) (c + 1) (.int (nI 8)) (by omega) o2 (by omega) hj2
    refine ⟨z5', ?_⟩
    have hcc := q_rmid_c (X := X) (nx := nx) (ok := ok) (Q := Q) (e1 := e1) (e2 := e2) (e3 := (e3.1, e3.2.1, e3.2.2.1, e3.2.2.2.1, e3.2.2.2.2.1, e3.2.2.2.2.2.1, e3.2.2.2.2.2.2.1, s)) (e4 := e4) (R := R) (x := x) (k := k) (y1 := y1) (y2 := y2) (n := n + 2) hx (by omega) hnx 8 0 s rfl
    rw [cpy_0] at hcc
    rw [w118_39]
    simp (disch := omega) only [w118_41, w118_42, w118_43, w118_44, w118_47, w118_48, lit_0, lit_1, lit_2, lit_3, lit_4, lit_5, lit_6, lit_7, lit_8, lit_9, lit_10, lit_11, lit_12, lit_13, lit_14, lit_15, lit_16, lit_17, lit_18, lit_19, lit_20, lit_21, lit_22, lit_23, lit_24, lit_25, lit_26, lit_27, lit_28, lit_29, lit_30, lit_31, lit_32, lit_33, lit_34, lit_35, lit_36, lit_37, lit_38, lit_39, lit_40, lit_41, lit_42, lit_43, lit_44, lit_45, lit_46, lit_47, lit_48, lit_49, lit_50, lit_51, lit_52, lit_53, lit_54, lit_55, lit_56, lit_57, lit_58, lit_59, lit_60, lit_61, lit_62, lit_63, lit_64, lit_80, lit_100, lit_524287, lit_262143, lit_384, lit_1001, lit_1002, lit_61267, nI_add, pk_mul, pk_div, nI_rm, pk_sub, Nrm, Nrm8, Nrm4, nI_inT, nI_clamp, nI_ltT, nI_ltF, nI_eqT, nI_eqF, nI_ltI, nI_eq, nI_ushr, m4, m8, if_true, if_false, true_and, and_true, true_or, or_true, not_false_eq_true, not_true_eq_false, Nat.reduceAdd, Nat.reduceDiv, Nat.reduceMod, Nat.reduceMul, Nat.add_zero, Nat.lt_irrefl, pAdd_0, pK_n, pK_v, Nat.add_sub_cancel]
    refine hcc.trans ?_
    have e8 : e3.2.2.2.1 * nI 8 = nI (8 * x) := by rw [hnx, pk_mul, Nat.mul_comm]
    have hp := fun Q => q_rput25i (X := X) (nx := nx) (ok := ok) (Q := Q) (e1 := e1) (e2 := e2) (e3 := (e3.1, e3.2.1, e3.2.2.1, e3.2.2.2.1, e3.2.2.2.2.1, e3.2.2.2.2.2.1, e3.2.2.2.2.2.2.1, rsc e1 x k s)) (e4 := e4) (R := R) (b := rnum e1.1 (80 + 8 * x) k) (n := c) (fun h0 => (hr h0).elim fun b hb => ⟨b, hb.1, hb.2.1⟩) ho (by omega)
    simp (disch := omega) only [w118_96, w118_97, w118_98, w118_100, w118_101, w118_104, w118_106, w118_107, w118_108, w118_110, w118_113, w118_114, w118_117, w118_118, rS_i13, rS_g13_0, rS_g13_1, rS_g13_2, rS_g13_3, rS_g13_4, rS_g13_5, rS_g13_6, rS_g13_7, rS_g13_8, rS_g13_9, rS_g13_10, rS_g13_11, rS_p13_11, rS_g13_12, rS_p13_12, rS_g13_13, rS_p13_13, rS_g13_14, rS_p13_14, rS_g13_15, rS_p13_15, rS_g13_16, rS_p13_16, rS_g13_17, rS_p13_17, rS_g13_18, rS_p13_18, rS_g13_19, rS_p13_19, rS_g13_20, rS_p13_20, rS_g13_21, rS_p13_21, rS_g13_22, rS_p13_22, rS_g13_23, rS_p13_23, rS_g13_24, rS_p13_24, rS_g13_25, rS_g13_26, rS_p13_26, rS_a14, rS_u14, rS_l14, rS_a15, rS_u15, rS_l15, rS_a16, rS_u16, rS_l16, rS_a17, rS_u17, rS_l17, rS_a18, rS_u18, rS_l18, rS_a19, rS_u19, rS_l19, rS_a20, rS_u20, rS_a21, rS_u21, rS_a22, rS_u22, rS_a23, rS_u23, rS_l23, rS_a24, rS_u24, rS_a25, rS_u25, rS_l25, e8, lit_0, lit_1, lit_2, lit_3, lit_4, lit_5, lit_6, lit_7, lit_8, lit_9, lit_10, lit_11, lit_12, lit_13, lit_14, lit_15, lit_16, lit_17, lit_18, lit_19, lit_20, lit_21, lit_22, lit_23, lit_24, lit_25, lit_26, lit_27, lit_28, lit_29, lit_30, lit_31, lit_32, lit_33, lit_34, lit_35, lit_36, lit_37, lit_38, lit_39, lit_40, lit_41, lit_42, lit_43, lit_44, lit_45, lit_46, lit_47, lit_48, lit_49, lit_50, lit_51, lit_52, lit_53, lit_54, lit_55, lit_56, lit_57, lit_58, lit_59, lit_60, lit_61, lit_62, lit_63, lit_64, lit_80, lit_100, lit_524287, lit_262143, lit_384, lit_1001, lit_1002, lit_61267, nI_add, pk_mul, pk_div, nI_rm, pk_sub, Nrm, Nrm8, Nrm4, nI_inT, nI_clamp, nI_ltT, nI_ltF, nI_eqT, nI_eqF, nI_ltI, nI_eq, nI_ushr, m4, m8, if_true, if_false, true_and, and_true, true_or, or_true, not_false_eq_true, not_true_eq_false, Nat.reduceAdd, Nat.reduceDiv, Nat.reduceMod, Nat.reduceMul, Nat.add_zero, Nat.lt_irrefl, pAdd_0, pK_n, pK_v, q_rnum (show 80 + 8 * x + 3 + k / 2 < 384 by omega) (show k < 100 by omega)]
    refine (hp _).trans ?_
    simp (disch := omega) only [w118_121, w118_124, lit_0, lit_1, lit_2, lit_3, lit_4, lit_5, lit_6, lit_7, lit_8, lit_9, lit_10, lit_11, lit_12, lit_13, lit_14, lit_15, lit_16, lit_17, lit_18, lit_19, lit_20, lit_21, lit_22, lit_23, lit_24, lit_25, lit_26, lit_27, lit_28, lit_29, lit_30, lit_31, lit_32, lit_33, lit_34, lit_35, lit_36, lit_37, lit_38, lit_39, lit_40, lit_41, lit_42, lit_43, lit_44, lit_45, lit_46, lit_47, lit_48, lit_49, lit_50, lit_51, lit_52, lit_53, lit_54, lit_55, lit_56, lit_57, lit_58, lit_59, lit_60, lit_61, lit_62, lit_63, lit_64, lit_80, lit_100, lit_524287, lit_262143, lit_384, lit_1001, lit_1002, lit_61267, nI_add, pk_mul, pk_div, nI_rm, pk_sub, Nrm, Nrm8, Nrm4, nI_inT, nI_clamp, nI_ltT, nI_ltF, nI_eqT, nI_eqF, nI_ltI, nI_eq, nI_ushr, m4, m8, if_true, if_false, true_and, and_true, true_or, or_true, not_false_eq_true, not_true_eq_false, Nat.reduceAdd, Nat.reduceDiv, Nat.reduceMod, Nat.reduceMul, Nat.add_zero, Nat.lt_irrefl, pAdd_0, pK_n, pK_v]
    exact h2
/-- what recovery does: how many were found, the device, place, sequence, scratch -/
def rrecF : Nat → Nat → Nat → rS1 → Nat → Int32 → (Nat → Int32) → Nat × rS1 × Nat × Int32 × (Nat → Int32)
  | 0, c, _, e, x, q, s => (c, e, x, q, s)
  | m + 1, c, p, e, x, q, s => if nI 0 < rrec e.1 x q then (if p + (rrec e.1 x q).toNatClampNeg ≤ 8 then (if e.2.2.2.2.2.1 = nI 0 then
      rrecF m (c + 1) (p + (rrec e.1 x q).toNatClampNeg) (rmid x ((rrec e.1 x q).toNatClampNeg - 2) 0 e s).1 ((x + (rrec e.1 x q).toNatClampNeg) % 8) (q + nI 1) (rmid x ((rrec e.1 x q).toNatClampNeg - 2) 0 e s).2
      else (c, e, x, q, s)) else (c, e, x, q, s)) else (c, e, x, q, s)
theorem rrF_v {f : Nat → Int32} {x n : Nat} {q : Int32} : ∀ m k s, rrF f x n q m k s = nI 0 ∨ (rrF f x n q m k s = nI (n + 2) ∧ ∀ j, k ≤ j → j < k + m → okR (rnum f (80 + 8 * x) j) = true) := by
  intro m
  induction m with
  | zero =>
    intro k s
    unfold rrF
    repeat' split
    · exact Or.inr ⟨rfl, fun j h1 h2 => by omega⟩
    · exact Or.inl rfl
    · exact Or.inl rfl
    · exact Or.inl rfl
  | succ m ih =>
    intro k s
    unfold rrF
    split
    · rename_i h
      rcases ih (k + 1) (smF f (80 + 8 * ((x + 1 + k) % 8)) 8 s) with h2 | ⟨h2, h3⟩
      · exact Or.inl h2
      · refine Or.inr ⟨h2, fun j h4 h5 => ?_⟩
        by_cases e : j = k
        · subst e
          exact h
        · exact h3 j (by omega) (by omega)
    · exact Or.inl rfl
theorem rrec_v {f : Nat → Int32} {x : Nat} {q : Int32} : rrec f x q = nI 0 ∨ ∃ n, 1 ≤ n ∧ n ≤ 6 ∧ rrec f x q = nI (n + 2) ∧ ∀ j, j < n → okR (rnum f (80 + 8 * x) j) = true := by
  unfold rrec
  by_cases h1 : f (80 + 8 * x) = nI 1001
  · by_cases h2 : f (80 + 8 * x + 1) = q
    · by_cases h3 : f (80 + 8 * x + 2) < nI 1
      · simp only [h1, h2, h3, if_true]
        exact Or.inl trivial
      · by_cases h4 : nI 6 < f (80 + 8 * x + 2)
        · simp only [h1, h2, h3, h4, if_true, if_false]
          exact Or.inl trivial
        · obtain ⟨j, hj6, hj⟩ := nI_of2 (x := f (80 + 8 * x + 2)) (M := nI 6) (n := 6) rfl (fun h => h3 (Int32.lt_trans h (by decide))) (Int32.not_lt.mp h4)
          have hc : (nI j).toNatClampNeg = j := nI_clamp (by omega)
          have hj1 : 1 ≤ j := by
            by_cases g : 1 ≤ j
            · exact g
            · rw [hj] at h3
              exact absurd (nI_lt (a := j) (b := 1) (by omega) (by decide)) h3
          simp only [h1, h2, h3, h4, if_true, if_false]
          rw [hj, hc]
          rcases rrF_v (f := f) (x := x) (n := j) (q := q) j 0 (nI 0) with h | ⟨h, h5⟩
          · exact Or.inl h
          · exact Or.inr ⟨j, hj1, hj6, h, fun i hi => h5 i (Nat.zero_le i) (by omega)⟩
    · simp only [h1, h2, if_true, if_false]
      exact Or.inl trivial
  · simp only [h1, if_false]
    exact Or.inl trivial
theorem rmid_ok {x : Nat} {n : Nat} (hx : x < 8) (hn : n ≤ 6) : ∀ m k e s c, k + m = n → rOk e c → c + m < 100 → (∀ j, k ≤ j → j < n → e.2.2.2.2.2.1 = nI 0 → okR (rnum e.1 (80 + 8 * x) j) = true) → rOk (rmid x m k e s).1 (c + m) := by
  intro m
  induction m with
  | zero =>
    intro k e s c hk ho hc hj
    exact ho
  | succ m ih =>
    intro k e s c hk ho hc hj
    have hr : ∀ h0 : e.2.2.2.2.2.1 = nI 0, ∃ b, b < 48 ∧ rnum e.1 (80 + 8 * x) k = nI b ∧ 1 ≤ b ∧ (b ≤ 9 ∨ 18 ≤ b) := fun h0 => okR_n (hj k (Nat.le_refl k) (by omega) h0)
    have o2 : rOk (rPut (rnum e.1 (80 + 8 * x) k).toNatClampNeg 0 (rsc e x k s) e) (c + 1) := by
      by_cases h0 : e.2.2.2.2.2.1 = nI 0
      · obtain ⟨b, hb, he, -, -⟩ := hr h0
        rw [he, nI_clamp (by omega)]
        exact rPut_ok hb (by omega) ho
      · rw [rPut_gone h0]
        exact rOk_le ho (by omega)
    refine rOk_le (ih (k + 1) _ _ (c + 1) (by omega) o2 (by omega) ?_) (by omega)
    intro j h1 h2 h3
    obtain ⟨h4, h5⟩ := rPut_alive h3
    obtain ⟨b, hb, he, hb1, hb2⟩ := hr h4
    rw [h5, rnum_j (g := e.1) hx (by omega) (fun q hq1 hq2 => pk_cpy_out (by rw [he, nI_clamp (by omega)]; omega))]
    exact hj j (by omega) h2 h4
end RUN
