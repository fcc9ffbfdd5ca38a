/-! THE JOURNAL -/
section RUN
variable {X : pScr} {nx : Nat} {ok : Bool} {Q : pRes → Prop} {d1 : cS1} {d4 : cS4} {d6 : cS6} {d9 : cS9} {R : pMem} {M : pMem}
/-- from block b on, m blocks: those of the set are written, each from its place in f; whether power held -/
def putsF (u : Int64) (f : Nat → Int32) : Nat → Nat → cS1 → Bool × cS1
  | 0, _, d => (true, d)
  | m + 1, b, d => if lb u b = true then (if d.2.2.2.2.2.1 = 0 then (false, dDie d) else putsF u f m (b + 1) (dPut (dSp d) b (8 * b) f)) else putsF u f m (b + 1) d
theorem q_ckpt_l : ∀ m b d1, b + m = 48 → (pW X 57 11 [.ref 6, .int (nI b)] [] (cSW d1 d4 d6 d9 R) nx ok Q ↔ (if (putsF d6.2.2.1 d6.1 m b d1).1 = true then pW X 57 50 [.ref 6, .int (nI 48)] [] (cSW (putsF d6.2.2.1 d6.1 m b d1).2 d4 d6 d9 R) nx ok Q else Q (.inr 4, cSW (putsF d6.2.2.1 d6.1 m b d1).2 d4 d6 d9 R, nx, false, 1, 6))) := by
  intro m
  have hx : pHx 57 = [] := by decide +kernel
  induction m with
  | zero =>
    intro b d1 hn
    have e : b = 48 := by omega
    subst e
    have h48 : ¬ nI 48 < 48 := nI_nlt (b := 48) (by omega) (by decide)
    simp only [w57_11, w57_12, w57_14, h48, if_false, putsF, if_true]
  | succ m ih =>
    intro b d1 hn
    rw [w57_11]
    have h48 : nI b < 48 := nI_lt (b := 48) (by omega) (by decide)
    have e8 : nI b * 8 = nI (8 * b) := by rw [Nat.mul_comm]; exact pk_mul b 8
    simp only [w57_0, w57_1, w57_4, w57_5, w57_6, w57_9, w57_10, w57_12, w57_14, w57_17, w57_18, w57_21, w57_22, w57_25, w57_28, w57_29, w57_32, w57_33, w57_34, w57_37, w57_38, w57_40, w57_41, w57_44, w57_47, w57_50, w57_51, w57_54, w57_57, w57_58, w57_59, w57_62, w57_63, w57_64, w57_67, w57_68, w57_69, w57_72, w57_73, w57_74, w57_77, w57_78, w57_79, w57_82, cS_i0, cS_g0_0, cS_g0_1, cS_g0_2, cS_g0_3, cS_i1, cS_g1_0, cS_g1_1, cS_g1_2, cS_p1_2, cS_g1_3, cS_p1_3, cS_g1_4, cS_p1_4, cS_g1_5, cS_p1_5, cS_g1_6, cS_p1_6, cS_g1_7, cS_p1_7, cS_a2, cS_u2, cS_l2, cS_c2_2, cS_c2_3, cS_c2_5, cS_c2_7, cS_c2_8, cS_c2_10, cS_c2_11, cS_c2_12, cS_a3, cS_u3, cS_l3, cS_c3_2, cS_c3_3, cS_c3_5, cS_c3_7, cS_c3_8, cS_c3_10, cS_c3_11, cS_c3_12, cS_i4, cS_g4_0, cS_g4_1, cS_p4_1, cS_g4_2, cS_p4_2, cS_g4_3, cS_p4_3, cS_g4_4, cS_p4_4, cS_a5, cS_u5, cS_l5, cS_c5_2, cS_c5_3, cS_c5_5, cS_c5_7, cS_c5_8, cS_c5_10, cS_c5_11, cS_c5_12, cS_i6, cS_g6_0, cS_g6_1, cS_g6_2, cS_g6_3, cS_g6_4, cS_p6_4, cS_g6_5, cS_p6_5, cS_g6_6, cS_p6_6, cS_g6_7, cS_p6_7, cS_g6_8, cS_p6_8, cS_g6_9, cS_p6_9, cS_a7, cS_u7, cS_l7, cS_c7_2, cS_c7_3, cS_c7_5, cS_c7_7, cS_c7_8, cS_c7_10, cS_c7_11, cS_c7_12, cS_a8, cS_u8, cS_l8, cS_c8_2, cS_c8_3, cS_c8_5, cS_c8_7, cS_c8_8, cS_c8_10, cS_c8_11, cS_c8_12, cS_i9, cS_g9_0, cS_g9_1, cS_g9_2, cS_a10, cS_u10, cS_l10, cS_c10_2, cS_c10_3, cS_c10_5, cS_c10_7, cS_c10_8, cS_c10_10, cS_c10_11, cS_c10_12, cS_a11, cS_u11, cS_l11, cS_c11_2, cS_c11_3, cS_c11_5, cS_c11_7, cS_c11_8, cS_c11_10, cS_c11_11, cS_c11_12, cS_a12, cS_u12, cS_l12, cS_c12_2, cS_c12_3, cS_c12_5, cS_c12_7, cS_c12_8, cS_c12_10, cS_c12_11, cS_c12_12, pK_n, pK_v, pK_x hx, pAdd_0, Nat.reduceAdd, true_and, h48, if_true, q_holds (show b < 64 by omega), e8, lbI_0, nI_1, q_put7 (show b < 48 by omega) (show 8 * b + 8 ≤ 384 by omega), ih (b + 1) _ (show b + 1 + m = 48 by omega), putsF]
    by_cases h : lb d6.2.2.1 b = true
    · by_cases h2 : d1.2.2.2.2.2.1 = 0
      · simp only [h, h2, if_true, Bool.true_eq_false, if_false, Bool.false_eq_true]
      · simp only [h, h2, if_true, Bool.true_eq_false, if_false, Bool.false_eq_true]
    · simp only [h, if_true, Bool.false_eq_true, if_false]
theorem q_loose_l : ∀ m b d1, b + m = 48 → (pW X 60 16 [.ref 6, .int (nI b)] [] (cSW d1 d4 d6 d9 R) nx ok Q ↔ (if (putsF d4.2.2.1 d4.1 m b d1).1 = true then pW X 60 61 [.ref 6, .int (nI 48)] [] (cSW (putsF d4.2.2.1 d4.1 m b d1).2 d4 d6 d9 R) nx ok Q else Q (.inr 4, cSW (putsF d4.2.2.1 d4.1 m b d1).2 d4 d6 d9 R, nx, false, 1, 6))) := by
  intro m
  have hx : pHx 60 = [] := by decide +kernel
  induction m with
  | zero =>
    intro b d1 hn
    have e : b = 48 := by omega
    subst e
    have h48 : ¬ nI 48 < 48 := nI_nlt (b := 48) (by omega) (by decide)
    simp only [w60_16, w60_17, w60_19, h48, if_false, putsF, if_true]
  | succ m ih =>
    intro b d1 hn
    rw [w60_16]
    have h48 : nI b < 48 := nI_lt (b := 48) (by omega) (by decide)
    have e8 : nI b * 8 = nI (8 * b) := by rw [Nat.mul_comm]; exact pk_mul b 8
    simp only [w60_0, w60_1, w60_4, w60_7, w60_8, w60_9, w60_12, w60_13, w60_15, w60_17, w60_19, w60_22, w60_23, w60_26, w60_29, w60_30, w60_33, w60_36, w60_37, w60_40, w60_41, w60_42, w60_45, w60_48, w60_49, w60_51, w60_52, w60_55, w60_58, w60_61, w60_62, w60_65, w60_68, cS_i0, cS_g0_0, cS_g0_1, cS_g0_2, cS_g0_3, cS_i1, cS_g1_0, cS_g1_1, cS_g1_2, cS_p1_2, cS_g1_3, cS_p1_3, cS_g1_4, cS_p1_4, cS_g1_5, cS_p1_5, cS_g1_6, cS_p1_6, cS_g1_7, cS_p1_7, cS_a2, cS_u2, cS_l2, cS_c2_2, cS_c2_3, cS_c2_5, cS_c2_7, cS_c2_8, cS_c2_10, cS_c2_11, cS_c2_12, cS_a3, cS_u3, cS_l3, cS_c3_2, cS_c3_3, cS_c3_5, cS_c3_7, cS_c3_8, cS_c3_10, cS_c3_11, cS_c3_12, cS_i4, cS_g4_0, cS_g4_1, cS_p4_1, cS_g4_2, cS_p4_2, cS_g4_3, cS_p4_3, cS_g4_4, cS_p4_4, cS_a5, cS_u5, cS_l5, cS_c5_2, cS_c5_3, cS_c5_5, cS_c5_7, cS_c5_8, cS_c5_10, cS_c5_11, cS_c5_12, cS_i6, cS_g6_0, cS_g6_1, cS_g6_2, cS_g6_3, cS_g6_4, cS_p6_4, cS_g6_5, cS_p6_5, cS_g6_6, cS_p6_6, cS_g6_7, cS_p6_7, cS_g6_8, cS_p6_8, cS_g6_9, cS_p6_9, cS_a7, cS_u7, cS_l7, cS_c7_2, cS_c7_3, cS_c7_5, cS_c7_7, cS_c7_8, cS_c7_10, cS_c7_11, cS_c7_12, cS_a8, cS_u8, cS_l8, cS_c8_2, cS_c8_3, cS_c8_5, cS_c8_7, cS_c8_8, cS_c8_10, cS_c8_11, cS_c8_12, cS_i9, cS_g9_0, cS_g9_1, cS_g9_2, cS_a10, cS_u10, cS_l10, cS_c10_2, cS_c10_3, cS_c10_5, cS_c10_7, cS_c10_8, cS_c10_10, cS_c10_11, cS_c10_12, cS_a11, cS_u11, cS_l11, cS_c11_2, cS_c11_3, cS_c11_5, cS_c11_7, cS_c11_8, cS_c11_10, cS_c11_11, cS_c11_12, cS_a12, cS_u12, cS_l12, cS_c12_2, cS_c12_3, cS_c12_5, cS_c12_7, cS_c12_8, cS_c12_10, cS_c12_11, cS_c12_12, pK_n, pK_v, pK_x hx, pAdd_0, Nat.reduceAdd, true_and, h48, if_true, q_holds (show b < 64 by omega), e8, lbI_0, nI_1, q_put5 (show b < 48 by omega) (show 8 * b + 8 ≤ 384 by omega), ih (b + 1) _ (show b + 1 + m = 48 by omega), putsF]
    by_cases h : lb d4.2.2.1 b = true
    · by_cases h2 : d1.2.2.2.2.2.1 = 0
      · simp only [h, h2, if_true, Bool.true_eq_false, if_false, Bool.false_eq_true]
      · simp only [h, h2, if_true, Bool.true_eq_false, if_false, Bool.false_eq_true]
    · simp only [h, if_true, Bool.false_eq_true, if_false]
/-- a flush: whether power held -/
def flF (d : cS1) : Bool × cS1 := if d.2.2.2.2.2.1 = 0 then (false, dDie d) else (true, dFl (dSp d))
/-- a block is written -/
def putF (b at_ : Nat) (f : Nat → Int32) (d : cS1) : Bool × cS1 := if d.2.2.2.2.2.1 = 0 then (false, dDie d) else (true, dPut (dSp d) b at_ f)
/-- one thing behind another, as long as power holds -/
def thenF (r : Bool × cS1) (g : cS1 → Bool × cS1) : Bool × cS1 := if r.1 = true then g r.2 else r
theorem q_flF : pW X 51 0 [.ref 1] [] (cSW d1 d4 d6 d9 R) nx ok Q ↔ (if (flF d1).1 = true then Q (.inl none, cSW (flF d1).2 d4 d6 d9 R, nx, ok, 0, 0) else Q (.inr 4, cSW (flF d1).2 d4 d6 d9 R, nx, false, 1, 6)) := by
  rw [q_flush]
  unfold flF
  by_cases h : d1.2.2.2.2.2.1 = 0
  · simp only [h, if_true, if_false, Bool.false_eq_true]
  · simp only [h, if_true, if_false]
theorem q_putF8 : pW X 50 0 [.ref 1, .int 0, .ref 8, .int 0] [] (cSW d1 d4 d6 d9 R) nx ok Q ↔ (if (putF 0 0 d6.2.1 d1).1 = true then Q (.inl none, cSW (putF 0 0 d6.2.1 d1).2 d4 d6 d9 R, nx, ok, 0, 0) else Q (.inr 4, cSW (putF 0 0 d6.2.1 d1).2 d4 d6 d9 R, nx, false, 1, 6)) := by
  have h0 := q_put8 (X := X) (nx := nx) (ok := ok) (Q := Q) (d1 := d1) (d4 := d4) (d6 := d6) (d9 := d9) (R := R) (b := 0) (at_ := 0) (by decide) (by decide)
  rw [nI_0] at h0
  rw [h0]
  unfold putF
  by_cases h : d1.2.2.2.2.2.1 = 0
  · simp only [h, if_true, if_false, Bool.false_eq_true]
  · simp only [h, if_true, if_false]
/-- an array of n ints filled -/
def fillF (n : Nat) (x : Int32) (f : Nat → Int32) : Nat → Int32 := fun q => if q < n then x else f q
theorem fillF_s {n : Nat} {x : Int32} {f : Nat → Int32} : upd (fillF n x f) n x = fillF (n + 1) x f := by
  funext q
  by_cases h : q = n
  · subst h
    rw [pk_us]
    unfold fillF
    rw [if_pos (by omega)]
  · rw [pk_un h]
    unfold fillF
    have e : q < n ↔ q < n + 1 := by omega
    simp only [e]
theorem q_fill8_l {x : Int32} : ∀ m n, n + m = 8 → (pW X 200 5 [.ref 8, .int x, .int (nI n), .int 8] [] (cSW d1 d4 (d6.1, fillF n x d6.2.1, d6.2.2) d9 R) nx ok Q ↔ Q (.inl none, cSW d1 d4 (d6.1, fillF 8 x d6.2.1, d6.2.2) d9 R, nx, ok, 0, 0)) := by
  intro m
  induction m with
  | zero =>
    intro n hn
    have e : n = 8 := by omega
    subst e
    have h8 : ¬ nI 8 < 8 := nI_nlt (b := 8) (by omega) (by decide)
    rw [w200_5]
    simp only [w200_0, w200_1, w200_2, w200_3, w200_4, w200_6, w200_7, w200_10, w200_11, w200_12, w200_13, w200_14, w200_17, w200_20, h8, if_false]
  | succ m ih =>
    intro n hn
    have h8 : nI n < 8 := nI_lt (b := 8) (by omega) (by decide)
    have hc : (nI n).toNatClampNeg = n := nI_clamp (by omega)
    have hi : pIn (nI n) 8 = true := decide_eq_true (nI_in (by omega) (by decide))
    rw [← ih (n + 1) (by omega), w200_5]
    simp only [w200_0, w200_1, w200_2, w200_3, w200_4, w200_6, w200_7, w200_10, w200_11, w200_12, w200_13, w200_14, w200_17, w200_20, cS_i0, cS_g0_0, cS_g0_1, cS_g0_2, cS_g0_3, cS_i1, cS_g1_0, cS_g1_1, cS_g1_2, cS_p1_2, cS_g1_3, cS_p1_3, cS_g1_4, cS_p1_4, cS_g1_5, cS_p1_5, cS_g1_6, cS_p1_6, cS_g1_7, cS_p1_7, cS_a2, cS_u2, cS_l2, cS_c2_2, cS_c2_3, cS_c2_5, cS_c2_7, cS_c2_8, cS_c2_10, cS_c2_11, cS_c2_12, cS_a3, cS_u3, cS_l3, cS_c3_2, cS_c3_3, cS_c3_5, cS_c3_7, cS_c3_8, cS_c3_10, cS_c3_11, cS_c3_12, cS_i4, cS_g4_0, cS_g4_1, cS_p4_1, cS_g4_2, cS_p4_2, cS_g4_3, cS_p4_3, cS_g4_4, cS_p4_4, cS_a5, cS_u5, cS_l5, cS_c5_2, cS_c5_3, cS_c5_5, cS_c5_7, cS_c5_8, cS_c5_10, cS_c5_11, cS_c5_12, cS_i6, cS_g6_0, cS_g6_1, cS_g6_2, cS_g6_3, cS_g6_4, cS_p6_4, cS_g6_5, cS_p6_5, cS_g6_6, cS_p6_6, cS_g6_7, cS_p6_7, cS_g6_8, cS_p6_8, cS_g6_9, cS_p6_9, cS_a7, cS_u7, cS_l7, cS_c7_2, cS_c7_3, cS_c7_5, cS_c7_7, cS_c7_8, cS_c7_10, cS_c7_11, cS_c7_12, cS_a8, cS_u8, cS_l8, cS_c8_2, cS_c8_3, cS_c8_5, cS_c8_7, cS_c8_8, cS_c8_10, cS_c8_11, cS_c8_12, cS_i9, cS_g9_0, cS_g9_1, cS_g9_2, cS_a10, cS_u10, cS_l10, cS_c10_2, cS_c10_3, cS_c10_5, cS_c10_7, cS_c10_8, cS_c10_10, cS_c10_11, cS_c10_12, cS_a11, cS_u11, cS_l11, cS_c11_2, cS_c11_3, cS_c11_5, cS_c11_7, cS_c11_8, cS_c11_10, cS_c11_11, cS_c11_12, cS_a12, cS_u12, cS_l12, cS_c12_2, cS_c12_3, cS_c12_5, cS_c12_7, cS_c12_8, cS_c12_10, cS_c12_11, cS_c12_12, h8, if_true, hc, hi, true_and, nI_1, fillF_s]
theorem q_fill8 {x : Int32} : pW X 200 0 [.ref 8, .int x, pDum, pDum] [] (cSW d1 d4 d6 d9 R) nx ok Q ↔ Q (.inl none, cSW d1 d4 (d6.1, fillF 8 x d6.2.1, d6.2.2) d9 R, nx, ok, 0, 0) := by
  have h0 := q_fill8_l (X := X) (nx := nx) (ok := ok) (Q := Q) (d1 := d1) (d4 := d4) (d6 := d6) (d9 := d9) (R := R) (x := x) 8 0 rfl
  have e : fillF 0 x d6.2.1 = d6.2.1 := by
    funext q
    simp [fillF]
  rw [e, nI_0] at h0
  simp only [w200_0, w200_1, w200_2, w200_3, w200_4, w200_6, w200_7, w200_10, w200_11, w200_12, w200_13, w200_14, w200_17, w200_20, cS_i0, cS_g0_0, cS_g0_1, cS_g0_2, cS_g0_3, cS_i1, cS_g1_0, cS_g1_1, cS_g1_2, cS_p1_2, cS_g1_3, cS_p1_3, cS_g1_4, cS_p1_4, cS_g1_5, cS_p1_5, cS_g1_6, cS_p1_6, cS_g1_7, cS_p1_7, cS_a2, cS_u2, cS_l2, cS_c2_2, cS_c2_3, cS_c2_5, cS_c2_7, cS_c2_8, cS_c2_10, cS_c2_11, cS_c2_12, cS_a3, cS_u3, cS_l3, cS_c3_2, cS_c3_3, cS_c3_5, cS_c3_7, cS_c3_8, cS_c3_10, cS_c3_11, cS_c3_12, cS_i4, cS_g4_0, cS_g4_1, cS_p4_1, cS_g4_2, cS_p4_2, cS_g4_3, cS_p4_3, cS_g4_4, cS_p4_4, cS_a5, cS_u5, cS_l5, cS_c5_2, cS_c5_3, cS_c5_5, cS_c5_7, cS_c5_8, cS_c5_10, cS_c5_11, cS_c5_12, cS_i6, cS_g6_0, cS_g6_1, cS_g6_2, cS_g6_3, cS_g6_4, cS_p6_4, cS_g6_5, cS_p6_5, cS_g6_6, cS_p6_6, cS_g6_7, cS_p6_7, cS_g6_8, cS_p6_8, cS_g6_9, cS_p6_9, cS_a7, cS_u7, cS_l7, cS_c7_2, cS_c7_3, cS_c7_5, cS_c7_7, cS_c7_8, cS_c7_10, cS_c7_11, cS_c7_12, cS_a8, cS_u8, cS_l8, cS_c8_2, cS_c8_3, cS_c8_5, cS_c8_7, cS_c8_8, cS_c8_10, cS_c8_11, cS_c8_12, cS_i9, cS_g9_0, cS_g9_1, cS_g9_2, cS_a10, cS_u10, cS_l10, cS_c10_2, cS_c10_3, cS_c10_5, cS_c10_7, cS_c10_8, cS_c10_10, cS_c10_11, cS_c10_12, cS_a11, cS_u11, cS_l11, cS_c11_2, cS_c11_3, cS_c11_5, cS_c11_7, cS_c11_8, cS_c11_10, cS_c11_11, cS_c11_12, cS_a12, cS_u12, cS_l12, cS_c12_2, cS_c12_3, cS_c12_5, cS_c12_7, cS_c12_8, cS_c12_10, cS_c12_11, cS_c12_12]
  exact h0
/-- the first block as the journal writes it -/
def jFb (j : cS6) (s : Int32) : Nat → Int32 := upd (upd (upd (upd (fillF 8 0 j.2.1) 0 61267) 1 s) 2 j.2.2.2.2.2.1) 3 j.2.2.2.1
def firstF (j : cS6) (s : Int32) (d : cS1) : Bool × cS1 := thenF (putF 0 0 (jFb j s) d) flF
theorem q_first {s : Int32} : pW X 58 0 [.ref 6, .int s] [] (cSW d1 d4 d6 d9 R) nx ok Q ↔ (if (firstF d6 s d1).1 = true then Q (.inl none, cSW (firstF d6 s d1).2 d4 (d6.1, jFb d6 s, d6.2.2) d9 R, nx, ok, 0, 0) else Q (.inr 4, cSW (firstF d6 s d1).2 d4 (d6.1, jFb d6 s, d6.2.2) d9 R, nx, false, 1, 6)) := by
  have hx : pHx 58 = [] := by decide +kernel
  have i0 : pIn 0 8 = true := by decide
  have i1 : pIn 1 8 = true := by decide
  have i2 : pIn 2 8 = true := by decide
  have i3 : pIn 3 8 = true := by decide
  have t0 : Int32.toNatClampNeg 0 = 0 := rfl
  have t1 : Int32.toNatClampNeg 1 = 1 := rfl
  have t2 : Int32.toNatClampNeg 2 = 2 := rfl
  have t3 : Int32.toNatClampNeg 3 = 3 := rfl
  simp only [w58_0, w58_1, w58_4, w58_5, w58_8, w58_9, w58_12, w58_13, w58_15, w58_16, w58_17, w58_20, w58_21, w58_22, w58_23, w58_24, w58_27, w58_28, w58_29, w58_32, w58_33, w58_34, w58_37, w58_38, w58_39, w58_42, w58_43, w58_44, w58_47, w58_48, w58_49, w58_52, w58_53, w58_56, w58_57, w58_60, w58_63, cS_i0, cS_g0_0, cS_g0_1, cS_g0_2, cS_g0_3, cS_i1, cS_g1_0, cS_g1_1, cS_g1_2, cS_p1_2, cS_g1_3, cS_p1_3, cS_g1_4, cS_p1_4, cS_g1_5, cS_p1_5, cS_g1_6, cS_p1_6, cS_g1_7, cS_p1_7, cS_a2, cS_u2, cS_l2, cS_c2_2, cS_c2_3, cS_c2_5, cS_c2_7, cS_c2_8, cS_c2_10, cS_c2_11, cS_c2_12, cS_a3, cS_u3, cS_l3, cS_c3_2, cS_c3_3, cS_c3_5, cS_c3_7, cS_c3_8, cS_c3_10, cS_c3_11, cS_c3_12, cS_i4, cS_g4_0, cS_g4_1, cS_p4_1, cS_g4_2, cS_p4_2, cS_g4_3, cS_p4_3, cS_g4_4, cS_p4_4, cS_a5, cS_u5, cS_l5, cS_c5_2, cS_c5_3, cS_c5_5, cS_c5_7, cS_c5_8, cS_c5_10, cS_c5_11, cS_c5_12, cS_i6, cS_g6_0, cS_g6_1, cS_g6_2, cS_g6_3, cS_g6_4, cS_p6_4, cS_g6_5, cS_p6_5, cS_g6_6, cS_p6_6, cS_g6_7, cS_p6_7, cS_g6_8, cS_p6_8, cS_g6_9, cS_p6_9, cS_a7, cS_u7, cS_l7, cS_c7_2, cS_c7_3, cS_c7_5, cS_c7_7, cS_c7_8, cS_c7_10, cS_c7_11, cS_c7_12, cS_a8, cS_u8, cS_l8, cS_c8_2, cS_c8_3, cS_c8_5, cS_c8_7, cS_c8_8, cS_c8_10, cS_c8_11, cS_c8_12, cS_i9, cS_g9_0, cS_g9_1, cS_g9_2, cS_a10, cS_u10, cS_l10, cS_c10_2, cS_c10_3, cS_c10_5, cS_c10_7, cS_c10_8, cS_c10_10, cS_c10_11, cS_c10_12, cS_a11, cS_u11, cS_l11, cS_c11_2, cS_c11_3, cS_c11_5, cS_c11_7, cS_c11_8, cS_c11_10, cS_c11_11, cS_c11_12, cS_a12, cS_u12, cS_l12, cS_c12_2, cS_c12_3, cS_c12_5, cS_c12_7, cS_c12_8, cS_c12_10, cS_c12_11, cS_c12_12, q_fill8, pK_n, pK_v, pK_x hx, pAdd_0, Nat.reduceAdd, true_and, i0, i1, i2, i3, t0, t1, t2, t3, q_flF, q_putF8, firstF, thenF]
  show (if (putF 0 0 (jFb d6 s) d1).1 = true then _ else _) ↔ _
  by_cases h : (putF 0 0 (jFb d6 s) d1).1 = true
  · simp only [h, if_true]
    exact Iff.rfl
  · simp only [h, if_false, Bool.false_eq_true]
    exact Iff.rfl
end RUN
