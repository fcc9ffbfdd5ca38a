section RUN
variable {X : pScr} {nx : Nat} {ok : Bool} {Q : pRes → Prop} {d1 : cS1} {d4 : cS4} {d6 : cS6} {d9 : cS9} {R : pMem} {M : pMem}
/-- the blocks of a transaction are logged, from block b on, m blocks, the next at the k-th place: power held; device, committed, k, sum -/
def trF (u : Int64) (f : Nat → Int32) (ff : Nat) : Nat → Nat → Nat → Int32 → cS1 → (Nat → Int32) → Bool × cS1 × (Nat → Int32) × Nat × Int32
  | 0, _, k, s, d, c => (true, d, c, k, s)
  | m + 1, b, k, s, d, c => if lb u b = true then (if (putF (10 + (ff + k) % 8) (8 * b) f d).1 = true then trF u f ff m (b + 1) (k + 1) (smF f (8 * b) 8 s) (putF (10 + (ff + k) % 8) (8 * b) f d).2 (va_cpy f c (8 * b) (8 * b) 8) else (false, (putF (10 + (ff + k) % 8) (8 * b) f d).2, c, k, s)) else trF u f ff m (b + 1) k s d c
theorem q_trans_l {ff : Nat} (hff : ff < 8) : ∀ m b k s d1 (d6 : cS6), d6.2.2.2.1 = nI ff → b + m = 48 → k ≤ b + 1 → (pW X 62 6 [.ref 6, .int s, .int (nI k), .int (nI b)] [] (cSW d1 d4 d6 d9 R) nx ok Q ↔
    (if (trF d4.2.1 d4.1 ff m b k s d1 d6.1).1 = true then pW X 62 91 [.ref 6, .int (trF d4.2.1 d4.1 ff m b k s d1 d6.1).2.2.2.2, .int (nI (trF d4.2.1 d4.1 ff m b k s d1 d6.1).2.2.2.1), .int (nI 48)] [] (cSW (trF d4.2.1 d4.1 ff m b k s d1 d6.1).2.1 d4 ((trF d4.2.1 d4.1 ff m b k s d1 d6.1).2.2.1, d6.2) d9 R) nx ok Q
      else Q (.inr 4, cSW (trF d4.2.1 d4.1 ff m b k s d1 d6.1).2.1 d4 ((trF d4.2.1 d4.1 ff m b k s d1 d6.1).2.2.1, d6.2) d9 R, nx, false, 1, 6))) := by
  intro m
  have hx : pHx 62 = [] := by decide +kernel
  induction m with
  | zero =>
    intro b k s d1 d6 hf hn hk
    have e : b = 48 := by omega
    subst e
    have h48 : ¬ nI 48 < 48 := nI_nlt (b := 48) (by omega) (by decide)
    simp only [w62_6, w62_7, w62_9, h48, if_false, trF, if_true]
  | succ m ih =>
    intro b k s d1 d6 hf hn hk
    rw [w62_6]
    have h48 : nI b < 48 := nI_lt (b := 48) (by omega) (by decide)
    have e8 : nI b * 8 = nI (8 * b) := by rw [Nat.mul_comm]; exact pk_mul b 8
    have hc : (nI (8 * b)).toNatClampNeg = 8 * b := nI_clamp (by omega)
    have hr : pCr (nI (8 * b)) (nI (8 * b)) 8 384 384 := pCr_nI (n := 8) rfl (by omega) (by omega) (by decide) (by decide)
    have t8 : Int32.toNatClampNeg 8 = 8 := rfl
    simp only [w62_0, w62_1, w62_2, w62_3, w62_4, w62_5, w62_7, w62_9, w62_12, w62_13, w62_16, w62_19, w62_20, w62_23, w62_26, w62_27, w62_28, w62_29, w62_32, w62_35, w62_36, w62_38, w62_39, w62_42, w62_43, w62_46, w62_49, w62_50, w62_52, w62_53, w62_54, w62_57, w62_58, w62_60, w62_61, w62_63, w62_66, w62_67, w62_68, w62_71, w62_74, w62_75, w62_77, w62_78, w62_81, w62_82, w62_85, w62_88, cS_i0, cS_g0_0, cS_g0_1, cS_g0_2, cS_g0_3, cS_i1, cS_g1_0, cS_g1_1, cS_g1_2, cS_p1_2, cS_g1_3, cS_p1_3, cS_g1_4, cS_p1_4, cS_g1_5, cS_p1_5, cS_g1_6, cS_p1_6, cS_g1_7, cS_p1_7, cS_a2, cS_u2, cS_l2, cS_c2_2, cS_c2_3, cS_c2_5, cS_c2_7, cS_c2_8, cS_c2_10, cS_c2_11, cS_c2_12, cS_a3, cS_u3, cS_l3, cS_c3_2, cS_c3_3, cS_c3_5, cS_c3_7, cS_c3_8, cS_c3_10, cS_c3_11, cS_c3_12, cS_i4, cS_g4_0, cS_g4_1, cS_p4_1, cS_g4_2, cS_p4_2, cS_g4_3, cS_p4_3, cS_g4_4, cS_p4_4, cS_a5, cS_u5, cS_l5, cS_c5_2, cS_c5_3, cS_c5_5, cS_c5_7, cS_c5_8, cS_c5_10, cS_c5_11, cS_c5_12, cS_i6, cS_g6_0, cS_g6_1, cS_g6_2, cS_g6_3, cS_g6_4, cS_p6_4, cS_g6_5, cS_p6_5, cS_g6_6, cS_p6_6, cS_g6_7, cS_p6_7, cS_g6_8, cS_p6_8, cS_g6_9, cS_p6_9, cS_a7, cS_u7, cS_l7, cS_c7_2, cS_c7_3, cS_c7_5, cS_c7_7, cS_c7_8, cS_c7_10, cS_c7_11, cS_c7_12, cS_a8, cS_u8, cS_l8, cS_c8_2, cS_c8_3, cS_c8_5, cS_c8_7, cS_c8_8, cS_c8_10, cS_c8_11, cS_c8_12, cS_i9, cS_g9_0, cS_g9_1, cS_g9_2, cS_a10, cS_u10, cS_l10, cS_c10_2, cS_c10_3, cS_c10_5, cS_c10_7, cS_c10_8, cS_c10_10, cS_c10_11, cS_c10_12, cS_a11, cS_u11, cS_l11, cS_c11_2, cS_c11_3, cS_c11_5, cS_c11_7, cS_c11_8, cS_c11_10, cS_c11_11, cS_c11_12, cS_a12, cS_u12, cS_l12, cS_c12_2, cS_c12_3, cS_c12_5, cS_c12_7, cS_c12_8, cS_c12_10, cS_c12_11, cS_c12_12, pK_n, pK_v, pK_x hx, pAdd_0, Nat.reduceAdd, true_and, h48, if_true, q_holds (show b < 64 by omega), e8, lbI_0, nI_1, hc, hr, t8, q_place5 hf (show ff + k < 1000 by omega) (show 8 * b + 8 ≤ 384 by omega), q_sum5 (show 8 * b + 8 ≤ 384 by omega), trF]
    by_cases h : lb d4.2.1 b = true
    · by_cases h2 : (putF (10 + (ff + k) % 8) (8 * b) d4.1 d1).1 = true
      · have h3 := ih (b + 1) (k + 1) (smF d4.1 (8 * b) 8 s) (putF (10 + (ff + k) % 8) (8 * b) d4.1 d1).2 (va_cpy d4.1 d6.1 (8 * b) (8 * b) 8, d6.2) hf (by omega) (by omega)
        simp only [h, h2, if_true, Bool.true_eq_false, if_false, Bool.false_eq_true]
        exact h3
      · simp only [h, h2, if_true, Bool.true_eq_false, if_false, Bool.false_eq_true]
    · simp only [h, if_true, Bool.false_eq_true, if_false]
      exact ih (b + 1) k s d1 d6 hf (by omega) (by omega)
theorem q_trans {ff : Nat} (hff : ff < 8) (hf : d6.2.2.2.1 = nI ff) : pW X 62 0 [.ref 6, pDum, pDum, pDum] [] (cSW d1 d4 d6 d9 R) nx ok Q ↔
    (if (trF d4.2.1 d4.1 ff 48 0 1 0 d1 d6.1).1 = true then (if (flF (trF d4.2.1 d4.1 ff 48 0 1 0 d1 d6.1).2.1).1 = true then Q (.inl (some (.int (trF d4.2.1 d4.1 ff 48 0 1 0 d1 d6.1).2.2.2.2)), cSW (flF (trF d4.2.1 d4.1 ff 48 0 1 0 d1 d6.1).2.1).2 d4 ((trF d4.2.1 d4.1 ff 48 0 1 0 d1 d6.1).2.2.1, d6.2) d9 R, nx, ok, 0, 0)
        else Q (.inr 4, cSW (flF (trF d4.2.1 d4.1 ff 48 0 1 0 d1 d6.1).2.1).2 d4 ((trF d4.2.1 d4.1 ff 48 0 1 0 d1 d6.1).2.2.1, d6.2) d9 R, nx, false, 1, 6))
      else Q (.inr 4, cSW (trF d4.2.1 d4.1 ff 48 0 1 0 d1 d6.1).2.1 d4 ((trF d4.2.1 d4.1 ff 48 0 1 0 d1 d6.1).2.2.1, d6.2) d9 R, nx, false, 1, 6)) := by
  have hx : pHx 62 = [] := by decide +kernel
  have h0 := q_trans_l (X := X) (nx := nx) (ok := ok) (Q := Q) (d4 := d4) (d9 := d9) (R := R) hff 48 0 1 0 d1 d6 hf (by decide) (by decide)
  rw [nI_0, show nI 1 = 1 from rfl] at h0
  simp only [w62_0, w62_1, w62_2, w62_3, w62_4, w62_5, h0]
  by_cases h : (trF d4.2.1 d4.1 ff 48 0 1 0 d1 d6.1).1 = true
  · simp only [h, if_true, w62_91, w62_92, w62_95, w62_98, w62_99, cS_i0, cS_g0_0, cS_g0_1, cS_g0_2, cS_g0_3, cS_i1, cS_g1_0, cS_g1_1, cS_g1_2, cS_p1_2, cS_g1_3, cS_p1_3, cS_g1_4, cS_p1_4, cS_g1_5, cS_p1_5, cS_g1_6, cS_p1_6, cS_g1_7, cS_p1_7, cS_a2, cS_u2, cS_l2, cS_c2_2, cS_c2_3, cS_c2_5, cS_c2_7, cS_c2_8, cS_c2_10, cS_c2_11, cS_c2_12, cS_a3, cS_u3, cS_l3, cS_c3_2, cS_c3_3, cS_c3_5, cS_c3_7, cS_c3_8, cS_c3_10, cS_c3_11, cS_c3_12, cS_i4, cS_g4_0, cS_g4_1, cS_p4_1, cS_g4_2, cS_p4_2, cS_g4_3, cS_p4_3, cS_g4_4, cS_p4_4, cS_a5, cS_u5, cS_l5, cS_c5_2, cS_c5_3, cS_c5_5, cS_c5_7, cS_c5_8, cS_c5_10, cS_c5_11, cS_c5_12, cS_i6, cS_g6_0, cS_g6_1, cS_g6_2, cS_g6_3, cS_g6_4, cS_p6_4, cS_g6_5, cS_p6_5, cS_g6_6, cS_p6_6, cS_g6_7, cS_p6_7, cS_g6_8, cS_p6_8, cS_g6_9, cS_p6_9, cS_a7, cS_u7, cS_l7, cS_c7_2, cS_c7_3, cS_c7_5, cS_c7_7, cS_c7_8, cS_c7_10, cS_c7_11, cS_c7_12, cS_a8, cS_u8, cS_l8, cS_c8_2, cS_c8_3, cS_c8_5, cS_c8_7, cS_c8_8, cS_c8_10, cS_c8_11, cS_c8_12, cS_i9, cS_g9_0, cS_g9_1, cS_g9_2, cS_a10, cS_u10, cS_l10, cS_c10_2, cS_c10_3, cS_c10_5, cS_c10_7, cS_c10_8, cS_c10_10, cS_c10_11, cS_c10_12, cS_a11, cS_u11, cS_l11, cS_c11_2, cS_c11_3, cS_c11_5, cS_c11_7, cS_c11_8, cS_c11_10, cS_c11_11, cS_c11_12, cS_a12, cS_u12, cS_l12, cS_c12_2, cS_c12_3, cS_c12_5, cS_c12_7, cS_c12_8, cS_c12_10, cS_c12_11, cS_c12_12, pK_n, pK_x hx, pAdd_0, Nat.reduceAdd, true_and, q_flF]
  · simp only [h, if_false, Bool.false_eq_true]
end RUN
