section RUN
variable {X : pScr} {nx : Nat} {ok : Bool} {Q : pRes → Prop} {d1 : cS1} {d4 : cS4} {d6 : cS6} {d9 : cS9} {R : pMem} {M : pMem}
/-- the header's numbers: from block b on, m blocks, the next the k-th -/
def hdF (u : Int64) : Nat → Nat → Nat → (Nat → Int32) → (Nat → Int32)
  | 0, _, _, f => f
  | m + 1, b, k, f => if k < 6 then (if lb u b = true then hdF u m (b + 1) (k + 1) (upd f (3 + k / 2) (f (3 + k / 2) + (if k % 2 = 0 then nI b else nI (b * 64)))) else hdF u m (b + 1) k f) else f
/-- the header's block -/
def jHead (j : cS6) (u : Int64) (n : Int32) : Nat → Int32 := hdF u 48 0 0 (upd (upd (upd (fillF 8 0 j.2.1) 0 1001) 1 j.2.2.2.2.2.1) 2 n)
theorem q_head_t {ff : Nat} {f : Nat → Int32} {z0 z1 z2 : Value} (hf : d6.2.2.2.1 = nI ff) (hff : ff < 8) : pW X 61 100 [.ref 6, z0, z1, z2] [] (cSW d1 d4 (d6.1, f, d6.2.2) d9 R) nx ok Q ↔ (if (putF (10 + (ff + 0) % 8) 0 f d1).1 = true then Q (.inl none, cSW (putF (10 + (ff + 0) % 8) 0 f d1).2 d4 (d6.1, f, d6.2.2) d9 R, nx, ok, 0, 0) else Q (.inr 4, cSW (putF (10 + (ff + 0) % 8) 0 f d1).2 d4 (d6.1, f, d6.2.2) d9 R, nx, false, 1, 6)) := by
  have hx : pHx 61 = [] := by decide +kernel
  have hp := q_place8 (X := X) (nx := nx) (ok := ok) (Q := pK X 61 107 [.ref 6, z0, z1, z2] [] Q) (d1 := d1) (d4 := d4) (d6 := (d6.1, f, d6.2.2)) (d9 := d9) (R := R) (k := 0) (a := 0) hf (by omega) (by decide)
  rw [nI_0] at hp
  simp only [w61_0, w61_1, w61_4, w61_5, w61_8, w61_9, w61_12, w61_13, w61_16, w61_17, w61_18, w61_21, w61_22, w61_23, w61_26, w61_27, w61_28, w61_31, w61_32, w61_33, w61_34, w61_35, w61_36, w61_37, w61_39, w61_41, w61_44, w61_45, w61_47, w61_50, w61_51, w61_54, w61_57, w61_58, w61_61, w61_64, w61_65, w61_68, w61_69, w61_70, w61_71, w61_72, w61_73, w61_74, w61_75, w61_76, w61_77, w61_78, w61_81, w61_82, w61_85, w61_86, w61_88, w61_89, w61_90, w61_91, w61_94, w61_97, w61_100, w61_101, w61_102, w61_103, w61_106, w61_107, w61_110, cS_i0, cS_g0_0, cS_g0_1, cS_g0_2, cS_g0_3, cS_i1, cS_g1_0, cS_g1_1, cS_g1_2, cS_p1_2, cS_g1_3, cS_p1_3, cS_g1_4, cS_p1_4, cS_g1_5, cS_p1_5, cS_g1_6, cS_p1_6, cS_g1_7, cS_p1_7, cS_a2, cS_u2, cS_l2, cS_c2_2, cS_c2_3, cS_c2_5, cS_c2_7, cS_c2_8, cS_c2_10, cS_c2_11, cS_c2_12, cS_a3, cS_u3, cS_l3, cS_c3_2, cS_c3_3, cS_c3_5, cS_c3_7, cS_c3_8, cS_c3_10, cS_c3_11, cS_c3_12, cS_i4, cS_g4_0, cS_g4_1, cS_p4_1, cS_g4_2, cS_p4_2, cS_g4_3, cS_p4_3, cS_g4_4, cS_p4_4, cS_a5, cS_u5, cS_l5, cS_c5_2, cS_c5_3, cS_c5_5, cS_c5_7, cS_c5_8, cS_c5_10, cS_c5_11, cS_c5_12, cS_i6, cS_g6_0, cS_g6_1, cS_g6_2, cS_g6_3, cS_g6_4, cS_p6_4, cS_g6_5, cS_p6_5, cS_g6_6, cS_p6_6, cS_g6_7, cS_p6_7, cS_g6_8, cS_p6_8, cS_g6_9, cS_p6_9, cS_a7, cS_u7, cS_l7, cS_c7_2, cS_c7_3, cS_c7_5, cS_c7_7, cS_c7_8, cS_c7_10, cS_c7_11, cS_c7_12, cS_a8, cS_u8, cS_l8, cS_c8_2, cS_c8_3, cS_c8_5, cS_c8_7, cS_c8_8, cS_c8_10, cS_c8_11, cS_c8_12, cS_i9, cS_g9_0, cS_g9_1, cS_g9_2, cS_a10, cS_u10, cS_l10, cS_c10_2, cS_c10_3, cS_c10_5, cS_c10_7, cS_c10_8, cS_c10_10, cS_c10_11, cS_c10_12, cS_a11, cS_u11, cS_l11, cS_c11_2, cS_c11_3, cS_c11_5, cS_c11_7, cS_c11_8, cS_c11_10, cS_c11_11, cS_c11_12, cS_a12, cS_u12, cS_l12, cS_c12_2, cS_c12_3, cS_c12_5, cS_c12_7, cS_c12_8, cS_c12_10, cS_c12_11, cS_c12_12, pK_n, pK_x hx, pAdd_0, Nat.reduceAdd, true_and]
  refine hp.trans ?_
  simp only [w61_0, w61_1, w61_4, w61_5, w61_8, w61_9, w61_12, w61_13, w61_16, w61_17, w61_18, w61_21, w61_22, w61_23, w61_26, w61_27, w61_28, w61_31, w61_32, w61_33, w61_34, w61_35, w61_36, w61_37, w61_39, w61_41, w61_44, w61_45, w61_47, w61_50, w61_51, w61_54, w61_57, w61_58, w61_61, w61_64, w61_65, w61_68, w61_69, w61_70, w61_71, w61_72, w61_73, w61_74, w61_75, w61_76, w61_77, w61_78, w61_81, w61_82, w61_85, w61_86, w61_88, w61_89, w61_90, w61_91, w61_94, w61_97, w61_100, w61_101, w61_102, w61_103, w61_106, w61_107, w61_110, cS_i0, cS_g0_0, cS_g0_1, cS_g0_2, cS_g0_3, cS_i1, cS_g1_0, cS_g1_1, cS_g1_2, cS_p1_2, cS_g1_3, cS_p1_3, cS_g1_4, cS_p1_4, cS_g1_5, cS_p1_5, cS_g1_6, cS_p1_6, cS_g1_7, cS_p1_7, cS_a2, cS_u2, cS_l2, cS_c2_2, cS_c2_3, cS_c2_5, cS_c2_7, cS_c2_8, cS_c2_10, cS_c2_11, cS_c2_12, cS_a3, cS_u3, cS_l3, cS_c3_2, cS_c3_3, cS_c3_5, cS_c3_7, cS_c3_8, cS_c3_10, cS_c3_11, cS_c3_12, cS_i4, cS_g4_0, cS_g4_1, cS_p4_1, cS_g4_2, cS_p4_2, cS_g4_3, cS_p4_3, cS_g4_4, cS_p4_4, cS_a5, cS_u5, cS_l5, cS_c5_2, cS_c5_3, cS_c5_5, cS_c5_7, cS_c5_8, cS_c5_10, cS_c5_11, cS_c5_12, cS_i6, cS_g6_0, cS_g6_1, cS_g6_2, cS_g6_3, cS_g6_4, cS_p6_4, cS_g6_5, cS_p6_5, cS_g6_6, cS_p6_6, cS_g6_7, cS_p6_7, cS_g6_8, cS_p6_8, cS_g6_9, cS_p6_9, cS_a7, cS_u7, cS_l7, cS_c7_2, cS_c7_3, cS_c7_5, cS_c7_7, cS_c7_8, cS_c7_10, cS_c7_11, cS_c7_12, cS_a8, cS_u8, cS_l8, cS_c8_2, cS_c8_3, cS_c8_5, cS_c8_7, cS_c8_8, cS_c8_10, cS_c8_11, cS_c8_12, cS_i9, cS_g9_0, cS_g9_1, cS_g9_2, cS_a10, cS_u10, cS_l10, cS_c10_2, cS_c10_3, cS_c10_5, cS_c10_7, cS_c10_8, cS_c10_10, cS_c10_11, cS_c10_12, cS_a11, cS_u11, cS_l11, cS_c11_2, cS_c11_3, cS_c11_5, cS_c11_7, cS_c11_8, cS_c11_10, cS_c11_11, cS_c11_12, cS_a12, cS_u12, cS_l12, cS_c12_2, cS_c12_3, cS_c12_5, cS_c12_7, cS_c12_8, cS_c12_10, cS_c12_11, cS_c12_12, pK_n, pK_x hx, pAdd_0, Nat.reduceAdd, true_and]
theorem q_head_l {ff : Nat} {n : Int32} (hf : d6.2.2.2.1 = nI ff) (hff : ff < 8) : ∀ m b k f, b + m = 48 → k ≤ b → (pW X 61 38 [.ref 6, .int n, .int (nI k), .int (nI b)] [] (cSW d1 d4 (d6.1, f, d6.2.2) d9 R) nx ok Q ↔ (if (putF (10 + (ff + 0) % 8) 0 (hdF d4.2.1 m b k f) d1).1 = true then Q (.inl none, cSW (putF (10 + (ff + 0) % 8) 0 (hdF d4.2.1 m b k f) d1).2 d4 (d6.1, hdF d4.2.1 m b k f, d6.2.2) d9 R, nx, ok, 0, 0) else Q (.inr 4, cSW (putF (10 + (ff + 0) % 8) 0 (hdF d4.2.1 m b k f) d1).2 d4 (d6.1, hdF d4.2.1 m b k f, d6.2.2) d9 R, nx, false, 1, 6))) := by
  intro m
  induction m with
  | zero =>
    intro b k f hn hk
    have e : b = 48 := by omega
    subst e
    have h48 : ¬ nI 48 < 48 := nI_nlt (b := 48) (by omega) (by decide)
    rw [w61_38]
    simp only [w61_39, w61_41, h48, if_false, hdF]
    exact q_head_t hf hff
  | succ m ih =>
    intro b k f hn hk
    have h48 : nI b < 48 := nI_lt (b := 48) (by omega) (by decide)
    rw [w61_38]
    by_cases h6 : k < 6
    · have h6' : nI k < 6 := nI_lt (b := 6) h6 (by decide)
      have n2 : ¬ (2 : Int32) = 0 := by decide
      have e1 : nI k / 2 = nI (k / 2) := pk_div (d := 2) (by omega) (by decide) (by decide)
      have e2 : nI k - nI (k / 2) * 2 = nI (k % 2) := by rw [← e1]; exact pk_rem (d := 2) (by omega) (by decide) (by decide)
      have e3 : (3 : Int32) + nI (k / 2) = nI (3 + k / 2) := nI_add 3 (k / 2)
      have hi : pIn (nI (3 + k / 2)) 8 = true := decide_eq_true (nI_in (by omega) (by decide))
      have hc : (nI (3 + k / 2)).toNatClampNeg = 3 + k / 2 := nI_clamp (by omega)
      have e64 : nI b * 64 = nI (b * 64) := pk_mul b 64
      have hz : (nI (k % 2) = 0) ↔ k % 2 = 0 := nI_eq (b := 0) (by omega) (by decide)
      simp only [w61_0, w61_1, w61_4, w61_5, w61_8, w61_9, w61_12, w61_13, w61_16, w61_17, w61_18, w61_21, w61_22, w61_23, w61_26, w61_27, w61_28, w61_31, w61_32, w61_33, w61_34, w61_35, w61_36, w61_37, w61_39, w61_41, w61_44, w61_45, w61_47, w61_50, w61_51, w61_54, w61_57, w61_58, w61_61, w61_64, w61_65, w61_68, w61_69, w61_70, w61_71, w61_72, w61_73, w61_74, w61_75, w61_76, w61_77, w61_78, w61_81, w61_82, w61_85, w61_86, w61_88, w61_89, w61_90, w61_91, w61_94, w61_97, cS_i0, cS_g0_0, cS_g0_1, cS_g0_2, cS_g0_3, cS_i1, cS_g1_0, cS_g1_1, cS_g1_2, cS_p1_2, cS_g1_3, cS_p1_3, cS_g1_4, cS_p1_4, cS_g1_5, cS_p1_5, cS_g1_6, cS_p1_6, cS_g1_7, cS_p1_7, cS_a2, cS_u2, cS_l2, cS_c2_2, cS_c2_3, cS_c2_5, cS_c2_7, cS_c2_8, cS_c2_10, cS_c2_11, cS_c2_12, cS_a3, cS_u3, cS_l3, cS_c3_2, cS_c3_3, cS_c3_5, cS_c3_7, cS_c3_8, cS_c3_10, cS_c3_11, cS_c3_12, cS_i4, cS_g4_0, cS_g4_1, cS_p4_1, cS_g4_2, cS_p4_2, cS_g4_3, cS_p4_3, cS_g4_4, cS_p4_4, cS_a5, cS_u5, cS_l5, cS_c5_2, cS_c5_3, cS_c5_5, cS_c5_7, cS_c5_8, cS_c5_10, cS_c5_11, cS_c5_12, cS_i6, cS_g6_0, cS_g6_1, cS_g6_2, cS_g6_3, cS_g6_4, cS_p6_4, cS_g6_5, cS_p6_5, cS_g6_6, cS_p6_6, cS_g6_7, cS_p6_7, cS_g6_8, cS_p6_8, cS_g6_9, cS_p6_9, cS_a7, cS_u7, cS_l7, cS_c7_2, cS_c7_3, cS_c7_5, cS_c7_7, cS_c7_8, cS_c7_10, cS_c7_11, cS_c7_12, cS_a8, cS_u8, cS_l8, cS_c8_2, cS_c8_3, cS_c8_5, cS_c8_7, cS_c8_8, cS_c8_10, cS_c8_11, cS_c8_12, cS_i9, cS_g9_0, cS_g9_1, cS_g9_2, cS_a10, cS_u10, cS_l10, cS_c10_2, cS_c10_3, cS_c10_5, cS_c10_7, cS_c10_8, cS_c10_10, cS_c10_11, cS_c10_12, cS_a11, cS_u11, cS_l11, cS_c11_2, cS_c11_3, cS_c11_5, cS_c11_7, cS_c11_8, cS_c11_10, cS_c11_11, cS_c11_12, cS_a12, cS_u12, cS_l12, cS_c12_2, cS_c12_3, cS_c12_5, cS_c12_7, cS_c12_8, cS_c12_10, cS_c12_11, cS_c12_12, pK_n, pK_v, pAdd_0, Nat.reduceAdd, true_and, h48, h6, h6', if_true, q_holds (show b < 64 by omega), lbI_0, nI_1, n2, not_false_eq_true, e1, e2, e3, hi, hc, e64, hz, hdF]
      by_cases h : lb d4.2.1 b = true
      · by_cases hp : k % 2 = 0
        · simp only [h, hp, if_true, Bool.true_eq_false, if_false]
          exact ih (b + 1) (k + 1) _ (by omega) (by omega)
        · simp only [h, hp, if_true, Bool.true_eq_false, if_false]
          exact ih (b + 1) (k + 1) _ (by omega) (by omega)
      · simp only [h, if_true, Bool.false_eq_true, if_false]
        exact ih (b + 1) k f (by omega) (by omega)
    · have h6' : ¬ nI k < 6 := nI_nlt (b := 6) (by omega) (by omega)
      simp only [w61_39, w61_41, w61_44, w61_45, w61_47, h48, h6, h6', if_true, if_false, hdF]
      exact q_head_t hf hff
theorem q_head {ff : Nat} {n : Int32} (hf : d6.2.2.2.1 = nI ff) (hff : ff < 8) : pW X 61 0 [.ref 6, .int n, pDum, pDum] [] (cSW d1 d4 d6 d9 R) nx ok Q ↔ (if (putF (10 + (ff + 0) % 8) 0 (jHead d6 d4.2.1 n) d1).1 = true then Q (.inl none, cSW (putF (10 + (ff + 0) % 8) 0 (jHead d6 d4.2.1 n) d1).2 d4 (d6.1, jHead d6 d4.2.1 n, d6.2.2) d9 R, nx, ok, 0, 0) else Q (.inr 4, cSW (putF (10 + (ff + 0) % 8) 0 (jHead d6 d4.2.1 n) d1).2 d4 (d6.1, jHead d6 d4.2.1 n, d6.2.2) d9 R, nx, false, 1, 6)) := by
  have i0 : pIn 0 8 = true := by decide
  have i1 : pIn 1 8 = true := by decide
  have i2 : pIn 2 8 = true := by decide
  have t0 : Int32.toNatClampNeg 0 = 0 := rfl
  have t1 : Int32.toNatClampNeg 1 = 1 := rfl
  have t2 : Int32.toNatClampNeg 2 = 2 := rfl
  have h0 := q_head_l (X := X) (nx := nx) (ok := ok) (Q := Q) (d1 := d1) (d4 := d4) (d6 := d6) (d9 := d9) (R := R) (n := n) hf hff 48 0 0 (upd (upd (upd (fillF 8 0 d6.2.1) 0 1001) 1 d6.2.2.2.2.2.1) 2 n) (by decide) (by decide)
  rw [nI_0] at h0
  simp only [w61_0, w61_1, w61_4, w61_5, w61_8, w61_9, w61_12, w61_13, w61_16, w61_17, w61_18, w61_21, w61_22, w61_23, w61_26, w61_27, w61_28, w61_31, w61_32, w61_33, w61_34, w61_35, w61_36, w61_37, cS_i0, cS_g0_0, cS_g0_1, cS_g0_2, cS_g0_3, cS_i1, cS_g1_0, cS_g1_1, cS_g1_2, cS_p1_2, cS_g1_3, cS_p1_3, cS_g1_4, cS_p1_4, cS_g1_5, cS_p1_5, cS_g1_6, cS_p1_6, cS_g1_7, cS_p1_7, cS_a2, cS_u2, cS_l2, cS_c2_2, cS_c2_3, cS_c2_5, cS_c2_7, cS_c2_8, cS_c2_10, cS_c2_11, cS_c2_12, cS_a3, cS_u3, cS_l3, cS_c3_2, cS_c3_3, cS_c3_5, cS_c3_7, cS_c3_8, cS_c3_10, cS_c3_11, cS_c3_12, cS_i4, cS_g4_0, cS_g4_1, cS_p4_1, cS_g4_2, cS_p4_2, cS_g4_3, cS_p4_3, cS_g4_4, cS_p4_4, cS_a5, cS_u5, cS_l5, cS_c5_2, cS_c5_3, cS_c5_5, cS_c5_7, cS_c5_8, cS_c5_10, cS_c5_11, cS_c5_12, cS_i6, cS_g6_0, cS_g6_1, cS_g6_2, cS_g6_3, cS_g6_4, cS_p6_4, cS_g6_5, cS_p6_5, cS_g6_6, cS_p6_6, cS_g6_7, cS_p6_7, cS_g6_8, cS_p6_8, cS_g6_9, cS_p6_9, cS_a7, cS_u7, cS_l7, cS_c7_2, cS_c7_3, cS_c7_5, cS_c7_7, cS_c7_8, cS_c7_10, cS_c7_11, cS_c7_12, cS_a8, cS_u8, cS_l8, cS_c8_2, cS_c8_3, cS_c8_5, cS_c8_7, cS_c8_8, cS_c8_10, cS_c8_11, cS_c8_12, cS_i9, cS_g9_0, cS_g9_1, cS_g9_2, cS_a10, cS_u10, cS_l10, cS_c10_2, cS_c10_3, cS_c10_5, cS_c10_7, cS_c10_8, cS_c10_10, cS_c10_11, cS_c10_12, cS_a11, cS_u11, cS_l11, cS_c11_2, cS_c11_3, cS_c11_5, cS_c11_7, cS_c11_8, cS_c11_10, cS_c11_11, cS_c11_12, cS_a12, cS_u12, cS_l12, cS_c12_2, cS_c12_3, cS_c12_5, cS_c12_7, cS_c12_8, cS_c12_10, cS_c12_11, cS_c12_12, q_fill8, pK_n, pAdd_0, Nat.reduceAdd, true_and, i0, i1, i2, t0, t1, t2]
  exact h0
/-- the library's count of a long's bits, as it computes it -/
def bcL (u : Int64) : Int32 :=
  let a := u - ((u.toUInt64 >>> ((1 : Int32).toInt64.toUInt64 &&& Int64.toUInt64 63)).toInt64 &&& 6148914691236517205)
  let b := (a &&& 3689348814741910323) + ((a.toUInt64 >>> ((2 : Int32).toInt64.toUInt64 &&& Int64.toUInt64 63)).toInt64 &&& 3689348814741910323)
  let c := (b + (b.toUInt64 >>> ((4 : Int32).toInt64.toUInt64 &&& Int64.toUInt64 63)).toInt64) &&& 1085102592571150095
  let d := c + (c.toUInt64 >>> ((8 : Int32).toInt64.toUInt64 &&& Int64.toUInt64 63)).toInt64
  let e := d + (d.toUInt64 >>> ((16 : Int32).toInt64.toUInt64 &&& Int64.toUInt64 63)).toInt64
  let f := e + (e.toUInt64 >>> ((32 : Int32).toInt64.toUInt64 &&& Int64.toUInt64 63)).toInt64
  f.toInt32 &&& 127
theorem q_bcL {u : Int64} : pW X 199 0 [.long u, pDum] [] M nx ok Q ↔ Q (.inl (some (.int (bcL u))), M, nx, ok, 0, 0) := by
  simp only [w199_0, w199_1, w199_2, w199_3, w199_4, w199_7, w199_8, w199_9, w199_10, w199_11, w199_14, w199_15, w199_16, w199_17, w199_18, w199_21, w199_22, w199_23, w199_24, w199_25, w199_26, w199_27, w199_28, w199_29, w199_32, w199_33, w199_34, w199_35, w199_36, w199_38, w199_39, w199_40, w199_41, w199_42, w199_43, w199_45, w199_46, w199_47, w199_48, w199_49, w199_50, w199_52, w199_53, w199_54, w199_55, w199_56, w199_57, w199_59, w199_60]
  exact Iff.rfl
end RUN
