/-! THE CLASS'S RECOVERY -/
theorem logged_r {f : Nat → Int32} {x k : Nat} (hx : x < 8) : logged f x (k + 1) = rnum f (80 + 8 * x) k := by
  unfold logged rnum
  have e1 : 8 * (10 + x % 8) + 3 + (k + 1 - 1) / 2 = 80 + 8 * x + 3 + k / 2 := by omega
  rw [e1]
  by_cases h : k % 2 = 0
  · rw [if_pos (show (k + 1) % 2 = 1 by omega), if_pos h]
    rfl
  · rw [if_neg (show ¬ (k + 1) % 2 = 1 by omega), if_neg h]
    rfl
theorem okNum_r {b : Int32} : okNum b = okR b := by
  unfold okNum okR
  rw [show (1 : Int32) = nI 1 from rfl, show (9 : Int32) = nI 9 from rfl, show (18 : Int32) = nI 18 from rfl, show (48 : Int32) = nI 48 from rfl]
  by_cases a1 : b < nI 1
  · have a2 : b < nI 18 := Int32.lt_trans a1 (by decide)
    simp [a1, a2]
  · have h0 : ¬ b < 0 := fun h => a1 (Int32.lt_trans h (by decide))
    obtain ⟨j, hj, rfl⟩ := nI_of h0
    have e1 := nI_ltI (a := j) (b := 48) hj (by decide)
    have e2 := nI_ltI (a := 47) (b := j) (by decide) hj
    have e3 := nI_ltI (a := 9) (b := j) (by decide) hj
    have e4 := nI_ltI (a := j) (b := 18) hj (by decide)
    have e5 := nI_ltI (a := j) (b := 1) hj (by decide)
    simp only [e1, e2, e3, e4, e5]
    by_cases b1 : j < 1 <;> by_cases b2 : 9 < j <;> by_cases b3 : j < 18 <;> by_cases b4 : j < 48 <;> by_cases b5 : 47 < j <;> simp [b1, b2, b3, b4, b5] <;> omega
theorem sb_rr {f : Nat → Int32} {x n : Nat} {q : Int32} (hx : x < 8) : ∀ m k s, (sbF f x n q m (k + 1) s = nI n ∧ rrF f x n q m k s = nI (n + 2)) ∨ (sbF f x n q m (k + 1) s = nI 0 ∧ rrF f x n q m k s = nI 0) := by
  intro m
  induction m with
  | zero =>
    intro k s
    unfold sbF rrF isSealB
    have e1 : 8 * (10 + (x + n + 1) % 8) = 80 + 8 * ((x + n + 1) % 8) := by omega
    rw [e1, show (1002 : Int32) = nI 1002 from rfl]
    by_cases a1 : f (80 + 8 * ((x + n + 1) % 8)) = nI 1002
    · by_cases a2 : f (80 + 8 * ((x + n + 1) % 8) + 1) = q
      · by_cases a3 : f (80 + 8 * ((x + n + 1) % 8) + 2) = s
        · left
          simp [a1, a2, a3]
        · right
          simp [a1, a2, a3, nI_0]
      · right
        simp [a1, a2, nI_0]
    · right
      simp [a1, nI_0]
  | succ m ih =>
    intro k s
    have e1 : sbF f x n q (m + 1) (k + 1) s = (if okNum (logged f x (k + 1)) = true then sbF f x n q m (k + 1 + 1) (smF f (8 * (10 + (x + (k + 1)) % 8)) 8 s) else 0) := rfl
    have e2 : rrF f x n q (m + 1) k s = (if okR (rnum f (80 + 8 * x) k) = true then rrF f x n q m (k + 1) (smF f (80 + 8 * ((x + 1 + k) % 8)) 8 s) else nI 0) := rfl
    have e3 : 8 * (10 + (x + (k + 1)) % 8) = 80 + 8 * ((x + 1 + k) % 8) := by omega
    rw [e1, e2, logged_r hx, okNum_r, e3]
    by_cases h : okR (rnum f (80 + 8 * x) k) = true
    · rw [if_pos h, if_pos h]
      exact ih (k + 1) _
    · rw [if_neg h, if_neg h]
      exact Or.inr ⟨rfl, rfl⟩
/-- the record at place x, by the class and by the reference -/
theorem seal_rr {f : Nat → Int32} {x u : Nat} {q : Int32} (hx : x < 8) (hu : u ≤ 8) : (∃ n, 1 ≤ n ∧ n ≤ 6 ∧ u + n + 2 ≤ 8 ∧ sealedF f x q (nI u) = nI n ∧ rrec f x q = nI (n + 2) ∧ ∀ j, j < n → okR (rnum f (80 + 8 * x) j) = true) ∨ (sealedF f x q (nI u) = nI 0 ∧ (rrec f x q = nI 0 ∨ ∃ n, 1 ≤ n ∧ n ≤ 6 ∧ 8 < u + (n + 2) ∧ rrec f x q = nI (n + 2))) := by
  have e0 : 8 * (10 + x % 8) = 80 + 8 * x := by omega
  have hr := rrec_v (f := f) (x := x) (q := q)
  unfold sealedF
  rw [e0, show (1001 : Int32) = nI 1001 from rfl, show (0 : Int32) = nI 0 from rfl, show (1 : Int32) = nI 1 from rfl, show (6 : Int32) = nI 6 from rfl, show (8 : Int32) = nI 8 from rfl, show (2 : Int32) = nI 2 from rfl]
  unfold rrec at hr ⊢
  by_cases h1 : f (80 + 8 * x) = nI 1001
  · by_cases h2 : f (80 + 8 * x + 1) = q
    · by_cases h3 : f (80 + 8 * x + 2) < nI 1
      · right
        simp only [h1, h2, h3, if_true]
        exact ⟨trivial, Or.inl trivial⟩
      · by_cases h4 : nI 6 < f (80 + 8 * x + 2)
        · right
          simp only [h1, h2, h3, h4, if_true, if_false]
          exact ⟨trivial, Or.inl trivial⟩
        · obtain ⟨j, hj6, hj⟩ := nI_of2 (x := f (80 + 8 * x + 2)) (M := nI 6) (n := 6) rfl (fun h => h3 (Int32.lt_trans h (by decide))) (Int32.not_lt.mp h4)
          have hc : (nI j).toNatClampNeg = j := nI_clamp (by omega)
          have hj1 : 1 ≤ j := by
            by_cases g : 1 ≤ j
            · exact g
            · rw [hj] at h3
              exact absurd (nI_lt (a := j) (b := 1) (by omega) (by decide)) h3
          simp only [h1, h2, h3, h4, if_true, if_false] at hr ⊢
          rw [hj, hc] at hr ⊢
          rw [pk_sub hu, nI_add]
          have hlt := nI_ltI (a := 8 - u) (b := j + 2) (by omega) (by omega)
          have hsb := sb_rr (f := f) (x := x) (n := j) (q := q) hx j 0 (nI 0)
          have hv := rrF_v (f := f) (x := x) (n := j) (q := q) j 0 (nI 0)
          by_cases h5 : 8 - u < j + 2
          · rw [if_pos (hlt.mpr h5)]
            right
            refine ⟨rfl, ?_⟩
            rcases hsb with ⟨-, h6⟩ | ⟨-, h6⟩
            · exact Or.inr ⟨j, hj1, hj6, by omega, h6⟩
            · exact Or.inl h6
          · rw [if_neg (fun h => h5 (hlt.mp h))]
            rcases hsb with ⟨h7, h6⟩ | ⟨h7, h6⟩
            · left
              refine ⟨j, hj1, hj6, by omega, h7, h6, ?_⟩
              rcases hv with h8 | ⟨-, h8⟩
              · rw [h8] at h6
                exact absurd h6 (by intro e; have := (nI_eq (a := 0) (b := j + 2) (by omega) (by omega)).mp e; omega)
              · exact fun i hi => h8 i (Nat.zero_le i) (by omega)
            · right
              exact ⟨h7, Or.inl h6⟩
    · right
      simp only [h1, h2, if_true, if_false]
      exact ⟨trivial, Or.inl trivial⟩
  · right
    simp only [h1, if_false]
    exact ⟨trivial, Or.inl trivial⟩
section RUN
variable {X : pScr} {nx : Nat} {ok : Bool} {Q : pRes → Prop} {d1 : cS1} {d4 : cS4} {d6 : cS6} {d9 : cS9} {R : pMem} {M : pMem}
/-- a block is written from the device's own place -/
def putF2 (b a : Nat) (d : cS1) : Bool × cS1 := if d.2.2.2.2.2.1 = 0 then (false, dDie d) else (true, dPut2 (dSp d) b a)
/-- the blocks of the record at place x, from the k-th (from 0) on, m blocks -/
def cmid (x : Nat) : Nat → Nat → cS1 → Bool × cS1
  | 0, _, d => (true, d)
  | m + 1, k, d => if (putF2 (rnum d.1 (80 + 8 * x) k).toNatClampNeg (80 + 8 * ((x + 1 + k) % 8)) d).1 = true then cmid x m (k + 1) (putF2 (rnum d.1 (80 + 8 * x) k).toNatClampNeg (80 + 8 * ((x + 1 + k) % 8)) d).2 else putF2 (rnum d.1 (80 + 8 * x) k).toNatClampNeg (80 + 8 * ((x + 1 + k) % 8)) d
theorem cmid_s {x m k : Nat} {d : cS1} : cmid x (m + 1) k d = (if (putF2 (rnum d.1 (80 + 8 * x) k).toNatClampNeg (80 + 8 * ((x + 1 + k) % 8)) d).1 = true then cmid x m (k + 1) (putF2 (rnum d.1 (80 + 8 * x) k).toNatClampNeg (80 + 8 * ((x + 1 + k) % 8)) d).2 else putF2 (rnum d.1 (80 + 8 * x) k).toNatClampNeg (80 + 8 * ((x + 1 + k) % 8)) d) := rfl
theorem putF2_now {b a : Nat} {d : cS1} (h : (putF2 b a d).1 = true) : (putF2 b a d).2.1 = va_cpy d.1 d.1 a (8 * b) 8 := by
  unfold putF2 at h ⊢
  by_cases g : d.2.2.2.2.2.1 = 0
  · rw [if_pos g] at h
    cases h
  · rw [if_neg g]
    show va_cpy (dSp d).1 (dSp d).1 a (8 * b) 8 = _
    rw [(dSp_now d).1]
theorem q_pf2 {b a : Nat} (hb : b < 48) (ha : a + 8 ≤ 384) : pW X 50 0 [.ref 1, .int (nI b), .ref 2, .int (nI a)] [] (cSW d1 d4 d6 d9 R) nx ok Q ↔ (if (putF2 b a d1).1 = true then Q (.inl none, cSW (putF2 b a d1).2 d4 d6 d9 R, nx, ok, 0, 0) else Q (.inr 4, cSW (putF2 b a d1).2 d4 d6 d9 R, nx, false, 1, 6)) := by
  rw [q_put2 hb ha]
  unfold putF2
  by_cases h : d1.2.2.2.2.2.1 = 0
  · simp only [h, if_true, if_false, Bool.false_eq_true]
  · simp only [h, if_true, if_false]
theorem q_cmid_l {x n c : Nat} (hx : x < 8) (hn : n ≤ 6) (hf : d6.2.2.2.1 = nI x) : ∀ m k (d1 : cS1), k + m = n → (∀ j, k ≤ j → j < n → okR (rnum d1.1 (80 + 8 * x) j) = true) → (pW X 59 55 [.ref 6, .int (nI c), .int (nI n), .int (nI (k + 1))] [] (cSW d1 d4 d6 d9 R) nx ok Q ↔ (if (cmid x m k d1).1 = true then pW X 59 94 [.ref 6, .int (nI c), .int (nI n), .int (nI (n + 1))] [] (cSW (cmid x m k d1).2 d4 d6 d9 R) nx ok Q else Q (.inr 4, cSW (cmid x m k d1).2 d4 d6 d9 R, nx, false, 1, 6))) := by
  intro m
  have hhx : pHx 59 = [] := by decide +kernel
  induction m with
  | zero =>
    intro k d1 hk hj
    have e : k = n := by omega
    subst e
    rw [w59_55]
    simp (disch := omega) only [w59_56, w59_57, lit_0, lit_1, lit_2, lit_3, lit_4, lit_5, lit_6, lit_7, lit_8, lit_9, lit_10, lit_11, lit_12, lit_13, lit_14, lit_15, lit_16, lit_17, lit_18, lit_19, lit_20, lit_21, lit_22, lit_23, lit_24, lit_25, lit_26, lit_27, lit_28, lit_29, lit_30, lit_31, lit_32, lit_33, lit_34, lit_35, lit_36, lit_37, lit_38, lit_39, lit_40, lit_41, lit_42, lit_43, lit_44, lit_45, lit_46, lit_47, lit_48, lit_49, lit_50, lit_51, lit_52, lit_53, lit_54, lit_55, lit_56, lit_57, lit_58, lit_59, lit_60, lit_61, lit_62, lit_63, lit_64, lit_80, lit_100, lit_524287, lit_262143, lit_384, lit_1001, lit_1002, lit_61267, nI_add, pk_mul, pk_div, nI_rm, pk_sub, Nrm, Nrm8, Nrm4, nI_inT, nI_clamp, nI_ltT, nI_ltF, nI_eqT, nI_eqF, nI_ltI, nI_eq, nI_ushr, m4, m8, if_true, if_false, true_and, and_true, true_or, or_true, not_false_eq_true, not_true_eq_false, Nat.reduceAdd, Nat.reduceDiv, Nat.reduceMod, Nat.reduceMul, Nat.add_zero, Nat.lt_irrefl, pAdd_0, pK_n, pK_v, cmid]
  | succ m ih =>
    intro k d1 hk hj
    have hnum := hj k (Nat.le_refl k) (by omega)
    obtain ⟨b, hb, hbe, hb1, hb2⟩ := okR_n hnum
    have hlog := fun Q => q_logged (X := X) (nx := nx) (ok := ok) (Q := Q) (d1 := d1) (d4 := d4) (d6 := d6) (d9 := d9) (R := R) (ff := x) (k := k + 1) hf hx (by omega) (by omega)
    rw [logged_r hx, hbe] at hlog
    have ef : d6.2.2.2.1 + nI (k + 1) = nI (x + (k + 1)) := by rw [hf]; exact nI_add x (k + 1)
    have ep : 8 * (10 + (x + (k + 1)) % 8) = 80 + 8 * ((x + 1 + k) % 8) := by omega
    have hbc : (rnum d1.1 (80 + 8 * x) k).toNatClampNeg = b := by rw [hbe]; exact nI_clamp (by omega)
    rw [w59_55, cmid_s, hbc]
    simp (disch := omega) only [w59_56, w59_57, w59_60, w59_61, w59_64, w59_65, w59_66, cS_i0, cS_g0_0, cS_g0_1, cS_g0_2, cS_g0_3, cS_i1, cS_g1_0, cS_g1_1, cS_g1_2, cS_p1_2, cS_g1_3, cS_p1_3, cS_g1_4, cS_p1_4, cS_g1_5, cS_p1_5, cS_g1_6, cS_p1_6, cS_g1_7, cS_p1_7, cS_a2, cS_u2, cS_l2, cS_c2_2, cS_c2_3, cS_c2_5, cS_c2_7, cS_c2_8, cS_c2_10, cS_c2_11, cS_c2_12, cS_a3, cS_u3, cS_l3, cS_c3_2, cS_c3_3, cS_c3_5, cS_c3_7, cS_c3_8, cS_c3_10, cS_c3_11, cS_c3_12, cS_i4, cS_g4_0, cS_g4_1, cS_p4_1, cS_g4_2, cS_p4_2, cS_g4_3, cS_p4_3, cS_g4_4, cS_p4_4, cS_a5, cS_u5, cS_l5, cS_c5_2, cS_c5_3, cS_c5_5, cS_c5_7, cS_c5_8, cS_c5_10, cS_c5_11, cS_c5_12, cS_i6, cS_g6_0, cS_g6_1, cS_g6_2, cS_g6_3, cS_g6_4, cS_p6_4, cS_g6_5, cS_p6_5, cS_g6_6, cS_p6_6, cS_g6_7, cS_p6_7, cS_g6_8, cS_p6_8, cS_g6_9, cS_p6_9, cS_a7, cS_u7, cS_l7, cS_c7_2, cS_c7_3, cS_c7_5, cS_c7_7, cS_c7_8, cS_c7_10, cS_c7_11, cS_c7_12, cS_a8, cS_u8, cS_l8, cS_c8_2, cS_c8_3, cS_c8_5, cS_c8_7, cS_c8_8, cS_c8_10, cS_c8_11, cS_c8_12, cS_i9, cS_g9_0, cS_g9_1, cS_g9_2, cS_a10, cS_u10, cS_l10, cS_c10_2, cS_c10_3, cS_c10_5, cS_c10_7, cS_c10_8, cS_c10_10, cS_c10_11, cS_c10_12, cS_a11, cS_u11, cS_l11, cS_c11_2, cS_c11_3, cS_c11_5, cS_c11_7, cS_c11_8, cS_c11_10, cS_c11_11, cS_c11_12, cS_a12, cS_u12, cS_l12, cS_c12_2, cS_c12_3, cS_c12_5, cS_c12_7, cS_c12_8, cS_c12_10, cS_c12_11, cS_c12_12, lit_0, lit_1, lit_2, lit_3, lit_4, lit_5, lit_6, lit_7, lit_8, lit_9, lit_10, lit_11, lit_12, lit_13, lit_14, lit_15, lit_16, lit_17, lit_18, lit_19, lit_20, lit_21, lit_22, lit_23, lit_24, lit_25, lit_26, lit_27, lit_28, lit_29, lit_30, lit_31, lit_32, lit_33, lit_34, lit_35, lit_36, lit_37, lit_38, lit_39, lit_40, lit_41, lit_42, lit_43, lit_44, lit_45, lit_46, lit_47, lit_48, lit_49, lit_50, lit_51, lit_52, lit_53, lit_54, lit_55, lit_56, lit_57, lit_58, lit_59, lit_60, lit_61, lit_62, lit_63, lit_64, lit_80, lit_100, lit_524287, lit_262143, lit_384, lit_1001, lit_1002, lit_61267, nI_add, pk_mul, pk_div, nI_rm, pk_sub, Nrm, Nrm8, Nrm4, nI_inT, nI_clamp, nI_ltT, nI_ltF, nI_eqT, nI_eqF, nI_ltI, nI_eq, nI_ushr, m4, m8, if_true, if_false, true_and, and_true, true_or, or_true, not_false_eq_true, not_true_eq_false, Nat.reduceAdd, Nat.reduceDiv, Nat.reduceMod, Nat.reduceMul, Nat.add_zero, Nat.lt_irrefl, pAdd_0, pK_n, pK_v]
    refine (hlog _).trans ?_
    simp (disch := omega) only [w59_69, w59_70, w59_73, w59_76, w59_77, w59_80, w59_81, w59_82, w59_85, cS_i0, cS_g0_0, cS_g0_1, cS_g0_2, cS_g0_3, cS_i1, cS_g1_0, cS_g1_1, cS_g1_2, cS_p1_2, cS_g1_3, cS_p1_3, cS_g1_4, cS_p1_4, cS_g1_5, cS_p1_5, cS_g1_6, cS_p1_6, cS_g1_7, cS_p1_7, cS_a2, cS_u2, cS_l2, cS_c2_2, cS_c2_3, cS_c2_5, cS_c2_7, cS_c2_8, cS_c2_10, cS_c2_11, cS_c2_12, cS_a3, cS_u3, cS_l3, cS_c3_2, cS_c3_3, cS_c3_5, cS_c3_7, cS_c3_8, cS_c3_10, cS_c3_11, cS_c3_12, cS_i4, cS_g4_0, cS_g4_1, cS_p4_1, cS_g4_2, cS_p4_2, cS_g4_3, cS_p4_3, cS_g4_4, cS_p4_4, cS_a5, cS_u5, cS_l5, cS_c5_2, cS_c5_3, cS_c5_5, cS_c5_7, cS_c5_8, cS_c5_10, cS_c5_11, cS_c5_12, cS_i6, cS_g6_0, cS_g6_1, cS_g6_2, cS_g6_3, cS_g6_4, cS_p6_4, cS_g6_5, cS_p6_5, cS_g6_6, cS_p6_6, cS_g6_7, cS_p6_7, cS_g6_8, cS_p6_8, cS_g6_9, cS_p6_9, cS_a7, cS_u7, cS_l7, cS_c7_2, cS_c7_3, cS_c7_5, cS_c7_7, cS_c7_8, cS_c7_10, cS_c7_11, cS_c7_12, cS_a8, cS_u8, cS_l8, cS_c8_2, cS_c8_3, cS_c8_5, cS_c8_7, cS_c8_8, cS_c8_10, cS_c8_11, cS_c8_12, cS_i9, cS_g9_0, cS_g9_1, cS_g9_2, cS_a10, cS_u10, cS_l10, cS_c10_2, cS_c10_3, cS_c10_5, cS_c10_7, cS_c10_8, cS_c10_10, cS_c10_11, cS_c10_12, cS_a11, cS_u11, cS_l11, cS_c11_2, cS_c11_3, cS_c11_5, cS_c11_7, cS_c11_8, cS_c11_10, cS_c11_11, cS_c11_12, cS_a12, cS_u12, cS_l12, cS_c12_2, cS_c12_3, cS_c12_5, cS_c12_7, cS_c12_8, cS_c12_10, cS_c12_11, cS_c12_12, ef, lit_0, lit_1, lit_2, lit_3, lit_4, lit_5, lit_6, lit_7, lit_8, lit_9, lit_10, lit_11, lit_12, lit_13, lit_14, lit_15, lit_16, lit_17, lit_18, lit_19, lit_20, lit_21, lit_22, lit_23, lit_24, lit_25, lit_26, lit_27, lit_28, lit_29, lit_30, lit_31, lit_32, lit_33, lit_34, lit_35, lit_36, lit_37, lit_38, lit_39, lit_40, lit_41, lit_42, lit_43, lit_44, lit_45, lit_46, lit_47, lit_48, lit_49, lit_50, lit_51, lit_52, lit_53, lit_54, lit_55, lit_56, lit_57, lit_58, lit_59, lit_60, lit_61, lit_62, lit_63, lit_64, lit_80, lit_100, lit_524287, lit_262143, lit_384, lit_1001, lit_1002, lit_61267, nI_add, pk_mul, pk_div, nI_rm, pk_sub, Nrm, Nrm8, Nrm4, nI_inT, nI_clamp, nI_ltT, nI_ltF, nI_eqT, nI_eqF, nI_ltI, nI_eq, nI_ushr, m4, m8, if_true, if_false, true_and, and_true, true_or, or_true, not_false_eq_true, not_true_eq_false, Nat.reduceAdd, Nat.reduceDiv, Nat.reduceMod, Nat.reduceMul, Nat.add_zero, Nat.lt_irrefl, pAdd_0, pK_n, pK_v, q_placeAt (show x + (k + 1) < 1000 by omega), ep, q_pf2 hb (show 80 + 8 * ((x + 1 + k) % 8) + 8 ≤ 384 by omega), pK_x hhx]
    by_cases h : (putF2 b (80 + 8 * ((x + 1 + k) % 8)) d1).1 = true
    · have h9 := ih (k + 1) (putF2 b (80 + 8 * ((x + 1 + k) % 8)) d1).2 (by omega) (by
        intro j h1 h2
        rw [putF2_now h, rnum_j (g := d1.1) hx (by omega) (fun q hq1 hq2 => pk_cpy_out (by omega))]
        exact hj j (by omega) h2)
      simp (disch := omega) only [h, w59_88, w59_91, lit_0, lit_1, lit_2, lit_3, lit_4, lit_5, lit_6, lit_7, lit_8, lit_9, lit_10, lit_11, lit_12, lit_13, lit_14, lit_15, lit_16, lit_17, lit_18, lit_19, lit_20, lit_21, lit_22, lit_23, lit_24, lit_25, lit_26, lit_27, lit_28, lit_29, lit_30, lit_31, lit_32, lit_33, lit_34, lit_35, lit_36, lit_37, lit_38, lit_39, lit_40, lit_41, lit_42, lit_43, lit_44, lit_45, lit_46, lit_47, lit_48, lit_49, lit_50, lit_51, lit_52, lit_53, lit_54, lit_55, lit_56, lit_57, lit_58, lit_59, lit_60, lit_61, lit_62, lit_63, lit_64, lit_80, lit_100, lit_524287, lit_262143, lit_384, lit_1001, lit_1002, lit_61267, nI_add, pk_mul, pk_div, nI_rm, pk_sub, Nrm, Nrm8, Nrm4, nI_inT, nI_clamp, nI_ltT, nI_ltF, nI_eqT, nI_eqF, nI_ltI, nI_eq, nI_ushr, m4, m8, if_true, if_false, true_and, and_true, true_or, or_true, not_false_eq_true, not_true_eq_false, Nat.reduceAdd, Nat.reduceDiv, Nat.reduceMod, Nat.reduceMul, Nat.add_zero, Nat.lt_irrefl, pAdd_0, pK_n, pK_v]
      exact h9
    · simp only [h, if_false, Bool.false_eq_true]
/-- recovery: whether power held, how many were found, used places, device, place, sequence -/
def crecF : Nat → Nat → Nat → cS1 → Nat → Int32 → Bool × Nat × Nat × cS1 × Nat × Int32
  | 0, c, u, d, x, q => (true, c, u, d, x, q)
  | m + 1, c, u, d, x, q => if nI 0 < sealedF d.1 x q (nI u) then (if (cmid x (sealedF d.1 x q (nI u)).toNatClampNeg 0 d).1 = true then crecF m (c + 1) (u + ((sealedF d.1 x q (nI u)).toNatClampNeg + 2)) (cmid x (sealedF d.1 x q (nI u)).toNatClampNeg 0 d).2 ((x + ((sealedF d.1 x q (nI u)).toNatClampNeg + 2)) % 8) (q + 1) else (false, c, u, (cmid x (sealedF d.1 x q (nI u)).toNatClampNeg 0 d).2, x, q)) else (true, c, u, d, x, q)
theorem crecF_s {m c u x : Nat} {d : cS1} {q : Int32} : crecF (m + 1) c u d x q = (if nI 0 < sealedF d.1 x q (nI u) then (if (cmid x (sealedF d.1 x q (nI u)).toNatClampNeg 0 d).1 = true then crecF m (c + 1) (u + ((sealedF d.1 x q (nI u)).toNatClampNeg + 2)) (cmid x (sealedF d.1 x q (nI u)).toNatClampNeg 0 d).2 ((x + ((sealedF d.1 x q (nI u)).toNatClampNeg + 2)) % 8) (q + 1) else (false, c, u, (cmid x (sealedF d.1 x q (nI u)).toNatClampNeg 0 d).2, x, q)) else (true, c, u, d, x, q)) := rfl
/-- the journal in recovery -/
def crJ (j : cS6) (u x : Nat) (q : Int32) : cS6 := (j.1, j.2.1, 0, nI x, nI u, q, j.2.2.2.2.2.2)
/-- behind the loop: a flush if any were found, then block 0 -/
def crT (c : Nat) (d : cS1) : Bool × cS1 := if 0 < c then flF d else (true, d)
theorem q_crec_t {c u x : Nat} {q : Int32} {z2 z3 : Value} (hc : c < 100) : pW X 59 112 [.ref 6, .int (nI c), z2, z3] [] (cSW d1 d4 (crJ d6 u x q) d9 R) nx ok Q ↔ (if (crT c d1).1 = true then (if (firstF (crJ d6 0 x q) 2 (crT c d1).2).1 = true then Q (.inl (some (.int (nI c))), cSW (firstF (crJ d6 0 x q) 2 (crT c d1).2).2 d4 ((crJ d6 0 x q).1, jFb (crJ d6 0 x q) 2, (crJ d6 0 x q).2.2) d9 R, nx, ok, 0, 0) else Q (.inr 4, cSW (firstF (crJ d6 0 x q) 2 (crT c d1).2).2 d4 ((crJ d6 0 x q).1, jFb (crJ d6 0 x q) 2, (crJ d6 0 x q).2.2) d9 R, nx, false, 1, 6)) else Q (.inr 4, cSW (crT c d1).2 d4 (crJ d6 u x q) d9 R, nx, false, 1, 6)) := by
  have hhx : pHx 59 = [] := by decide +kernel
  have tail : ∀ d : cS1, pW X 59 123 [.ref 6, .int (nI c), z2, z3] [] (cSW d d4 (crJ d6 u x q) d9 R) nx ok Q ↔ (if (firstF (crJ d6 0 x q) 2 d).1 = true then Q (.inl (some (.int (nI c))), cSW (firstF (crJ d6 0 x q) 2 d).2 d4 ((crJ d6 0 x q).1, jFb (crJ d6 0 x q) 2, (crJ d6 0 x q).2.2) d9 R, nx, ok, 0, 0) else Q (.inr 4, cSW (firstF (crJ d6 0 x q) 2 d).2 d4 ((crJ d6 0 x q).1, jFb (crJ d6 0 x q) 2, (crJ d6 0 x q).2.2) d9 R, nx, false, 1, 6)) := by
    intro d
    have hf := fun Q => q_first (X := X) (nx := nx) (ok := ok) (Q := Q) (d1 := d) (d4 := d4) (d6 := crJ d6 0 x q) (d9 := d9) (R := R) (s := 2)
    have e2 : (2 : Int32) = nI 2 := rfl
    rw [e2] at hf ⊢
    simp (disch := omega) only [w59_123, w59_124, w59_125, w59_128, w59_129, w59_130, cS_i0, cS_g0_0, cS_g0_1, cS_g0_2, cS_g0_3, cS_i1, cS_g1_0, cS_g1_1, cS_g1_2, cS_p1_2, cS_g1_3, cS_p1_3, cS_g1_4, cS_p1_4, cS_g1_5, cS_p1_5, cS_g1_6, cS_p1_6, cS_g1_7, cS_p1_7, cS_a2, cS_u2, cS_l2, cS_c2_2, cS_c2_3, cS_c2_5, cS_c2_7, cS_c2_8, cS_c2_10, cS_c2_11, cS_c2_12, cS_a3, cS_u3, cS_l3, cS_c3_2, cS_c3_3, cS_c3_5, cS_c3_7, cS_c3_8, cS_c3_10, cS_c3_11, cS_c3_12, cS_i4, cS_g4_0, cS_g4_1, cS_p4_1, cS_g4_2, cS_p4_2, cS_g4_3, cS_p4_3, cS_g4_4, cS_p4_4, cS_a5, cS_u5, cS_l5, cS_c5_2, cS_c5_3, cS_c5_5, cS_c5_7, cS_c5_8, cS_c5_10, cS_c5_11, cS_c5_12, cS_i6, cS_g6_0, cS_g6_1, cS_g6_2, cS_g6_3, cS_g6_4, cS_p6_4, cS_g6_5, cS_p6_5, cS_g6_6, cS_p6_6, cS_g6_7, cS_p6_7, cS_g6_8, cS_p6_8, cS_g6_9, cS_p6_9, cS_a7, cS_u7, cS_l7, cS_c7_2, cS_c7_3, cS_c7_5, cS_c7_7, cS_c7_8, cS_c7_10, cS_c7_11, cS_c7_12, cS_a8, cS_u8, cS_l8, cS_c8_2, cS_c8_3, cS_c8_5, cS_c8_7, cS_c8_8, cS_c8_10, cS_c8_11, cS_c8_12, cS_i9, cS_g9_0, cS_g9_1, cS_g9_2, cS_a10, cS_u10, cS_l10, cS_c10_2, cS_c10_3, cS_c10_5, cS_c10_7, cS_c10_8, cS_c10_10, cS_c10_11, cS_c10_12, cS_a11, cS_u11, cS_l11, cS_c11_2, cS_c11_3, cS_c11_5, cS_c11_7, cS_c11_8, cS_c11_10, cS_c11_11, cS_c11_12, cS_a12, cS_u12, cS_l12, cS_c12_2, cS_c12_3, cS_c12_5, cS_c12_7, cS_c12_8, cS_c12_10, cS_c12_11, cS_c12_12, lit_0, lit_1, lit_2, lit_3, lit_4, lit_5, lit_6, lit_7, lit_8, lit_9, lit_10, lit_11, lit_12, lit_13, lit_14, lit_15, lit_16, lit_17, lit_18, lit_19, lit_20, lit_21, lit_22, lit_23, lit_24, lit_25, lit_26, lit_27, lit_28, lit_29, lit_30, lit_31, lit_32, lit_33, lit_34, lit_35, lit_36, lit_37, lit_38, lit_39, lit_40, lit_41, lit_42, lit_43, lit_44, lit_45, lit_46, lit_47, lit_48, lit_49, lit_50, lit_51, lit_52, lit_53, lit_54, lit_55, lit_56, lit_57, lit_58, lit_59, lit_60, lit_61, lit_62, lit_63, lit_64, lit_80, lit_100, lit_524287, lit_262143, lit_384, lit_1001, lit_1002, lit_61267, nI_add, pk_mul, pk_div, nI_rm, pk_sub, Nrm, Nrm8, Nrm4, nI_inT, nI_clamp, nI_ltT, nI_ltF, nI_eqT, nI_eqF, nI_ltI, nI_eq, nI_ushr, m4, m8, if_true, if_false, true_and, and_true, true_or, or_true, not_false_eq_true, not_true_eq_false, Nat.reduceAdd, Nat.reduceDiv, Nat.reduceMod, Nat.reduceMul, Nat.add_zero, Nat.lt_irrefl, pAdd_0, pK_n, pK_v]
    refine (hf _).trans ?_
    by_cases h : (firstF (crJ d6 0 x q) (nI 2) d).1 = true
    · simp (disch := omega) only [h, w59_133, w59_134, lit_0, lit_1, lit_2, lit_3, lit_4, lit_5, lit_6, lit_7, lit_8, lit_9, lit_10, lit_11, lit_12, lit_13, lit_14, lit_15, lit_16, lit_17, lit_18, lit_19, lit_20, lit_21, lit_22, lit_23, lit_24, lit_25, lit_26, lit_27, lit_28, lit_29, lit_30, lit_31, lit_32, lit_33, lit_34, lit_35, lit_36, lit_37, lit_38, lit_39, lit_40, lit_41, lit_42, lit_43, lit_44, lit_45, lit_46, lit_47, lit_48, lit_49, lit_50, lit_51, lit_52, lit_53, lit_54, lit_55, lit_56, lit_57, lit_58, lit_59, lit_60, lit_61, lit_62, lit_63, lit_64, lit_80, lit_100, lit_524287, lit_262143, lit_384, lit_1001, lit_1002, lit_61267, nI_add, pk_mul, pk_div, nI_rm, pk_sub, Nrm, Nrm8, Nrm4, nI_inT, nI_clamp, nI_ltT, nI_ltF, nI_eqT, nI_eqF, nI_ltI, nI_eq, nI_ushr, m4, m8, if_true, if_false, true_and, and_true, true_or, or_true, not_false_eq_true, not_true_eq_false, Nat.reduceAdd, Nat.reduceDiv, Nat.reduceMod, Nat.reduceMul, Nat.add_zero, Nat.lt_irrefl, pAdd_0, pK_n, pK_v]
    · simp only [h, if_false, Bool.false_eq_true, pK_x hhx]
  unfold crT
  by_cases h : 0 < c
  · simp (disch := omega) only [w59_112, w59_113, w59_116, w59_117, w59_120, cS_i0, cS_g0_0, cS_g0_1, cS_g0_2, cS_g0_3, cS_i1, cS_g1_0, cS_g1_1, cS_g1_2, cS_p1_2, cS_g1_3, cS_p1_3, cS_g1_4, cS_p1_4, cS_g1_5, cS_p1_5, cS_g1_6, cS_p1_6, cS_g1_7, cS_p1_7, cS_a2, cS_u2, cS_l2, cS_c2_2, cS_c2_3, cS_c2_5, cS_c2_7, cS_c2_8, cS_c2_10, cS_c2_11, cS_c2_12, cS_a3, cS_u3, cS_l3, cS_c3_2, cS_c3_3, cS_c3_5, cS_c3_7, cS_c3_8, cS_c3_10, cS_c3_11, cS_c3_12, cS_i4, cS_g4_0, cS_g4_1, cS_p4_1, cS_g4_2, cS_p4_2, cS_g4_3, cS_p4_3, cS_g4_4, cS_p4_4, cS_a5, cS_u5, cS_l5, cS_c5_2, cS_c5_3, cS_c5_5, cS_c5_7, cS_c5_8, cS_c5_10, cS_c5_11, cS_c5_12, cS_i6, cS_g6_0, cS_g6_1, cS_g6_2, cS_g6_3, cS_g6_4, cS_p6_4, cS_g6_5, cS_p6_5, cS_g6_6, cS_p6_6, cS_g6_7, cS_p6_7, cS_g6_8, cS_p6_8, cS_g6_9, cS_p6_9, cS_a7, cS_u7, cS_l7, cS_c7_2, cS_c7_3, cS_c7_5, cS_c7_7, cS_c7_8, cS_c7_10, cS_c7_11, cS_c7_12, cS_a8, cS_u8, cS_l8, cS_c8_2, cS_c8_3, cS_c8_5, cS_c8_7, cS_c8_8, cS_c8_10, cS_c8_11, cS_c8_12, cS_i9, cS_g9_0, cS_g9_1, cS_g9_2, cS_a10, cS_u10, cS_l10, cS_c10_2, cS_c10_3, cS_c10_5, cS_c10_7, cS_c10_8, cS_c10_10, cS_c10_11, cS_c10_12, cS_a11, cS_u11, cS_l11, cS_c11_2, cS_c11_3, cS_c11_5, cS_c11_7, cS_c11_8, cS_c11_10, cS_c11_11, cS_c11_12, cS_a12, cS_u12, cS_l12, cS_c12_2, cS_c12_3, cS_c12_5, cS_c12_7, cS_c12_8, cS_c12_10, cS_c12_11, cS_c12_12, lit_0, lit_1, lit_2, lit_3, lit_4, lit_5, lit_6, lit_7, lit_8, lit_9, lit_10, lit_11, lit_12, lit_13, lit_14, lit_15, lit_16, lit_17, lit_18, lit_19, lit_20, lit_21, lit_22, lit_23, lit_24, lit_25, lit_26, lit_27, lit_28, lit_29, lit_30, lit_31, lit_32, lit_33, lit_34, lit_35, lit_36, lit_37, lit_38, lit_39, lit_40, lit_41, lit_42, lit_43, lit_44, lit_45, lit_46, lit_47, lit_48, lit_49, lit_50, lit_51, lit_52, lit_53, lit_54, lit_55, lit_56, lit_57, lit_58, lit_59, lit_60, lit_61, lit_62, lit_63, lit_64, lit_80, lit_100, lit_524287, lit_262143, lit_384, lit_1001, lit_1002, lit_61267, nI_add, pk_mul, pk_div, nI_rm, pk_sub, Nrm, Nrm8, Nrm4, nI_inT, nI_clamp, nI_ltT, nI_ltF, nI_eqT, nI_eqF, nI_ltI, nI_eq, nI_ushr, m4, m8, if_true, if_false, true_and, and_true, true_or, or_true, not_false_eq_true, not_true_eq_false, Nat.reduceAdd, Nat.reduceDiv, Nat.reduceMod, Nat.reduceMul, Nat.add_zero, Nat.lt_irrefl, pAdd_0, pK_n, pK_v, h, q_flF, pK_x hhx, tail]
    exact Iff.rfl
  · have e : c = 0 := by omega
    subst e
    simp (disch := omega) only [w59_112, w59_113, cS_i0, cS_g0_0, cS_g0_1, cS_g0_2, cS_g0_3, cS_i1, cS_g1_0, cS_g1_1, cS_g1_2, cS_p1_2, cS_g1_3, cS_p1_3, cS_g1_4, cS_p1_4, cS_g1_5, cS_p1_5, cS_g1_6, cS_p1_6, cS_g1_7, cS_p1_7, cS_a2, cS_u2, cS_l2, cS_c2_2, cS_c2_3, cS_c2_5, cS_c2_7, cS_c2_8, cS_c2_10, cS_c2_11, cS_c2_12, cS_a3, cS_u3, cS_l3, cS_c3_2, cS_c3_3, cS_c3_5, cS_c3_7, cS_c3_8, cS_c3_10, cS_c3_11, cS_c3_12, cS_i4, cS_g4_0, cS_g4_1, cS_p4_1, cS_g4_2, cS_p4_2, cS_g4_3, cS_p4_3, cS_g4_4, cS_p4_4, cS_a5, cS_u5, cS_l5, cS_c5_2, cS_c5_3, cS_c5_5, cS_c5_7, cS_c5_8, cS_c5_10, cS_c5_11, cS_c5_12, cS_i6, cS_g6_0, cS_g6_1, cS_g6_2, cS_g6_3, cS_g6_4, cS_p6_4, cS_g6_5, cS_p6_5, cS_g6_6, cS_p6_6, cS_g6_7, cS_p6_7, cS_g6_8, cS_p6_8, cS_g6_9, cS_p6_9, cS_a7, cS_u7, cS_l7, cS_c7_2, cS_c7_3, cS_c7_5, cS_c7_7, cS_c7_8, cS_c7_10, cS_c7_11, cS_c7_12, cS_a8, cS_u8, cS_l8, cS_c8_2, cS_c8_3, cS_c8_5, cS_c8_7, cS_c8_8, cS_c8_10, cS_c8_11, cS_c8_12, cS_i9, cS_g9_0, cS_g9_1, cS_g9_2, cS_a10, cS_u10, cS_l10, cS_c10_2, cS_c10_3, cS_c10_5, cS_c10_7, cS_c10_8, cS_c10_10, cS_c10_11, cS_c10_12, cS_a11, cS_u11, cS_l11, cS_c11_2, cS_c11_3, cS_c11_5, cS_c11_7, cS_c11_8, cS_c11_10, cS_c11_11, cS_c11_12, cS_a12, cS_u12, cS_l12, cS_c12_2, cS_c12_3, cS_c12_5, cS_c12_7, cS_c12_8, cS_c12_10, cS_c12_11, cS_c12_12, lit_0, lit_1, lit_2, lit_3, lit_4, lit_5, lit_6, lit_7, lit_8, lit_9, lit_10, lit_11, lit_12, lit_13, lit_14, lit_15, lit_16, lit_17, lit_18, lit_19, lit_20, lit_21, lit_22, lit_23, lit_24, lit_25, lit_26, lit_27, lit_28, lit_29, lit_30, lit_31, lit_32, lit_33, lit_34, lit_35, lit_36, lit_37, lit_38, lit_39, lit_40, lit_41, lit_42, lit_43, lit_44, lit_45, lit_46, lit_47, lit_48, lit_49, lit_50, lit_51, lit_52, lit_53, lit_54, lit_55, lit_56, lit_57, lit_58, lit_59, lit_60, lit_61, lit_62, lit_63, lit_64, lit_80, lit_100, lit_524287, lit_262143, lit_384, lit_1001, lit_1002, lit_61267, nI_add, pk_mul, pk_div, nI_rm, pk_sub, Nrm, Nrm8, Nrm4, nI_inT, nI_clamp, nI_ltT, nI_ltF, nI_eqT, nI_eqF, nI_ltI, nI_eq, nI_ushr, m4, m8, if_true, if_false, true_and, and_true, true_or, or_true, not_false_eq_true, not_true_eq_false, Nat.reduceAdd, Nat.reduceDiv, Nat.reduceMod, Nat.reduceMul, Nat.add_zero, Nat.lt_irrefl, pAdd_0, pK_n, pK_v, tail]
    exact Iff.rfl
end RUN
