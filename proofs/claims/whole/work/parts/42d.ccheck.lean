theorem cnt_0 {P : Nat → Bool} : ∀ m k c, cntF P m k c = 0 → c = 0 ∧ ∀ i, k ≤ i → i < k + m → P i = false := by
  intro m
  induction m with
  | zero => intro k c h; exact ⟨h, fun i h1 h2 => by omega⟩
  | succ m ih =>
    intro k c h
    have e : cntF P (m + 1) k c = cntF P m (k + 1) (if P k = true then c + 1 else c) := rfl
    rw [e] at h
    obtain ⟨h1, h2⟩ := ih (k + 1) _ h
    by_cases g : P k = true
    · rw [if_pos g] at h1
      omega
    · rw [if_neg g] at h1
      refine ⟨h1, fun i a b => ?_⟩
      by_cases ei : i = k
      · subst ei
        simpa using g
      · exact h2 i (by omega) (by omega)
theorem f2F_0 {f : Nat → Int32} : ∀ m d c, f2F f m d c = 0 → c = 0 ∧ ∀ e, d ≤ e → e < d + m → isD f e = true → ∀ k, k < szN f e → badE f e k = false := by
  intro m
  induction m with
  | zero => intro d c h; exact ⟨h, fun e h1 h2 => by omega⟩
  | succ m ih =>
    intro d c h
    rw [f2F_s] at h
    obtain ⟨h1, h2⟩ := ih (d + 1) _ h
    by_cases hd : isD f d = true
    · rw [if_pos hd] at h1
      obtain ⟨g1, g2⟩ := cnt_0 _ _ _ h1
      refine ⟨g1, fun e a b he k hk => ?_⟩
      by_cases ee : e = d
      · subst ee
        exact g2 k (Nat.zero_le k) (by omega)
      · exact h2 e (by omega) (by omega) he k hk
    · rw [if_neg hd] at h1
      refine ⟨h1, fun e a b he k hk => ?_⟩
      by_cases ee : e = d
      · subst ee
        exact absurd he hd
      · exact h2 e (by omega) (by omega) he k hk
/-- an entry that is right: free, or of a name and an inode in use -/
def entOk (f : Nat → Int32) (v : Int32) : Prop := v = nI 0 ∨ (¬ v = nI 0 ∧ ¬ v &&& nI 31 < nI 1 ∧ ¬ nI 26 < v &&& nI 31 ∧ ∃ j, 1 ≤ j ∧ j ≤ 15 ∧ us 5 v = nI j ∧ ¬ kd f j = nI 0)
theorem ebad_ok {f : Nat → Int32} {v : Int32} (hv : ¬ v = nI 0) (h : ebad f v = false) : entOk f v := by
  unfold ebad at h
  simp only [Bool.or_eq_false_iff, decide_eq_false_iff_not] at h
  obtain ⟨h1, h2, h3, h4, h5⟩ := h
  obtain ⟨j, hj, hje⟩ := nI_of2 (x := us 5 v) (M := nI 15) (n := 15) rfl (fun h => h3 (Int32.lt_trans h (by decide))) (Int32.not_lt.mp h4)
  refine Or.inr ⟨hv, h1, h2, j, ?_, hj, hje, ?_⟩
  · by_cases g : 1 ≤ j
    · exact g
    · rw [hje] at h3
      exact absurd (nI_lt (a := j) (b := 1) (by omega) (by decide)) h3
  · rw [hje, nI_clamp (by omega)] at h5
    exact h5
theorem pass2_ent {f : Nat → Int32} (h : pass2 f = 0) {d k : Nat} (h1 : 1 ≤ d) (h2 : d < 16) (hd : isD f d = true) (hk : k < szN f d) : entOk f (itm f d k) ∧ (¬ itm f d k = nI 0 → dupF f d (itm f d k &&& nI 31) k 0 = false) := by
  have hb := (f2F_0 15 1 0 h).2 d h1 (by omega) hd k hk
  unfold badE at hb
  by_cases hv : itm f d k = nI 0
  · exact ⟨Or.inl hv, fun q => absurd hv q⟩
  · simp only [hv, decide_false, Bool.not_false, Bool.true_and, Bool.or_eq_false_iff] at hb
    exact ⟨ebad_ok hv hb.1, fun _ => hb.2⟩
theorem us5_0 : us 5 (nI 0) = nI 0 := by decide
def updN (E : Nat → Nat) (i x : Nat) : Nat → Nat := fun q => if q = i then x else E q
/-- an array of 16 natural numbers -/
def gN (E : Nat → Nat) (g : Nat → Int32) : Nat → Int32 := fun q => if q < 16 then nI (E q) else g q
theorem gN_i {E : Nat → Nat} {g : Nat → Int32} {i : Nat} (h : i < 16) : gN E g i = nI (E i) := if_pos h
theorem gN_u {E : Nat → Nat} {g : Nat → Int32} {i x : Nat} (h : i < 16) : upd (gN E g) i (nI x) = gN (updN E i x) g := by
  funext q
  by_cases e : q = i
  · subst e
    rw [pk_us]
    unfold gN updN
    rw [if_pos h, if_pos rfl]
  · rw [pk_un e]
    unfold gN updN
    rw [if_neg e]
theorem gN_0 {g : Nat → Int32} : fillF 16 (nI 0) g = gN (fun _ => 0) g := rfl
def jn (f : Nat → Int32) (d k : Nat) : Nat := (us 5 (itm f d k)).toNatClampNeg
def gS (f : Nat → Int32) (d k : Nat) (u : (Nat → Nat) × (Nat → Nat)) : (Nat → Nat) × (Nat → Nat) := if jn f d k = 0 then u else (updN u.1 (jn f d k) (u.1 (jn f d k) + 1), updN u.2 (jn f d k) (if u.2 (jn f d k) = 0 then d else u.2 (jn f d k)))
def gK (f : Nat → Int32) (d : Nat) : Nat → Nat → (Nat → Nat) × (Nat → Nat) → (Nat → Nat) × (Nat → Nat)
  | 0, _, u => u
  | m + 1, k, u => gK f d m (k + 1) (gS f d k u)
def gD (f : Nat → Int32) : Nat → Nat → (Nat → Nat) × (Nat → Nat) → (Nat → Nat) × (Nat → Nat)
  | 0, _, u => u
  | m + 1, d, u => if isD f d = true then gD f m (d + 1) (gK f d (szN f d) 0 u) else gD f m (d + 1) u
theorem gD_s {f : Nat → Int32} {m d : Nat} {u : (Nat → Nat) × (Nat → Nat)} : gD f (m + 1) d u = (if isD f d = true then gD f m (d + 1) (gK f d (szN f d) 0 u) else gD f m (d + 1) u) := rfl
theorem gK_h {f : Nat → Int32} {d i : Nat} (hi : 1 ≤ i) (hi2 : i < 16) (hd1 : 1 ≤ d) : ∀ m k u, (∀ l, k ≤ l → l < k + m → entOk f (itm f d l)) → (u.1 i = 0 ↔ u.2 i = 0) → (gK f d m k u).1 i = cntF (ofI f (nI i) d) m k (u.1 i) ∧ (gK f d m k u).2 i = (if u.1 i = 0 ∧ 0 < cntF (ofI f (nI i) d) m k (u.1 i) then d else u.2 i) := by
  intro m
  induction m with
  | zero =>
    intro k u he h0
    refine ⟨rfl, ?_⟩
    show u.2 i = (if u.1 i = 0 ∧ 0 < u.1 i then d else u.2 i)
    rw [if_neg (by omega)]
  | succ m ih =>
    intro k u he h0
    have e1 : gK f d (m + 1) k u = gK f d m (k + 1) (gS f d k u) := rfl
    have e2 : cntF (ofI f (nI i) d) (m + 1) k (u.1 i) = cntF (ofI f (nI i) d) m (k + 1) (if ofI f (nI i) d k = true then u.1 i + 1 else u.1 i) := rfl
    rw [e1, e2]
    have hstep : (gS f d k u).1 i = (if ofI f (nI i) d k = true then u.1 i + 1 else u.1 i) ∧ (gS f d k u).2 i = (if ofI f (nI i) d k = true then (if u.2 i = 0 then d else u.2 i) else u.2 i) := by
      unfold gS jn
      rcases he k (Nat.le_refl k) (by omega) with hz | ⟨hv, -, -, j, j1, j2, hj, -⟩
      · have hf : ofI f (nI i) d k = false := by simp [ofI, hz]
        rw [hz, us5_0, nI_clamp (by decide), if_pos rfl]
        simp only [hf, Bool.false_eq_true, if_false]
        exact ⟨trivial, trivial⟩
      · rw [hj, nI_clamp (by omega), if_neg (by omega)]
        by_cases e : j = i
        · subst e
          have ht : ofI f (nI j) d k = true := by simp [ofI, hv, hj]
          simp only [ht, if_true]
          exact ⟨if_pos rfl, if_pos rfl⟩
        · have hf : ofI f (nI i) d k = false := by
            have : ¬ nI j = nI i := fun q => e ((nI_eq (by omega) (by omega)).mp q)
            simp [ofI, hj, this]
          simp only [hf, Bool.false_eq_true, if_false]
          have ne : ¬ i = j := fun q => e q.symm
          exact ⟨if_neg ne, if_neg ne⟩
    obtain ⟨s1, s2⟩ := hstep
    have hge := cntF_ge (P := ofI f (nI i) d) m (k + 1) (u.1 i + 1)
    have h9 := ih (k + 1) (gS f d k u) (fun l a b => he l (by omega) (by omega)) (by
      rw [s1, s2]
      by_cases g : ofI f (nI i) d k = true
      · rw [if_pos g, if_pos g]
        constructor
        · intro h
          omega
        · intro h
          split at h <;> omega
      · rw [if_neg g, if_neg g]
        exact h0)
    rw [s1, s2] at h9
    refine ⟨h9.1, h9.2.trans ?_⟩
    by_cases g : ofI f (nI i) d k = true
    · simp only [g, if_true]
      rw [if_neg (by omega)]
      by_cases z : u.1 i = 0
      · rw [if_pos (h0.mp z), if_pos ⟨z, by omega⟩]
      · rw [if_neg (fun q => z (h0.mpr q)), if_neg (fun q => z q.1)]
    · simp only [g, if_false, Bool.false_eq_true]
theorem gD_h {f : Nat → Int32} {i : Nat} (hi : 1 ≤ i) (hi2 : i < 16) (hp : pass2 f = 0) : ∀ m d u, d + m = 16 → 1 ≤ d → (u.1 i = 0 ↔ u.2 i = 0) → (gD f m d u).1 i = (hF f (nI i) m d (u.1 i) (u.2 i)).1 ∧ (gD f m d u).2 i = (hF f (nI i) m d (u.1 i) (u.2 i)).2 := by
  intro m
  induction m with
  | zero =>
    intro d u hd h1 h0
    exact ⟨rfl, rfl⟩
  | succ m ih =>
    intro d u hd h1 h0
    rw [gD_s, hF_s]
    by_cases hdir : isD f d = true
    · rw [if_pos hdir, if_pos hdir]
      obtain ⟨k1, k2⟩ := gK_h (f := f) (d := d) hi hi2 h1 (szN f d) 0 u (fun l _ b => (pass2_ent hp h1 (by omega) hdir (by omega)).1) h0
      have hge := cntF_ge (P := ofI f (nI i) d) (szN f d) 0 (u.1 i)
      have h9 := ih (d + 1) (gK f d (szN f d) 0 u) (by omega) (by omega) (by
        rw [k1, k2]
        by_cases z : u.1 i = 0
        · by_cases z2 : 0 < cntF (ofI f (nI i) d) (szN f d) 0 (u.1 i)
          · rw [if_pos ⟨z, z2⟩]
            omega
          · rw [if_neg (fun q => z2 q.2)]
            have := h0.mp z
            omega
        · rw [if_neg (fun q => z q.1)]
          have : ¬ u.2 i = 0 := fun q => z (h0.mpr q)
          omega)
      rw [k1, k2] at h9
      exact h9
    · rw [if_neg hdir, if_neg hdir]
      exact ih (d + 1) u (by omega) (by omega) h0
/-- how many entries each inode has, and the directory of the first -/
def gAll (f : Nat → Int32) : (Nat → Nat) × (Nat → Nat) := gD f 15 1 (fun _ => 0, fun _ => 0)
theorem gAll_h {f : Nat → Int32} (hp : pass2 f = 0) {i : Nat} (hi : 1 ≤ i) (hi2 : i < 16) : (gAll f).1 i = heldN f i ∧ (gAll f).2 i = heldD f i := gD_h hi hi2 hp 15 1 (fun _ => 0, fun _ => 0) (by omega) (by omega) Iff.rfl
section RUN
variable {X : pScr} {nx : Nat} {ok : Bool} {Q : pRes → Prop} {d1 : cS1} {d4 : cS4} {d6 : cS6} {d9 : cS9} {R : pMem} {M : pMem}
theorem q_fill10_l {x : Int32} {g : Nat → Int32} : ∀ m n, n + m = 5 → (pW X 200 5 [.ref 10, .int x, .int (nI n), .int (nI 5)] [] (cSW d1 d4 d6 (fillF n x g, d9.2) R) nx ok Q ↔ Q (.inl none, cSW d1 d4 d6 (fillF 5 x g, d9.2) R, nx, ok, 0, 0)) := by
  intro m
  induction m with
  | zero =>
    intro n hn
    have e : n = 5 := by omega
    subst e
    rw [w200_5]
    simp (disch := omega) only [w200_0, w200_1, w200_2, w200_3, w200_4, w200_6, w200_7, w200_10, w200_11, w200_12, w200_13, w200_14, w200_17, w200_20, lit_0, lit_1, lit_2, lit_3, lit_4, lit_5, lit_6, lit_7, lit_8, lit_9, lit_10, lit_11, lit_12, lit_13, lit_14, lit_15, lit_16, lit_17, lit_18, lit_19, lit_20, lit_21, lit_22, lit_23, lit_24, lit_25, lit_26, lit_27, lit_28, lit_29, lit_30, lit_31, lit_32, lit_33, lit_34, lit_35, lit_36, lit_37, lit_38, lit_39, lit_40, lit_41, lit_42, lit_43, lit_44, lit_45, lit_46, lit_47, lit_48, lit_49, lit_50, lit_51, lit_52, lit_53, lit_54, lit_55, lit_56, lit_57, lit_58, lit_59, lit_60, lit_61, lit_62, lit_63, lit_64, lit_80, lit_100, lit_524287, lit_262143, lit_384, lit_1001, lit_1002, lit_61267, nI_add, pk_mul, pk_div, nI_rm, pk_sub, Nrm, Nrm8, Nrm4, nI_inT, nI_clamp, nI_ltT, nI_ltF, nI_eqT, nI_eqF, nI_ltI, nI_eq, nI_ushr, m4, m8, if_true, if_false, true_and, and_true, true_or, or_true, not_false_eq_true, not_true_eq_false, Nat.reduceAdd, Nat.reduceDiv, Nat.reduceMod, Nat.reduceMul, Nat.add_zero, Nat.lt_irrefl, pAdd_0, pK_n, pK_v]
  | succ m ih =>
    intro n hn
    rw [← ih (n + 1) (by omega), w200_5]
    simp (disch := omega) only [w200_0, w200_1, w200_2, w200_3, w200_4, w200_6, w200_7, w200_10, w200_11, w200_12, w200_13, w200_14, w200_17, w200_20, cS_i0, cS_g0_0, cS_g0_1, cS_g0_2, cS_g0_3, cS_i1, cS_g1_0, cS_g1_1, cS_g1_2, cS_p1_2, cS_g1_3, cS_p1_3, cS_g1_4, cS_p1_4, cS_g1_5, cS_p1_5, cS_g1_6, cS_p1_6, cS_g1_7, cS_p1_7, cS_a2, cS_u2, cS_l2, cS_c2_2, cS_c2_3, cS_c2_5, cS_c2_7, cS_c2_8, cS_c2_10, cS_c2_11, cS_c2_12, cS_a3, cS_u3, cS_l3, cS_c3_2, cS_c3_3, cS_c3_5, cS_c3_7, cS_c3_8, cS_c3_10, cS_c3_11, cS_c3_12, cS_i4, cS_g4_0, cS_g4_1, cS_p4_1, cS_g4_2, cS_p4_2, cS_g4_3, cS_p4_3, cS_g4_4, cS_p4_4, cS_a5, cS_u5, cS_l5, cS_c5_2, cS_c5_3, cS_c5_5, cS_c5_7, cS_c5_8, cS_c5_10, cS_c5_11, cS_c5_12, cS_i6, cS_g6_0, cS_g6_1, cS_g6_2, cS_g6_3, cS_g6_4, cS_p6_4, cS_g6_5, cS_p6_5, cS_g6_6, cS_p6_6, cS_g6_7, cS_p6_7, cS_g6_8, cS_p6_8, cS_g6_9, cS_p6_9, cS_a7, cS_u7, cS_l7, cS_c7_2, cS_c7_3, cS_c7_5, cS_c7_7, cS_c7_8, cS_c7_10, cS_c7_11, cS_c7_12, cS_a8, cS_u8, cS_l8, cS_c8_2, cS_c8_3, cS_c8_5, cS_c8_7, cS_c8_8, cS_c8_10, cS_c8_11, cS_c8_12, cS_i9, cS_g9_0, cS_g9_1, cS_g9_2, cS_a10, cS_u10, cS_l10, cS_c10_2, cS_c10_3, cS_c10_5, cS_c10_7, cS_c10_8, cS_c10_10, cS_c10_11, cS_c10_12, cS_a11, cS_u11, cS_l11, cS_c11_2, cS_c11_3, cS_c11_5, cS_c11_7, cS_c11_8, cS_c11_10, cS_c11_11, cS_c11_12, cS_a12, cS_u12, cS_l12, cS_c12_2, cS_c12_3, cS_c12_5, cS_c12_7, cS_c12_8, cS_c12_10, cS_c12_11, cS_c12_12, lit_0, lit_1, lit_2, lit_3, lit_4, lit_5, lit_6, lit_7, lit_8, lit_9, lit_10, lit_11, lit_12, lit_13, lit_14, lit_15, lit_16, lit_17, lit_18, lit_19, lit_20, lit_21, lit_22, lit_23, lit_24, lit_25, lit_26, lit_27, lit_28, lit_29, lit_30, lit_31, lit_32, lit_33, lit_34, lit_35, lit_36, lit_37, lit_38, lit_39, lit_40, lit_41, lit_42, lit_43, lit_44, lit_45, lit_46, lit_47, lit_48, lit_49, lit_50, lit_51, lit_52, lit_53, lit_54, lit_55, lit_56, lit_57, lit_58, lit_59, lit_60, lit_61, lit_62, lit_63, lit_64, lit_80, lit_100, lit_524287, lit_262143, lit_384, lit_1001, lit_1002, lit_61267, nI_add, pk_mul, pk_div, nI_rm, pk_sub, Nrm, Nrm8, Nrm4, nI_inT, nI_clamp, nI_ltT, nI_ltF, nI_eqT, nI_eqF, nI_ltI, nI_eq, nI_ushr, m4, m8, if_true, if_false, true_and, and_true, true_or, or_true, not_false_eq_true, not_true_eq_false, Nat.reduceAdd, Nat.reduceDiv, Nat.reduceMod, Nat.reduceMul, Nat.add_zero, Nat.lt_irrefl, pAdd_0, pK_n, pK_v, fillF_s]
theorem q_fill10 {x : Int32} : pW X 200 0 [.ref 10, .int x, pDum, pDum] [] (cSW d1 d4 d6 d9 R) nx ok Q ↔ Q (.inl none, cSW d1 d4 d6 (fillF 5 x d9.1, d9.2) R, nx, ok, 0, 0) := by
  have h0 := q_fill10_l (X := X) (nx := nx) (ok := ok) (Q := Q) (d1 := d1) (d4 := d4) (d6 := d6) (d9 := d9) (R := R) (x := x) (g := d9.1) 5 0 (by omega)
  rw [fillF_0] at h0
  simp (disch := omega) only [w200_0, w200_1, w200_2, w200_3, w200_4, w200_6, w200_7, w200_10, w200_11, w200_12, w200_13, w200_14, w200_17, w200_20, cS_i0, cS_g0_0, cS_g0_1, cS_g0_2, cS_g0_3, cS_i1, cS_g1_0, cS_g1_1, cS_g1_2, cS_p1_2, cS_g1_3, cS_p1_3, cS_g1_4, cS_p1_4, cS_g1_5, cS_p1_5, cS_g1_6, cS_p1_6, cS_g1_7, cS_p1_7, cS_a2, cS_u2, cS_l2, cS_c2_2, cS_c2_3, cS_c2_5, cS_c2_7, cS_c2_8, cS_c2_10, cS_c2_11, cS_c2_12, cS_a3, cS_u3, cS_l3, cS_c3_2, cS_c3_3, cS_c3_5, cS_c3_7, cS_c3_8, cS_c3_10, cS_c3_11, cS_c3_12, cS_i4, cS_g4_0, cS_g4_1, cS_p4_1, cS_g4_2, cS_p4_2, cS_g4_3, cS_p4_3, cS_g4_4, cS_p4_4, cS_a5, cS_u5, cS_l5, cS_c5_2, cS_c5_3, cS_c5_5, cS_c5_7, cS_c5_8, cS_c5_10, cS_c5_11, cS_c5_12, cS_i6, cS_g6_0, cS_g6_1, cS_g6_2, cS_g6_3, cS_g6_4, cS_p6_4, cS_g6_5, cS_p6_5, cS_g6_6, cS_p6_6, cS_g6_7, cS_p6_7, cS_g6_8, cS_p6_8, cS_g6_9, cS_p6_9, cS_a7, cS_u7, cS_l7, cS_c7_2, cS_c7_3, cS_c7_5, cS_c7_7, cS_c7_8, cS_c7_10, cS_c7_11, cS_c7_12, cS_a8, cS_u8, cS_l8, cS_c8_2, cS_c8_3, cS_c8_5, cS_c8_7, cS_c8_8, cS_c8_10, cS_c8_11, cS_c8_12, cS_i9, cS_g9_0, cS_g9_1, cS_g9_2, cS_a10, cS_u10, cS_l10, cS_c10_2, cS_c10_3, cS_c10_5, cS_c10_7, cS_c10_8, cS_c10_10, cS_c10_11, cS_c10_12, cS_a11, cS_u11, cS_l11, cS_c11_2, cS_c11_3, cS_c11_5, cS_c11_7, cS_c11_8, cS_c11_10, cS_c11_11, cS_c11_12, cS_a12, cS_u12, cS_l12, cS_c12_2, cS_c12_3, cS_c12_5, cS_c12_7, cS_c12_8, cS_c12_10, cS_c12_11, cS_c12_12, lit_0, lit_1, lit_2, lit_3, lit_4, lit_5, lit_6, lit_7, lit_8, lit_9, lit_10, lit_11, lit_12, lit_13, lit_14, lit_15, lit_16, lit_17, lit_18, lit_19, lit_20, lit_21, lit_22, lit_23, lit_24, lit_25, lit_26, lit_27, lit_28, lit_29, lit_30, lit_31, lit_32, lit_33, lit_34, lit_35, lit_36, lit_37, lit_38, lit_39, lit_40, lit_41, lit_42, lit_43, lit_44, lit_45, lit_46, lit_47, lit_48, lit_49, lit_50, lit_51, lit_52, lit_53, lit_54, lit_55, lit_56, lit_57, lit_58, lit_59, lit_60, lit_61, lit_62, lit_63, lit_64, lit_80, lit_100, lit_524287, lit_262143, lit_384, lit_1001, lit_1002, lit_61267, nI_add, pk_mul, pk_div, nI_rm, pk_sub, Nrm, Nrm8, Nrm4, nI_inT, nI_clamp, nI_ltT, nI_ltF, nI_eqT, nI_eqF, nI_ltI, nI_eq, nI_ushr, m4, m8, if_true, if_false, true_and, and_true, true_or, or_true, not_false_eq_true, not_true_eq_false, Nat.reduceAdd, Nat.reduceDiv, Nat.reduceMod, Nat.reduceMul, Nat.add_zero, Nat.lt_irrefl, pAdd_0, pK_n, pK_v]
  exact h0
theorem q_fill11_l {x : Int32} {g : Nat → Int32} : ∀ m n, n + m = 16 → (pW X 200 5 [.ref 11, .int x, .int (nI n), .int (nI 16)] [] (cSW d1 d4 d6 (d9.1, fillF n x g, d9.2.2) R) nx ok Q ↔ Q (.inl none, cSW d1 d4 d6 (d9.1, fillF 16 x g, d9.2.2) R, nx, ok, 0, 0)) := by
  intro m
  induction m with
  | zero =>
    intro n hn
    have e : n = 16 := by omega
    subst e
    rw [w200_5]
    simp (disch := omega) only [w200_0, w200_1, w200_2, w200_3, w200_4, w200_6, w200_7, w200_10, w200_11, w200_12, w200_13, w200_14, w200_17, w200_20, lit_0, lit_1, lit_2, lit_3, lit_4, lit_5, lit_6, lit_7, lit_8, lit_9, lit_10, lit_11, lit_12, lit_13, lit_14, lit_15, lit_16, lit_17, lit_18, lit_19, lit_20, lit_21, lit_22, lit_23, lit_24, lit_25, lit_26, lit_27, lit_28, lit_29, lit_30, lit_31, lit_32, lit_33, lit_34, lit_35, lit_36, lit_37, lit_38, lit_39, lit_40, lit_41, lit_42, lit_43, lit_44, lit_45, lit_46, lit_47, lit_48, lit_49, lit_50, lit_51, lit_52, lit_53, lit_54, lit_55, lit_56, lit_57, lit_58, lit_59, lit_60, lit_61, lit_62, lit_63, lit_64, lit_80, lit_100, lit_524287, lit_262143, lit_384, lit_1001, lit_1002, lit_61267, nI_add, pk_mul, pk_div, nI_rm, pk_sub, Nrm, Nrm8, Nrm4, nI_inT, nI_clamp, nI_ltT, nI_ltF, nI_eqT, nI_eqF, nI_ltI, nI_eq, nI_ushr, m4, m8, if_true, if_false, true_and, and_true, true_or, or_true, not_false_eq_true, not_true_eq_false, Nat.reduceAdd, Nat.reduceDiv, Nat.reduceMod, Nat.reduceMul, Nat.add_zero, Nat.lt_irrefl, pAdd_0, pK_n, pK_v]
  | succ m ih =>
    intro n hn
    rw [← ih (n + 1) (by omega), w200_5]
    simp (disch := omega) only [w200_0, w200_1, w200_2, w200_3, w200_4, w200_6, w200_7, w200_10, w200_11, w200_12, w200_13, w200_14, w200_17, w200_20, cS_i0, cS_g0_0, cS_g0_1, cS_g0_2, cS_g0_3, cS_i1, cS_g1_0, cS_g1_1, cS_g1_2, cS_p1_2, cS_g1_3, cS_p1_3, cS_g1_4, cS_p1_4, cS_g1_5, cS_p1_5, cS_g1_6, cS_p1_6, cS_g1_7, cS_p1_7, cS_a2, cS_u2, cS_l2, cS_c2_2, cS_c2_3, cS_c2_5, cS_c2_7, cS_c2_8, cS_c2_10, cS_c2_11, cS_c2_12, cS_a3, cS_u3, cS_l3, cS_c3_2, cS_c3_3, cS_c3_5, cS_c3_7, cS_c3_8, cS_c3_10, cS_c3_11, cS_c3_12, cS_i4, cS_g4_0, cS_g4_1, cS_p4_1, cS_g4_2, cS_p4_2, cS_g4_3, cS_p4_3, cS_g4_4, cS_p4_4, cS_a5, cS_u5, cS_l5, cS_c5_2, cS_c5_3, cS_c5_5, cS_c5_7, cS_c5_8, cS_c5_10, cS_c5_11, cS_c5_12, cS_i6, cS_g6_0, cS_g6_1, cS_g6_2, cS_g6_3, cS_g6_4, cS_p6_4, cS_g6_5, cS_p6_5, cS_g6_6, cS_p6_6, cS_g6_7, cS_p6_7, cS_g6_8, cS_p6_8, cS_g6_9, cS_p6_9, cS_a7, cS_u7, cS_l7, cS_c7_2, cS_c7_3, cS_c7_5, cS_c7_7, cS_c7_8, cS_c7_10, cS_c7_11, cS_c7_12, cS_a8, cS_u8, cS_l8, cS_c8_2, cS_c8_3, cS_c8_5, cS_c8_7, cS_c8_8, cS_c8_10, cS_c8_11, cS_c8_12, cS_i9, cS_g9_0, cS_g9_1, cS_g9_2, cS_a10, cS_u10, cS_l10, cS_c10_2, cS_c10_3, cS_c10_5, cS_c10_7, cS_c10_8, cS_c10_10, cS_c10_11, cS_c10_12, cS_a11, cS_u11, cS_l11, cS_c11_2, cS_c11_3, cS_c11_5, cS_c11_7, cS_c11_8, cS_c11_10, cS_c11_11, cS_c11_12, cS_a12, cS_u12, cS_l12, cS_c12_2, cS_c12_3, cS_c12_5, cS_c12_7, cS_c12_8, cS_c12_10, cS_c12_11, cS_c12_12, lit_0, lit_1, lit_2, lit_3, lit_4, lit_5, lit_6, lit_7, lit_8, lit_9, lit_10, lit_11, lit_12, lit_13, lit_14, lit_15, lit_16, lit_17, lit_18, lit_19, lit_20, lit_21, lit_22, lit_23, lit_24, lit_25, lit_26, lit_27, lit_28, lit_29, lit_30, lit_31, lit_32, lit_33, lit_34, lit_35, lit_36, lit_37, lit_38, lit_39, lit_40, lit_41, lit_42, lit_43, lit_44, lit_45, lit_46, lit_47, lit_48, lit_49, lit_50, lit_51, lit_52, lit_53, lit_54, lit_55, lit_56, lit_57, lit_58, lit_59, lit_60, lit_61, lit_62, lit_63, lit_64, lit_80, lit_100, lit_524287, lit_262143, lit_384, lit_1001, lit_1002, lit_61267, nI_add, pk_mul, pk_div, nI_rm, pk_sub, Nrm, Nrm8, Nrm4, nI_inT, nI_clamp, nI_ltT, nI_ltF, nI_eqT, nI_eqF, nI_ltI, nI_eq, nI_ushr, m4, m8, if_true, if_false, true_and, and_true, true_or, or_true, not_false_eq_true, not_true_eq_false, Nat.reduceAdd, Nat.reduceDiv, Nat.reduceMod, Nat.reduceMul, Nat.add_zero, Nat.lt_irrefl, pAdd_0, pK_n, pK_v, fillF_s]
theorem q_fill11 {x : Int32} : pW X 200 0 [.ref 11, .int x, pDum, pDum] [] (cSW d1 d4 d6 d9 R) nx ok Q ↔ Q (.inl none, cSW d1 d4 d6 (d9.1, fillF 16 x d9.2.1, d9.2.2) R, nx, ok, 0, 0) := by
  have h0 := q_fill11_l (X := X) (nx := nx) (ok := ok) (Q := Q) (d1 := d1) (d4 := d4) (d6 := d6) (d9 := d9) (R := R) (x := x) (g := d9.2.1) 16 0 (by omega)
  rw [fillF_0] at h0
  simp (disch := omega) only [w200_0, w200_1, w200_2, w200_3, w200_4, w200_6, w200_7, w200_10, w200_11, w200_12, w200_13, w200_14, w200_17, w200_20, cS_i0, cS_g0_0, cS_g0_1, cS_g0_2, cS_g0_3, cS_i1, cS_g1_0, cS_g1_1, cS_g1_2, cS_p1_2, cS_g1_3, cS_p1_3, cS_g1_4, cS_p1_4, cS_g1_5, cS_p1_5, cS_g1_6, cS_p1_6, cS_g1_7, cS_p1_7, cS_a2, cS_u2, cS_l2, cS_c2_2, cS_c2_3, cS_c2_5, cS_c2_7, cS_c2_8, cS_c2_10, cS_c2_11, cS_c2_12, cS_a3, cS_u3, cS_l3, cS_c3_2, cS_c3_3, cS_c3_5, cS_c3_7, cS_c3_8, cS_c3_10, cS_c3_11, cS_c3_12, cS_i4, cS_g4_0, cS_g4_1, cS_p4_1, cS_g4_2, cS_p4_2, cS_g4_3, cS_p4_3, cS_g4_4, cS_p4_4, cS_a5, cS_u5, cS_l5, cS_c5_2, cS_c5_3, cS_c5_5, cS_c5_7, cS_c5_8, cS_c5_10, cS_c5_11, cS_c5_12, cS_i6, cS_g6_0, cS_g6_1, cS_g6_2, cS_g6_3, cS_g6_4, cS_p6_4, cS_g6_5, cS_p6_5, cS_g6_6, cS_p6_6, cS_g6_7, cS_p6_7, cS_g6_8, cS_p6_8, cS_g6_9, cS_p6_9, cS_a7, cS_u7, cS_l7, cS_c7_2, cS_c7_3, cS_c7_5, cS_c7_7, cS_c7_8, cS_c7_10, cS_c7_11, cS_c7_12, cS_a8, cS_u8, cS_l8, cS_c8_2, cS_c8_3, cS_c8_5, cS_c8_7, cS_c8_8, cS_c8_10, cS_c8_11, cS_c8_12, cS_i9, cS_g9_0, cS_g9_1, cS_g9_2, cS_a10, cS_u10, cS_l10, cS_c10_2, cS_c10_3, cS_c10_5, cS_c10_7, cS_c10_8, cS_c10_10, cS_c10_11, cS_c10_12, cS_a11, cS_u11, cS_l11, cS_c11_2, cS_c11_3, cS_c11_5, cS_c11_7, cS_c11_8, cS_c11_10, cS_c11_11, cS_c11_12, cS_a12, cS_u12, cS_l12, cS_c12_2, cS_c12_3, cS_c12_5, cS_c12_7, cS_c12_8, cS_c12_10, cS_c12_11, cS_c12_12, lit_0, lit_1, lit_2, lit_3, lit_4, lit_5, lit_6, lit_7, lit_8, lit_9, lit_10, lit_11, lit_12, lit_13, lit_14, lit_15, lit_16, lit_17, lit_18, lit_19, lit_20, lit_21, lit_22, lit_23, lit_24, lit_25, lit_26, lit_27, lit_28, lit_29, lit_30, lit_31, lit_32, lit_33, lit_34, lit_35, lit_36, lit_37, lit_38, lit_39, lit_40, lit_41, lit_42, lit_43, lit_44, lit_45, lit_46, lit_47, lit_48, lit_49, lit_50, lit_51, lit_52, lit_53, lit_54, lit_55, lit_56, lit_57, lit_58, lit_59, lit_60, lit_61, lit_62, lit_63, lit_64, lit_80, lit_100, lit_524287, lit_262143, lit_384, lit_1001, lit_1002, lit_61267, nI_add, pk_mul, pk_div, nI_rm, pk_sub, Nrm, Nrm8, Nrm4, nI_inT, nI_clamp, nI_ltT, nI_ltF, nI_eqT, nI_eqF, nI_ltI, nI_eq, nI_ushr, m4, m8, if_true, if_false, true_and, and_true, true_or, or_true, not_false_eq_true, not_true_eq_false, Nat.reduceAdd, Nat.reduceDiv, Nat.reduceMod, Nat.reduceMul, Nat.add_zero, Nat.lt_irrefl, pAdd_0, pK_n, pK_v]
  exact h0
theorem q_fill12_l {x : Int32} {g : Nat → Int32} : ∀ m n, n + m = 16 → (pW X 200 5 [.ref 12, .int x, .int (nI n), .int (nI 16)] [] (cSW d1 d4 d6 (d9.1, d9.2.1, fillF n x g) R) nx ok Q ↔ Q (.inl none, cSW d1 d4 d6 (d9.1, d9.2.1, fillF 16 x g) R, nx, ok, 0, 0)) := by
  intro m
  induction m with
  | zero =>
    intro n hn
    have e : n = 16 := by omega
    subst e
    rw [w200_5]
    simp (disch := omega) only [w200_0, w200_1, w200_2, w200_3, w200_4, w200_6, w200_7, w200_10, w200_11, w200_12, w200_13, w200_14, w200_17, w200_20, lit_0, lit_1, lit_2, lit_3, lit_4, lit_5, lit_6, lit_7, lit_8, lit_9, lit_10, lit_11, lit_12, lit_13, lit_14, lit_15, lit_16, lit_17, lit_18, lit_19, lit_20, lit_21, lit_22, lit_23, lit_24, lit_25, lit_26, lit_27, lit_28, lit_29, lit_30, lit_31, lit_32, lit_33, lit_34, lit_35, lit_36, lit_37, lit_38, lit_39, lit_40, lit_41, lit_42, lit_43, lit_44, lit_45, lit_46, lit_47, lit_48, lit_49, lit_50, lit_51, lit_52, lit_53, lit_54, lit_55, lit_56, lit_57, lit_58, lit_59, lit_60, lit_61, lit_62, lit_63, lit_64, lit_80, lit_100, lit_524287, lit_262143, lit_384, lit_1001, lit_1002, lit_61267, nI_add, pk_mul, pk_div, nI_rm, pk_sub, Nrm, Nrm8, Nrm4, nI_inT, nI_clamp, nI_ltT, nI_ltF, nI_eqT, nI_eqF, nI_ltI, nI_eq, nI_ushr, m4, m8, if_true, if_false, true_and, and_true, true_or, or_true, not_false_eq_true, not_true_eq_false, Nat.reduceAdd, Nat.reduceDiv, Nat.reduceMod, Nat.reduceMul, Nat.add_zero, Nat.lt_irrefl, pAdd_0, pK_n, pK_v]
  | succ m ih =>
    intro n hn
    rw [← ih (n + 1) (by omega), w200_5]
    simp (disch := omega) only [w200_0, w200_1, w200_2, w200_3, w200_4, w200_6, w200_7, w200_10, w200_11, w200_12, w200_13, w200_14, w200_17, w200_20, cS_i0, cS_g0_0, cS_g0_1, cS_g0_2, cS_g0_3, cS_i1, cS_g1_0, cS_g1_1, cS_g1_2, cS_p1_2, cS_g1_3, cS_p1_3, cS_g1_4, cS_p1_4, cS_g1_5, cS_p1_5, cS_g1_6, cS_p1_6, cS_g1_7, cS_p1_7, cS_a2, cS_u2, cS_l2, cS_c2_2, cS_c2_3, cS_c2_5, cS_c2_7, cS_c2_8, cS_c2_10, cS_c2_11, cS_c2_12, cS_a3, cS_u3, cS_l3, cS_c3_2, cS_c3_3, cS_c3_5, cS_c3_7, cS_c3_8, cS_c3_10, cS_c3_11, cS_c3_12, cS_i4, cS_g4_0, cS_g4_1, cS_p4_1, cS_g4_2, cS_p4_2, cS_g4_3, cS_p4_3, cS_g4_4, cS_p4_4, cS_a5, cS_u5, cS_l5, cS_c5_2, cS_c5_3, cS_c5_5, cS_c5_7, cS_c5_8, cS_c5_10, cS_c5_11, cS_c5_12, cS_i6, cS_g6_0, cS_g6_1, cS_g6_2, cS_g6_3, cS_g6_4, cS_p6_4, cS_g6_5, cS_p6_5, cS_g6_6, cS_p6_6, cS_g6_7, cS_p6_7, cS_g6_8, cS_p6_8, cS_g6_9, cS_p6_9, cS_a7, cS_u7, cS_l7, cS_c7_2, cS_c7_3, cS_c7_5, cS_c7_7, cS_c7_8, cS_c7_10, cS_c7_11, cS_c7_12, cS_a8, cS_u8, cS_l8, cS_c8_2, cS_c8_3, cS_c8_5, cS_c8_7, cS_c8_8, cS_c8_10, cS_c8_11, cS_c8_12, cS_i9, cS_g9_0, cS_g9_1, cS_g9_2, cS_a10, cS_u10, cS_l10, cS_c10_2, cS_c10_3, cS_c10_5, cS_c10_7, cS_c10_8, cS_c10_10, cS_c10_11, cS_c10_12, cS_a11, cS_u11, cS_l11, cS_c11_2, cS_c11_3, cS_c11_5, cS_c11_7, cS_c11_8, cS_c11_10, cS_c11_11, cS_c11_12, cS_a12, cS_u12, cS_l12, cS_c12_2, cS_c12_3, cS_c12_5, cS_c12_7, cS_c12_8, cS_c12_10, cS_c12_11, cS_c12_12, lit_0, lit_1, lit_2, lit_3, lit_4, lit_5, lit_6, lit_7, lit_8, lit_9, lit_10, lit_11, lit_12, lit_13, lit_14, lit_15, lit_16, lit_17, lit_18, lit_19, lit_20, lit_21, lit_22, lit_23, lit_24, lit_25, lit_26, lit_27, lit_28, lit_29, lit_30, lit_31, lit_32, lit_33, lit_34, lit_35, lit_36, lit_37, lit_38, lit_39, lit_40, lit_41, lit_42, lit_43, lit_44, lit_45, lit_46, lit_47, lit_48, lit_49, lit_50, lit_51, lit_52, lit_53, lit_54, lit_55, lit_56, lit_57, lit_58, lit_59, lit_60, lit_61, lit_62, lit_63, lit_64, lit_80, lit_100, lit_524287, lit_262143, lit_384, lit_1001, lit_1002, lit_61267, nI_add, pk_mul, pk_div, nI_rm, pk_sub, Nrm, Nrm8, Nrm4, nI_inT, nI_clamp, nI_ltT, nI_ltF, nI_eqT, nI_eqF, nI_ltI, nI_eq, nI_ushr, m4, m8, if_true, if_false, true_and, and_true, true_or, or_true, not_false_eq_true, not_true_eq_false, Nat.reduceAdd, Nat.reduceDiv, Nat.reduceMod, Nat.reduceMul, Nat.add_zero, Nat.lt_irrefl, pAdd_0, pK_n, pK_v, fillF_s]
theorem q_fill12 {x : Int32} : pW X 200 0 [.ref 12, .int x, pDum, pDum] [] (cSW d1 d4 d6 d9 R) nx ok Q ↔ Q (.inl none, cSW d1 d4 d6 (d9.1, d9.2.1, fillF 16 x d9.2.2) R, nx, ok, 0, 0) := by
  have h0 := q_fill12_l (X := X) (nx := nx) (ok := ok) (Q := Q) (d1 := d1) (d4 := d4) (d6 := d6) (d9 := d9) (R := R) (x := x) (g := d9.2.2) 16 0 (by omega)
  rw [fillF_0] at h0
  simp (disch := omega) only [w200_0, w200_1, w200_2, w200_3, w200_4, w200_6, w200_7, w200_10, w200_11, w200_12, w200_13, w200_14, w200_17, w200_20, cS_i0, cS_g0_0, cS_g0_1, cS_g0_2, cS_g0_3, cS_i1, cS_g1_0, cS_g1_1, cS_g1_2, cS_p1_2, cS_g1_3, cS_p1_3, cS_g1_4, cS_p1_4, cS_g1_5, cS_p1_5, cS_g1_6, cS_p1_6, cS_g1_7, cS_p1_7, cS_a2, cS_u2, cS_l2, cS_c2_2, cS_c2_3, cS_c2_5, cS_c2_7, cS_c2_8, cS_c2_10, cS_c2_11, cS_c2_12, cS_a3, cS_u3, cS_l3, cS_c3_2, cS_c3_3, cS_c3_5, cS_c3_7, cS_c3_8, cS_c3_10, cS_c3_11, cS_c3_12, cS_i4, cS_g4_0, cS_g4_1, cS_p4_1, cS_g4_2, cS_p4_2, cS_g4_3, cS_p4_3, cS_g4_4, cS_p4_4, cS_a5, cS_u5, cS_l5, cS_c5_2, cS_c5_3, cS_c5_5, cS_c5_7, cS_c5_8, cS_c5_10, cS_c5_11, cS_c5_12, cS_i6, cS_g6_0, cS_g6_1, cS_g6_2, cS_g6_3, cS_g6_4, cS_p6_4, cS_g6_5, cS_p6_5, cS_g6_6, cS_p6_6, cS_g6_7, cS_p6_7, cS_g6_8, cS_p6_8, cS_g6_9, cS_p6_9, cS_a7, cS_u7, cS_l7, cS_c7_2, cS_c7_3, cS_c7_5, cS_c7_7, cS_c7_8, cS_c7_10, cS_c7_11, cS_c7_12, cS_a8, cS_u8, cS_l8, cS_c8_2, cS_c8_3, cS_c8_5, cS_c8_7, cS_c8_8, cS_c8_10, cS_c8_11, cS_c8_12, cS_i9, cS_g9_0, cS_g9_1, cS_g9_2, cS_a10, cS_u10, cS_l10, cS_c10_2, cS_c10_3, cS_c10_5, cS_c10_7, cS_c10_8, cS_c10_10, cS_c10_11, cS_c10_12, cS_a11, cS_u11, cS_l11, cS_c11_2, cS_c11_3, cS_c11_5, cS_c11_7, cS_c11_8, cS_c11_10, cS_c11_11, cS_c11_12, cS_a12, cS_u12, cS_l12, cS_c12_2, cS_c12_3, cS_c12_5, cS_c12_7, cS_c12_8, cS_c12_10, cS_c12_11, cS_c12_12, lit_0, lit_1, lit_2, lit_3, lit_4, lit_5, lit_6, lit_7, lit_8, lit_9, lit_10, lit_11, lit_12, lit_13, lit_14, lit_15, lit_16, lit_17, lit_18, lit_19, lit_20, lit_21, lit_22, lit_23, lit_24, lit_25, lit_26, lit_27, lit_28, lit_29, lit_30, lit_31, lit_32, lit_33, lit_34, lit_35, lit_36, lit_37, lit_38, lit_39, lit_40, lit_41, lit_42, lit_43, lit_44, lit_45, lit_46, lit_47, lit_48, lit_49, lit_50, lit_51, lit_52, lit_53, lit_54, lit_55, lit_56, lit_57, lit_58, lit_59, lit_60, lit_61, lit_62, lit_63, lit_64, lit_80, lit_100, lit_524287, lit_262143, lit_384, lit_1001, lit_1002, lit_61267, nI_add, pk_mul, pk_div, nI_rm, pk_sub, Nrm, Nrm8, Nrm4, nI_inT, nI_clamp, nI_ltT, nI_ltF, nI_eqT, nI_eqF, nI_ltI, nI_eq, nI_ushr, m4, m8, if_true, if_false, true_and, and_true, true_or, or_true, not_false_eq_true, not_true_eq_false, Nat.reduceAdd, Nat.reduceDiv, Nat.reduceMod, Nat.reduceMul, Nat.add_zero, Nat.lt_irrefl, pAdd_0, pK_n, pK_v]
  exact h0
/-- the arrays of the gathering -/
def gArr (u : (Nat → Nat) × (Nat → Nat)) (g h : Nat → Int32) (c : cS9) : cS9 := (c.1, gN u.1 g, gN u.2 h)
theorem gS_lt {f : Nat → Int32} {d k : Nat} {u : (Nat → Nat) × (Nat → Nat)} (hd : d < 16) (h : ∀ i, i < 16 → u.2 i < 16) : ∀ i, i < 16 → (gS f d k u).2 i < 16 := by
  intro i hi
  unfold gS
  split
  · exact h i hi
  · show (if i = jn f d k then _ else u.2 i) < 16
    split
    · rename_i e
      split
      · exact hd
      · rw [← e]
        exact h i hi
    · exact h i hi
theorem q_gath_k {d s : Nat} {g h : Nat → Int32} (hd : d < 16) (hs16 : s ≤ 16) (hb : ∀ k, k < s → ∃ b, b < 48 ∧ d1.1 (16 + 4 * d + (2 + k / 8)) = nI b) (he : ∀ k, k < s → entOk d1.1 (itm d1.1 d k)) : ∀ m k u z5, k + m = s → (∀ i, i < 16 → u.2 i < 16) → ∃ z5', (pW X 44 33 [.ref 9, .ref 2, .int (nI d), .int (nI s), .int (nI k), z5] [] (cSW d1 d4 d6 (gArr u g h d9) R) nx ok Q ↔ pW X 44 103 [.ref 9, .ref 2, .int (nI d), .int (nI s), .int (nI s), z5'] [] (cSW d1 d4 d6 (gArr (gK d1.1 d m k u) g h d9) R) nx ok Q) := by
  intro m
  induction m with
  | zero =>
    intro k u z5 hk hu
    have e : k = s := by omega
    subst e
    refine ⟨z5, ?_⟩
    rw [w44_33]
    simp (disch := omega) only [w44_35, w44_36, lit_0, lit_1, lit_2, lit_3, lit_4, lit_5, lit_6, lit_7, lit_8, lit_9, lit_10, lit_11, lit_12, lit_13, lit_14, lit_15, lit_16, lit_17, lit_18, lit_19, lit_20, lit_21, lit_22, lit_23, lit_24, lit_25, lit_26, lit_27, lit_28, lit_29, lit_30, lit_31, lit_32, lit_33, lit_34, lit_35, lit_36, lit_37, lit_38, lit_39, lit_40, lit_41, lit_42, lit_43, lit_44, lit_45, lit_46, lit_47, lit_48, lit_49, lit_50, lit_51, lit_52, lit_53, lit_54, lit_55, lit_56, lit_57, lit_58, lit_59, lit_60, lit_61, lit_62, lit_63, lit_64, lit_80, lit_100, lit_524287, lit_262143, lit_384, lit_1001, lit_1002, lit_61267, nI_add, pk_mul, pk_div, nI_rm, pk_sub, Nrm, Nrm8, Nrm4, nI_inT, nI_clamp, nI_ltT, nI_ltF, nI_eqT, nI_eqF, nI_ltI, nI_eq, nI_ushr, m4, m8, if_true, if_false, true_and, and_true, true_or, or_true, not_false_eq_true, not_true_eq_false, Nat.reduceAdd, Nat.reduceDiv, Nat.reduceMod, Nat.reduceMul, Nat.add_zero, Nat.lt_irrefl, pAdd_0, pK_n, pK_v, gK]
  | succ m ih =>
    intro k u z5 hk hu
    obtain ⟨b, hbl, hbe⟩ := hb k (by omega)
    have hp : epos d1.1 d k < 384 := by
      unfold epos
      rw [hbe, nI_clamp (by omega)]
      omega
    have ei : d1.1 (epos d1.1 d k) = itm d1.1 d k := rfl
    have eu : UInt32.toInt32 (Int32.toUInt32 (itm d1.1 d k) >>> (Int32.toUInt32 (nI 5) &&& Int32.toUInt32 (nI 31))) = us 5 (itm d1.1 d k) := rfl
    have es : gK d1.1 d (m + 1) k u = gK d1.1 d m (k + 1) (gS d1.1 d k u) := rfl
    have hj : ∃ j, j < 16 ∧ us 5 (itm d1.1 d k) = nI j := by
      rcases he k (by omega) with hz | ⟨-, -, -, j, j1, j2, hj, -⟩
      · exact ⟨0, by omega, by rw [hz]; exact us5_0⟩
      · exact ⟨j, by omega, hj⟩
    obtain ⟨j, hj16, hje⟩ := hj
    have hjn : jn d1.1 d k = j := by
      unfold jn
      rw [hje, nI_clamp (by omega)]
    rw [es]
    by_cases a : j = 0
    · have eg : gS d1.1 d k u = u := by
        unfold gS
        rw [hjn, if_pos a]
      rw [eg]
      obtain ⟨z5', h9⟩ := ih (k + 1) u (.int (nI j)) (by omega) hu
      refine ⟨z5', ?_⟩
      rw [← h9, w44_33]
      simp (disch := omega) only [w44_35, w44_36, w44_39, w44_40, w44_41, w44_42, w44_44, w44_47, w44_48, w44_51, w44_53, w44_55, w44_97, w44_100, w175_0, w175_1, w175_2, w175_3, cS_i0, cS_g0_0, cS_g0_1, cS_g0_2, cS_g0_3, cS_i1, cS_g1_0, cS_g1_1, cS_g1_2, cS_p1_2, cS_g1_3, cS_p1_3, cS_g1_4, cS_p1_4, cS_g1_5, cS_p1_5, cS_g1_6, cS_p1_6, cS_g1_7, cS_p1_7, cS_a2, cS_u2, cS_l2, cS_c2_2, cS_c2_3, cS_c2_5, cS_c2_7, cS_c2_8, cS_c2_10, cS_c2_11, cS_c2_12, cS_a3, cS_u3, cS_l3, cS_c3_2, cS_c3_3, cS_c3_5, cS_c3_7, cS_c3_8, cS_c3_10, cS_c3_11, cS_c3_12, cS_i4, cS_g4_0, cS_g4_1, cS_p4_1, cS_g4_2, cS_p4_2, cS_g4_3, cS_p4_3, cS_g4_4, cS_p4_4, cS_a5, cS_u5, cS_l5, cS_c5_2, cS_c5_3, cS_c5_5, cS_c5_7, cS_c5_8, cS_c5_10, cS_c5_11, cS_c5_12, cS_i6, cS_g6_0, cS_g6_1, cS_g6_2, cS_g6_3, cS_g6_4, cS_p6_4, cS_g6_5, cS_p6_5, cS_g6_6, cS_p6_6, cS_g6_7, cS_p6_7, cS_g6_8, cS_p6_8, cS_g6_9, cS_p6_9, cS_a7, cS_u7, cS_l7, cS_c7_2, cS_c7_3, cS_c7_5, cS_c7_7, cS_c7_8, cS_c7_10, cS_c7_11, cS_c7_12, cS_a8, cS_u8, cS_l8, cS_c8_2, cS_c8_3, cS_c8_5, cS_c8_7, cS_c8_8, cS_c8_10, cS_c8_11, cS_c8_12, cS_i9, cS_g9_0, cS_g9_1, cS_g9_2, cS_a10, cS_u10, cS_l10, cS_c10_2, cS_c10_3, cS_c10_5, cS_c10_7, cS_c10_8, cS_c10_10, cS_c10_11, cS_c10_12, cS_a11, cS_u11, cS_l11, cS_c11_2, cS_c11_3, cS_c11_5, cS_c11_7, cS_c11_8, cS_c11_10, cS_c11_11, cS_c11_12, cS_a12, cS_u12, cS_l12, cS_c12_2, cS_c12_3, cS_c12_5, cS_c12_7, cS_c12_8, cS_c12_10, cS_c12_11, cS_c12_12, lit_0, lit_1, lit_2, lit_3, lit_4, lit_5, lit_6, lit_7, lit_8, lit_9, lit_10, lit_11, lit_12, lit_13, lit_14, lit_15, lit_16, lit_17, lit_18, lit_19, lit_20, lit_21, lit_22, lit_23, lit_24, lit_25, lit_26, lit_27, lit_28, lit_29, lit_30, lit_31, lit_32, lit_33, lit_34, lit_35, lit_36, lit_37, lit_38, lit_39, lit_40, lit_41, lit_42, lit_43, lit_44, lit_45, lit_46, lit_47, lit_48, lit_49, lit_50, lit_51, lit_52, lit_53, lit_54, lit_55, lit_56, lit_57, lit_58, lit_59, lit_60, lit_61, lit_62, lit_63, lit_64, lit_80, lit_100, lit_524287, lit_262143, lit_384, lit_1001, lit_1002, lit_61267, nI_add, pk_mul, pk_div, nI_rm, pk_sub, Nrm, Nrm8, Nrm4, nI_inT, nI_clamp, nI_ltT, nI_ltF, nI_eqT, nI_eqF, nI_ltI, nI_eq, nI_ushr, m4, m8, if_true, if_false, true_and, and_true, true_or, or_true, not_false_eq_true, not_true_eq_false, Nat.reduceAdd, Nat.reduceDiv, Nat.reduceMod, Nat.reduceMul, Nat.add_zero, Nat.lt_irrefl, pAdd_0, pK_n, pK_v, q_intAt2 hd (show k < 16 by omega) ⟨b, hbl, hbe⟩, ei, eu, hje]
    · have hH := hu j hj16
      obtain ⟨z5', h9⟩ := ih (k + 1) (gS d1.1 d k u) (.int (nI j)) (by omega) (gS_lt hd hu)
      refine ⟨z5', ?_⟩
      rw [← h9, w44_33]
      by_cases z : u.2 j = 0
      · have eg : gS d1.1 d k u = (updN u.1 j (u.1 j + 1), updN u.2 j d) := by
          unfold gS
          rw [hjn, if_neg a, if_pos z]
        rw [eg]
        simp (disch := omega) only [w44_35, w44_36, w44_39, w44_40, w44_41, w44_42, w44_44, w44_47, w44_48, w44_51, w44_53, w44_55, w44_58, w44_59, w44_62, w44_64, w44_65, w44_66, w44_67, w44_68, w44_69, w44_70, w44_73, w44_75, w44_76, w44_79, w44_81, w44_82, w44_85, w44_86, w44_96, w44_97, w44_100, w175_0, w175_1, w175_2, w175_3, cS_i0, cS_g0_0, cS_g0_1, cS_g0_2, cS_g0_3, cS_i1, cS_g1_0, cS_g1_1, cS_g1_2, cS_p1_2, cS_g1_3, cS_p1_3, cS_g1_4, cS_p1_4, cS_g1_5, cS_p1_5, cS_g1_6, cS_p1_6, cS_g1_7, cS_p1_7, cS_a2, cS_u2, cS_l2, cS_c2_2, cS_c2_3, cS_c2_5, cS_c2_7, cS_c2_8, cS_c2_10, cS_c2_11, cS_c2_12, cS_a3, cS_u3, cS_l3, cS_c3_2, cS_c3_3, cS_c3_5, cS_c3_7, cS_c3_8, cS_c3_10, cS_c3_11, cS_c3_12, cS_i4, cS_g4_0, cS_g4_1, cS_p4_1, cS_g4_2, cS_p4_2, cS_g4_3, cS_p4_3, cS_g4_4, cS_p4_4, cS_a5, cS_u5, cS_l5, cS_c5_2, cS_c5_3, cS_c5_5, cS_c5_7, cS_c5_8, cS_c5_10, cS_c5_11, cS_c5_12, cS_i6, cS_g6_0, cS_g6_1, cS_g6_2, cS_g6_3, cS_g6_4, cS_p6_4, cS_g6_5, cS_p6_5, cS_g6_6, cS_p6_6, cS_g6_7, cS_p6_7, cS_g6_8, cS_p6_8, cS_g6_9, cS_p6_9, cS_a7, cS_u7, cS_l7, cS_c7_2, cS_c7_3, cS_c7_5, cS_c7_7, cS_c7_8, cS_c7_10, cS_c7_11, cS_c7_12, cS_a8, cS_u8, cS_l8, cS_c8_2, cS_c8_3, cS_c8_5, cS_c8_7, cS_c8_8, cS_c8_10, cS_c8_11, cS_c8_12, cS_i9, cS_g9_0, cS_g9_1, cS_g9_2, cS_a10, cS_u10, cS_l10, cS_c10_2, cS_c10_3, cS_c10_5, cS_c10_7, cS_c10_8, cS_c10_10, cS_c10_11, cS_c10_12, cS_a11, cS_u11, cS_l11, cS_c11_2, cS_c11_3, cS_c11_5, cS_c11_7, cS_c11_8, cS_c11_10, cS_c11_11, cS_c11_12, cS_a12, cS_u12, cS_l12, cS_c12_2, cS_c12_3, cS_c12_5, cS_c12_7, cS_c12_8, cS_c12_10, cS_c12_11, cS_c12_12, gArr, lit_0, lit_1, lit_2, lit_3, lit_4, lit_5, lit_6, lit_7, lit_8, lit_9, lit_10, lit_11, lit_12, lit_13, lit_14, lit_15, lit_16, lit_17, lit_18, lit_19, lit_20, lit_21, lit_22, lit_23, lit_24, lit_25, lit_26, lit_27, lit_28, lit_29, lit_30, lit_31, lit_32, lit_33, lit_34, lit_35, lit_36, lit_37, lit_38, lit_39, lit_40, lit_41, lit_42, lit_43, lit_44, lit_45, lit_46, lit_47, lit_48, lit_49, lit_50, lit_51, lit_52, lit_53, lit_54, lit_55, lit_56, lit_57, lit_58, lit_59, lit_60, lit_61, lit_62, lit_63, lit_64, lit_80, lit_100, lit_524287, lit_262143, lit_384, lit_1001, lit_1002, lit_61267, nI_add, pk_mul, pk_div, nI_rm, pk_sub, Nrm, Nrm8, Nrm4, nI_inT, nI_clamp, nI_ltT, nI_ltF, nI_eqT, nI_eqF, nI_ltI, nI_eq, nI_ushr, m4, m8, if_true, if_false, true_and, and_true, true_or, or_true, not_false_eq_true, not_true_eq_false, Nat.reduceAdd, Nat.reduceDiv, Nat.reduceMod, Nat.reduceMul, Nat.add_zero, Nat.lt_irrefl, pAdd_0, pK_n, pK_v, q_intAt2 hd (show k < 16 by omega) ⟨b, hbl, hbe⟩, ei, eu, hje, gN_i hj16, gN_u hj16]
      · have eg : gS d1.1 d k u = (updN u.1 j (u.1 j + 1), updN u.2 j (u.2 j)) := by
          unfold gS
          rw [hjn, if_neg a, if_neg z]
        rw [eg]
        simp (disch := omega) only [w44_35, w44_36, w44_39, w44_40, w44_41, w44_42, w44_44, w44_47, w44_48, w44_51, w44_53, w44_55, w44_58, w44_59, w44_62, w44_64, w44_65, w44_66, w44_67, w44_68, w44_69, w44_70, w44_73, w44_75, w44_76, w44_79, w44_81, w44_82, w44_89, w44_90, w44_93, w44_95, w44_96, w44_97, w44_100, w175_0, w175_1, w175_2, w175_3, cS_i0, cS_g0_0, cS_g0_1, cS_g0_2, cS_g0_3, cS_i1, cS_g1_0, cS_g1_1, cS_g1_2, cS_p1_2, cS_g1_3, cS_p1_3, cS_g1_4, cS_p1_4, cS_g1_5, cS_p1_5, cS_g1_6, cS_p1_6, cS_g1_7, cS_p1_7, cS_a2, cS_u2, cS_l2, cS_c2_2, cS_c2_3, cS_c2_5, cS_c2_7, cS_c2_8, cS_c2_10, cS_c2_11, cS_c2_12, cS_a3, cS_u3, cS_l3, cS_c3_2, cS_c3_3, cS_c3_5, cS_c3_7, cS_c3_8, cS_c3_10, cS_c3_11, cS_c3_12, cS_i4, cS_g4_0, cS_g4_1, cS_p4_1, cS_g4_2, cS_p4_2, cS_g4_3, cS_p4_3, cS_g4_4, cS_p4_4, cS_a5, cS_u5, cS_l5, cS_c5_2, cS_c5_3, cS_c5_5, cS_c5_7, cS_c5_8, cS_c5_10, cS_c5_11, cS_c5_12, cS_i6, cS_g6_0, cS_g6_1, cS_g6_2, cS_g6_3, cS_g6_4, cS_p6_4, cS_g6_5, cS_p6_5, cS_g6_6, cS_p6_6, cS_g6_7, cS_p6_7, cS_g6_8, cS_p6_8, cS_g6_9, cS_p6_9, cS_a7, cS_u7, cS_l7, cS_c7_2, cS_c7_3, cS_c7_5, cS_c7_7, cS_c7_8, cS_c7_10, cS_c7_11, cS_c7_12, cS_a8, cS_u8, cS_l8, cS_c8_2, cS_c8_3, cS_c8_5, cS_c8_7, cS_c8_8, cS_c8_10, cS_c8_11, cS_c8_12, cS_i9, cS_g9_0, cS_g9_1, cS_g9_2, cS_a10, cS_u10, cS_l10, cS_c10_2, cS_c10_3, cS_c10_5, cS_c10_7, cS_c10_8, cS_c10_10, cS_c10_11, cS_c10_12, cS_a11, cS_u11, cS_l11, cS_c11_2, cS_c11_3, cS_c11_5, cS_c11_7, cS_c11_8, cS_c11_10, cS_c11_11, cS_c11_12, cS_a12, cS_u12, cS_l12, cS_c12_2, cS_c12_3, cS_c12_5, cS_c12_7, cS_c12_8, cS_c12_10, cS_c12_11, cS_c12_12, gArr, lit_0, lit_1, lit_2, lit_3, lit_4, lit_5, lit_6, lit_7, lit_8, lit_9, lit_10, lit_11, lit_12, lit_13, lit_14, lit_15, lit_16, lit_17, lit_18, lit_19, lit_20, lit_21, lit_22, lit_23, lit_24, lit_25, lit_26, lit_27, lit_28, lit_29, lit_30, lit_31, lit_32, lit_33, lit_34, lit_35, lit_36, lit_37, lit_38, lit_39, lit_40, lit_41, lit_42, lit_43, lit_44, lit_45, lit_46, lit_47, lit_48, lit_49, lit_50, lit_51, lit_52, lit_53, lit_54, lit_55, lit_56, lit_57, lit_58, lit_59, lit_60, lit_61, lit_62, lit_63, lit_64, lit_80, lit_100, lit_524287, lit_262143, lit_384, lit_1001, lit_1002, lit_61267, nI_add, pk_mul, pk_div, nI_rm, pk_sub, Nrm, Nrm8, Nrm4, nI_inT, nI_clamp, nI_ltT, nI_ltF, nI_eqT, nI_eqF, nI_ltI, nI_eq, nI_ushr, m4, m8, if_true, if_false, true_and, and_true, true_or, or_true, not_false_eq_true, not_true_eq_false, Nat.reduceAdd, Nat.reduceDiv, Nat.reduceMod, Nat.reduceMul, Nat.add_zero, Nat.lt_irrefl, pAdd_0, pK_n, pK_v, q_intAt2 hd (show k < 16 by omega) ⟨b, hbl, hbe⟩, ei, eu, hje, gN_i hj16, gN_u hj16]
end RUN
