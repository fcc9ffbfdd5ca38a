/-! what pass 1 assures -/
theorem f1F_ge {f : Nat → Int32} : ∀ m i c, c ≤ f1F f m i c := by
  intro m
  induction m with
  | zero => intro i c; exact Nat.le_refl c
  | succ m ih =>
    intro i c
    have h := ih (i + 1) (c + b2n (wrongB f i) + b2n (repB f i 2) + b2n (repB f i 3))
    show c ≤ f1F f m (i + 1) (c + b2n (wrongB f i) + b2n (repB f i 2) + b2n (repB f i 3))
    omega
theorem f1F_0 {f : Nat → Int32} : ∀ m i, f1F f m i 0 = 0 → ∀ j, i ≤ j → j < i + m → wrongB f j = false ∧ repB f j 2 = false ∧ repB f j 3 = false := by
  intro m
  induction m with
  | zero => intro i h j h1 h2; omega
  | succ m ih =>
    intro i h j h1 h2
    have e : f1F f (m + 1) i 0 = f1F f m (i + 1) (0 + b2n (wrongB f i) + b2n (repB f i 2) + b2n (repB f i 3)) := rfl
    rw [e] at h
    have hg := f1F_ge (f := f) m (i + 1) (0 + b2n (wrongB f i) + b2n (repB f i 2) + b2n (repB f i 3))
    have z : 0 + b2n (wrongB f i) + b2n (repB f i 2) + b2n (repB f i 3) = 0 := by omega
    rw [z] at h
    by_cases hj : j = i
    · subst hj
      have b : ∀ x : Bool, b2n x = 0 → x = false := fun x hx => by cases x with
        | true => exact absurd hx (by decide)
        | false => rfl
      exact ⟨b _ (by omega), b _ (by omega), b _ (by omega)⟩
    · exact ih (i + 1) h j (by omega) (by omega)
theorem dataB_n {b : Int32} (h : dataB b = true) : ∃ c, 18 ≤ c ∧ c < 48 ∧ b = nI c := by
  unfold dataB at h
  simp only [Bool.and_eq_true, Bool.not_eq_true', decide_eq_false_iff_not] at h
  obtain ⟨h1, h2⟩ := h
  obtain ⟨j, hj, rfl⟩ := nI_of2 (x := b) (M := nI 47) (n := 47) rfl (fun h => h1 (Int32.lt_trans h (by decide))) (Int32.not_lt.mp h2)
  refine ⟨j, ?_, by omega, rfl⟩
  by_cases g : 18 ≤ j
  · exact g
  · exact absurd (nI_lt (a := j) (b := 18) (by omega) (by decide)) h1
/-- what an inode that is right is: free; or of kind 1 or 2, size and numbers as said -/
def inoOk (f : Nat → Int32) (i : Nat) : Prop :=
  (kd f i = nI 0 ∧ f (16 + 4 * i) = nI 0 ∧ f (16 + 4 * i + 1) = nI 0 ∧ f (16 + 4 * i + 2) = nI 0 ∧ f (16 + 4 * i + 3) = nI 0) ∨
  (kd f i = nI 1 ∧ ¬ us 4 (f (16 + 4 * i)) = nI 0 ∧ ∃ s, s ≤ 16 ∧ f (16 + 4 * i + 1) = nI s ∧ (∀ j, j < 2 → f (16 + 4 * i + (2 + j)) = nI 0 ∨ ∃ b, 18 ≤ b ∧ b < 48 ∧ f (16 + 4 * i + (2 + j)) = nI b ∧ 8 * j < s)) ∨
  (kd f i = nI 2 ∧ ¬ us 4 (f (16 + 4 * i)) = nI 0 ∧ ∃ s, (s = 8 ∨ s = 16) ∧ f (16 + 4 * i + 1) = nI s ∧ (∀ j, j < 2 → (f (16 + 4 * i + (2 + j)) = nI 0 ∧ s ≤ 8 * j) ∨ ∃ b, 18 ≤ b ∧ b < 48 ∧ f (16 + 4 * i + (2 + j)) = nI b ∧ 8 * j < s))
theorem numW_f {k z b : Int32} {j s : Nat} (hz : z = nI s) (hs : s ≤ 16) (hj : j < 2) (h : numW k z b j = false) : (b = nI 0 ∧ (k = nI 2 → s ≤ 8 * j)) ∨ ∃ c, 18 ≤ c ∧ c < 48 ∧ b = nI c ∧ 8 * j < s := by
  subst hz
  unfold numW at h
  by_cases hb : b = nI 0
  · left
    refine ⟨hb, fun hk => ?_⟩
    rw [if_pos hb] at h
    simp only [hk, decide_true, Bool.true_and, decide_eq_false_iff_not] at h
    by_cases g : s ≤ 8 * j
    · exact g
    · exact absurd (nI_lt (by omega) (by omega)) h
  · right
    rw [if_neg hb] at h
    simp only [Bool.or_eq_false_iff, Bool.not_eq_false', decide_eq_true_eq] at h
    obtain ⟨c, c1, c2, c3⟩ := dataB_n h.1
    refine ⟨c, c1, c2, c3, ?_⟩
    by_cases g : 8 * j < s
    · exact g
    · exact absurd h.2 (nI_nlt (by omega) (by omega))
theorem kd_n (f : Nat → Int32) (i : Nat) : ∃ k, k < 16 ∧ kd f i = nI k := by
  obtain ⟨j, hj, e⟩ := pk_andE (f (16 + 4 * i)) (m := nI 15) 4 (by decide)
  exact ⟨j, hj, e⟩
theorem wrongB_ok {f : Nat → Int32} {i : Nat} (h : wrongB f i = false) : inoOk f i := by
  unfold wrongB at h
  by_cases k0 : kd f i = nI 0
  · rw [if_pos k0] at h
    simp only [Bool.not_eq_false', Bool.and_eq_true, decide_eq_true_eq] at h
    exact Or.inl ⟨k0, h.1, h.2.1, h.2.2.1, h.2.2.2⟩
  · rw [if_neg k0] at h
    simp only [Bool.or_eq_false_iff, decide_eq_false_iff_not] at h
    obtain ⟨h2, h4, hs, n0, n1⟩ := h
    unfold sizeW at hs
    by_cases k1 : kd f i = nI 1
    · rw [if_pos k1] at hs
      simp only [Bool.or_eq_false_iff, decide_eq_false_iff_not] at hs
      obtain ⟨s, hs16, hse⟩ := nI_of2 (x := f (16 + 4 * i + 1)) (M := nI 16) (n := 16) rfl hs.1 (Int32.not_lt.mp hs.2)
      refine Or.inr (Or.inl ⟨k1, h4, s, hs16, hse, fun j hj => ?_⟩)
      have hj2 : j = 0 ∨ j = 1 := by omega
      rcases hj2 with rfl | rfl
      · rcases numW_f hse hs16 (by omega) n0 with h | h
        · exact Or.inl h.1
        · exact Or.inr h
      · rcases numW_f hse hs16 (by omega) n1 with h | h
        · exact Or.inl h.1
        · exact Or.inr h
    · rw [if_neg k1] at hs
      have k2 : kd f i = nI 2 := by
        obtain ⟨k, hk, e⟩ := kd_n f i
        rw [e] at k0 k1 h2 ⊢
        have a0 : k ≠ 0 := fun h => k0 (by rw [h])
        have a1 : k ≠ 1 := fun h => k1 (by rw [h])
        have a2 : ¬ 2 < k := fun h => h2 (nI_lt h (by omega))
        rw [show k = 2 by omega]
      have hs2 : ∃ s, (s = 8 ∨ s = 16) ∧ f (16 + 4 * i + 1) = nI s := by
        by_cases e8 : f (16 + 4 * i + 1) = nI 8
        · exact ⟨8, Or.inl rfl, e8⟩
        · by_cases e16 : f (16 + 4 * i + 1) = nI 16
          · exact ⟨16, Or.inr rfl, e16⟩
          · simp [e8, e16] at hs
      obtain ⟨s, hs8, hse⟩ := hs2
      refine Or.inr (Or.inr ⟨k2, h4, s, hs8, hse, fun j hj => ?_⟩)
      have hj2 : j = 0 ∨ j = 1 := by omega
      rcases hj2 with rfl | rfl
      · rcases numW_f hse (by omega) (by omega) n0 with h | h
        · exact Or.inl ⟨h.1, h.2 k2⟩
        · exact Or.inr h
      · rcases numW_f hse (by omega) (by omega) n1 with h | h
        · exact Or.inl ⟨h.1, h.2 k2⟩
        · exact Or.inr h
theorem inoOk_dir {f : Nat → Int32} {d : Nat} (h : inoOk f d) : dirOk f d := by
  intro _ hd
  have hd2 : kd f d = nI 2 := of_decide_eq_true hd
  rcases h with h | h | h
  · rw [h.1] at hd2
    exact absurd hd2 (by decide)
  · rw [h.1] at hd2
    exact absurd hd2 (by decide)
  · obtain ⟨-, -, s, hs, hse, hb⟩ := h
    have e : szN f d = s := by
      unfold szN
      rw [hse]
      exact nI_clamp (by omega)
    rw [e]
    refine ⟨by omega, hse, fun k hk => ?_⟩
    rcases hb (k / 8) (by omega) with hb | ⟨b, h1, h2, h3, h4⟩
    · omega
    · exact ⟨b, h2, h3⟩
theorem pass1_ok {f : Nat → Int32} (h : pass1 f = 0) : (∀ i, 1 ≤ i → i < 16 → inoOk f i ∧ repB f i 2 = false ∧ repB f i 3 = false) ∧ kd f 1 = nI 2 := by
  unfold pass1 at h
  have h1 : f1F f 15 1 0 = 0 := by omega
  refine ⟨fun i hi hi2 => ?_, ?_⟩
  · obtain ⟨a, b, c⟩ := f1F_0 15 1 h1 i hi (by omega)
    exact ⟨wrongB_ok a, b, c⟩
  · have h2 : b2n (!decide (kd f 1 = nI 2)) = 0 := by omega
    by_cases g : kd f 1 = nI 2
    · exact g
    · simp [g, b2n] at h2
theorem pass1_dir {f : Nat → Int32} (h : pass1 f = 0) : ∀ d, d < 16 → dirOk f d := by
  intro d hd h1 hdir
  exact inoOk_dir ((pass1_ok h).1 d h1 hd).1 h1 hdir
/-- the faults of the five passes -/
def fz (g : Nat → Int32) : Nat → Int32 := fun q => if 1 ≤ q ∧ q < 6 then nI 0 else g q
def faultsF (f g : Nat → Int32) : Nat → Int32 :=
  if pass1 f = 0 then (if pass2 f = 0 then upd (upd (upd (fz g) 3 (nI (pass3 f))) 4 (nI (pass4 f))) 5 (nI (pass5 f)) else upd (fz g) 2 (nI (pass2 f))) else upd (fz g) 1 (nI (pass1 f))
theorem fz_u {g : Nat → Int32} {k : Nat} (h1 : 1 ≤ k) (h2 : k < 6) : upd (fz g) k (nI 0) = fz g := by
  funext q
  by_cases e : q = k
  · subst e
    rw [pk_us]
    unfold fz
    rw [if_pos ⟨h1, h2⟩]
  · rw [pk_un e]
/-- filled from 1 on -/
def fz1 (g : Nat → Int32) (n : Nat) : Nat → Int32 := fun q => if 1 ≤ q ∧ q < n then nI 0 else g q
theorem fz1_s {g : Nat → Int32} {n : Nat} (hn : 1 ≤ n) : upd (fz1 g n) n (nI 0) = fz1 g (n + 1) := by
  funext q
  by_cases e : q = n
  · subst e
    rw [pk_us]
    unfold fz1
    rw [if_pos ⟨hn, by omega⟩]
  · rw [pk_un e]
    unfold fz1
    have e2 : (1 ≤ q ∧ q < n) ↔ (1 ≤ q ∧ q < n + 1) := by omega
    simp only [e2]
section RUN
variable {X : pScr} {nx : Nat} {ok : Bool} {Q : pRes → Prop} {e1 : rS1} {e2 : rS2} {e3 : rS3} {e4 : rS4} {R : pMem} {M : pMem}
theorem q_rins0 {g : Nat → Int32} {z2 z3 z4 z5 z6 z7 z8 : Value} : ∀ m n, n + m = 6 → 1 ≤ n → (pW X 163 2 [.ref 13, .int (nI n), z2, z3, z4, z5, z6, z7, z8] [] (rSW e1 e2 e3 (fz1 g n, e4.2) R) nx ok Q ↔ pW X 163 21 [.ref 13, .int (nI 6), z2, z3, z4, z5, z6, z7, z8] [] (rSW e1 e2 e3 (fz g, e4.2) R) nx ok Q) := by
  intro m
  induction m with
  | zero =>
    intro n hn h1
    have e : n = 6 := by omega
    subst e
    rw [w163_2]
    simp (disch := omega) only [w163_3, w163_5, lit_0, lit_1, lit_2, lit_3, lit_4, lit_5, lit_6, lit_7, lit_8, lit_9, lit_10, lit_11, lit_12, lit_13, lit_14, lit_15, lit_16, lit_17, lit_18, lit_19, lit_20, lit_21, lit_22, lit_23, lit_24, lit_25, lit_26, lit_27, lit_28, lit_29, lit_30, lit_31, lit_32, lit_33, lit_34, lit_35, lit_36, lit_37, lit_38, lit_39, lit_40, lit_41, lit_42, lit_43, lit_44, lit_45, lit_46, lit_47, lit_48, lit_49, lit_50, lit_51, lit_52, lit_53, lit_54, lit_55, lit_56, lit_57, lit_58, lit_59, lit_60, lit_61, lit_62, lit_63, lit_64, lit_80, lit_100, lit_524287, lit_262143, lit_384, lit_1001, lit_1002, lit_61267, nI_add, pk_mul, pk_div, nI_rm, pk_sub, Nrm, Nrm8, Nrm4, nI_inT, nI_clamp, nI_ltT, nI_ltF, nI_eqT, nI_eqF, nI_ltI, nI_eq, nI_ushr, m4, m8, if_true, if_false, true_and, and_true, true_or, or_true, not_false_eq_true, not_true_eq_false, Nat.reduceAdd, Nat.reduceDiv, Nat.reduceMod, Nat.reduceMul, Nat.add_zero, Nat.lt_irrefl, pAdd_0, pK_n, pK_v]
    exact Iff.rfl
  | succ m ih =>
    intro n hn h1
    rw [← ih (n + 1) (by omega) (by omega), w163_2]
    simp (disch := omega) only [w163_3, w163_5, w163_8, w163_9, w163_12, w163_13, w163_14, w163_15, w163_18, rS_i13, rS_g13_0, rS_g13_1, rS_g13_2, rS_g13_3, rS_g13_4, rS_g13_5, rS_g13_6, rS_g13_7, rS_g13_8, rS_g13_9, rS_g13_10, rS_g13_11, rS_p13_11, rS_g13_12, rS_p13_12, rS_g13_13, rS_p13_13, rS_g13_14, rS_p13_14, rS_g13_15, rS_p13_15, rS_g13_16, rS_p13_16, rS_g13_17, rS_p13_17, rS_g13_18, rS_p13_18, rS_g13_19, rS_p13_19, rS_g13_20, rS_p13_20, rS_g13_21, rS_p13_21, rS_g13_22, rS_p13_22, rS_g13_23, rS_p13_23, rS_g13_24, rS_p13_24, rS_g13_25, rS_g13_26, rS_p13_26, rS_a14, rS_u14, rS_l14, rS_a15, rS_u15, rS_l15, rS_a16, rS_u16, rS_l16, rS_a17, rS_u17, rS_l17, rS_a18, rS_u18, rS_l18, rS_a19, rS_u19, rS_l19, rS_a20, rS_u20, rS_a21, rS_u21, rS_a22, rS_u22, rS_a23, rS_u23, rS_l23, rS_a24, rS_u24, rS_a25, rS_u25, rS_l25, lit_0, lit_1, lit_2, lit_3, lit_4, lit_5, lit_6, lit_7, lit_8, lit_9, lit_10, lit_11, lit_12, lit_13, lit_14, lit_15, lit_16, lit_17, lit_18, lit_19, lit_20, lit_21, lit_22, lit_23, lit_24, lit_25, lit_26, lit_27, lit_28, lit_29, lit_30, lit_31, lit_32, lit_33, lit_34, lit_35, lit_36, lit_37, lit_38, lit_39, lit_40, lit_41, lit_42, lit_43, lit_44, lit_45, lit_46, lit_47, lit_48, lit_49, lit_50, lit_51, lit_52, lit_53, lit_54, lit_55, lit_56, lit_57, lit_58, lit_59, lit_60, lit_61, lit_62, lit_63, lit_64, lit_80, lit_100, lit_524287, lit_262143, lit_384, lit_1001, lit_1002, lit_61267, nI_add, pk_mul, pk_div, nI_rm, pk_sub, Nrm, Nrm8, Nrm4, nI_inT, nI_clamp, nI_ltT, nI_ltF, nI_eqT, nI_eqF, nI_ltI, nI_eq, nI_ushr, m4, m8, if_true, if_false, true_and, and_true, true_or, or_true, not_false_eq_true, not_true_eq_false, Nat.reduceAdd, Nat.reduceDiv, Nat.reduceMod, Nat.reduceMul, Nat.add_zero, Nat.lt_irrefl, pAdd_0, pK_n, pK_v, fz1_s h1]
theorem pass1_le (f : Nat → Int32) : pass1 f ≤ 46 := by
  have h : ∀ m i c, f1F f m i c ≤ c + 3 * m := by
    intro m
    induction m with
    | zero => intro i c; exact Nat.le_refl c
    | succ m ih =>
      intro i c
      have h := ih (i + 1) (c + b2n (wrongB f i) + b2n (repB f i 2) + b2n (repB f i 3))
      have a := b2n_le (wrongB f i)
      have b := b2n_le (repB f i 2)
      have d := b2n_le (repB f i 3)
      show f1F f m (i + 1) (c + b2n (wrongB f i) + b2n (repB f i 2) + b2n (repB f i 3)) ≤ c + 3 * (m + 1)
      omega
  have h1 := h 15 1 0
  have h2 := b2n_le (!decide (kd f 1 = nI 2))
  unfold pass1
  omega
theorem pass2_le {f : Nat → Int32} (hok : ∀ d, d < 16 → dirOk f d) : pass2 f ≤ 240 := by
  have h : ∀ m d c, d + m = 16 → 1 ≤ d → f2F f m d c ≤ c + 16 * m := by
    intro m
    induction m with
    | zero => intro d c _ _; exact Nat.le_refl c
    | succ m ih =>
      intro d c hd h1
      rw [f2F_s]
      by_cases hdir : isD f d = true
      · rw [if_pos hdir]
        have a := cntF_le (P := badE f d) (szN f d) 0 c
        have b := (hok d (by omega) h1 hdir).1
        have e := ih (d + 1) (cntF (badE f d) (szN f d) 0 c) (by omega) (by omega)
        omega
      · rw [if_neg hdir]
        have e := ih (d + 1) c (by omega) (by omega)
        omega
  have := h 15 1 0 (by omega) (by omega)
  unfold pass2
  omega
theorem q_rins : ∃ fd', (pW X 163 0 [.ref 13, pDum, pDum, pDum, pDum, pDum, pDum, pDum, pDum] [] (rSW e1 e2 e3 e4 R) nx ok Q ↔ Q (.inl none, rSW e1 e2 e3 (faultsF e1.1 e4.1, fd', e4.2.2) R, nx, ok, 0, 0)) := by
  have h0 := q_rins0 (X := X) (nx := nx) (ok := ok) (Q := Q) (e1 := e1) (e2 := e2) (e3 := e3) (e4 := e4) (R := R) (g := e4.1) (z2 := pDum) (z3 := pDum) (z4 := pDum) (z5 := pDum) (z6 := pDum) (z7 := pDum) (z8 := pDum) 5 1 (by omega) (by omega)
  have ef : fz1 e4.1 1 = e4.1 := by
    funext q
    unfold fz1
    rw [if_neg (by omega)]
  rw [ef] at h0
  have hf := fun Q => q_rfirst (X := X) (nx := nx) (ok := ok) (Q := Q) (e1 := e1) (e2 := e2) (e3 := e3) (e4 := e4) (R := R) (g := fz e4.1)
  rw [fz_u (by omega) (by omega)] at hf
  have hp1 := pass1_le e1.1
  unfold faultsF
  by_cases p1 : pass1 e1.1 = 0
  · have hok := pass1_dir p1
    have hp2 := pass2_le hok
    have e1z : upd (fz e4.1) 1 (nI (pass1 e1.1)) = fz e4.1 := by rw [p1]; exact fz_u (by omega) (by omega)
    have hs := fun Q => q_rsec (X := X) (nx := nx) (ok := ok) (Q := Q) (e1 := e1) (e2 := e2) (e3 := e3) (e4 := e4) (R := R) (g := fz e4.1) hok
    rw [fz_u (by omega) (by omega)] at hs
    have g1 : fz e4.1 1 = nI 0 := rfl
    by_cases p2 : pass2 e1.1 = 0
    · have e2z : upd (fz e4.1) 2 (nI (pass2 e1.1)) = fz e4.1 := by rw [p2]; exact fz_u (by omega) (by omega)
      have g2 : fz e4.1 2 = nI 0 := rfl
      obtain ⟨fd', y5, y6, y7, y8, hl⟩ := q_rins_l (X := X) (nx := nx) (ok := ok) (Q := Q) (e1 := e1) (e2 := e2) (e3 := e3) (e4 := e4) (R := R) (G := fz e4.1) hok 15 1 0 0 (nI 262143) (nI 0) (nI 1) e4.2.1 pDum pDum pDum pDum (by omega) (by omega) (by omega) (by omega)
      rw [fz_u (by omega) (by omega), fz_u (by omega) (by omega)] at hl
      refine ⟨fd', ?_⟩
      have h5 := fun u v w => q_rins5 (X := X) (nx := nx) (ok := ok) (Q := Q) (e1 := e1) (e2 := e2) (e3 := e3) (e4 := (e4.1, fd', e4.2.2)) (R := R) (G := upd (upd (fz e4.1) 3 (nI (pass3 e1.1))) 4 (nI (pass4 e1.1))) (B := (bksF e1.1 15 1 (nI 262143, nI 0)).1) (M := (bksF e1.1 15 1 (nI 262143, nI 0)).2) (I := inoF e1.1 15 1 (nI 1)) (u := u) (v := v) (w := w) (z8 := y8) 32 0 0 (by omega) (by omega)
      have e5 : upd (upd (upd (fz e4.1) 3 (nI (pass3 e1.1))) 4 (nI (pass4 e1.1))) 5 (nI 0) = upd (upd (fz e4.1) 3 (nI (pass3 e1.1))) 4 (nI (pass4 e1.1)) := by
        funext q
        by_cases e : q = 5
        · subst e
          rfl
        · rw [pk_un e]
      rw [e5] at h5
      rw [if_pos p1, if_pos p2]
      simp (disch := omega) only [w163_0, w163_1, lit_0, lit_1, lit_2, lit_3, lit_4, lit_5, lit_6, lit_7, lit_8, lit_9, lit_10, lit_11, lit_12, lit_13, lit_14, lit_15, lit_16, lit_17, lit_18, lit_19, lit_20, lit_21, lit_22, lit_23, lit_24, lit_25, lit_26, lit_27, lit_28, lit_29, lit_30, lit_31, lit_32, lit_33, lit_34, lit_35, lit_36, lit_37, lit_38, lit_39, lit_40, lit_41, lit_42, lit_43, lit_44, lit_45, lit_46, lit_47, lit_48, lit_49, lit_50, lit_51, lit_52, lit_53, lit_54, lit_55, lit_56, lit_57, lit_58, lit_59, lit_60, lit_61, lit_62, lit_63, lit_64, lit_80, lit_100, lit_524287, lit_262143, lit_384, lit_1001, lit_1002, lit_61267, nI_add, pk_mul, pk_div, nI_rm, pk_sub, Nrm, Nrm8, Nrm4, nI_inT, nI_clamp, nI_ltT, nI_ltF, nI_eqT, nI_eqF, nI_ltI, nI_eq, nI_ushr, m4, m8, if_true, if_false, true_and, and_true, true_or, or_true, not_false_eq_true, not_true_eq_false, Nat.reduceAdd, Nat.reduceDiv, Nat.reduceMod, Nat.reduceMul, Nat.add_zero, Nat.lt_irrefl, pAdd_0, pK_n, pK_v]
      refine h0.trans ?_
      simp (disch := omega) only [w163_21, w163_22, rS_i13, rS_g13_0, rS_g13_1, rS_g13_2, rS_g13_3, rS_g13_4, rS_g13_5, rS_g13_6, rS_g13_7, rS_g13_8, rS_g13_9, rS_g13_10, rS_g13_11, rS_p13_11, rS_g13_12, rS_p13_12, rS_g13_13, rS_p13_13, rS_g13_14, rS_p13_14, rS_g13_15, rS_p13_15, rS_g13_16, rS_p13_16, rS_g13_17, rS_p13_17, rS_g13_18, rS_p13_18, rS_g13_19, rS_p13_19, rS_g13_20, rS_p13_20, rS_g13_21, rS_p13_21, rS_g13_22, rS_p13_22, rS_g13_23, rS_p13_23, rS_g13_24, rS_p13_24, rS_g13_25, rS_g13_26, rS_p13_26, rS_a14, rS_u14, rS_l14, rS_a15, rS_u15, rS_l15, rS_a16, rS_u16, rS_l16, rS_a17, rS_u17, rS_l17, rS_a18, rS_u18, rS_l18, rS_a19, rS_u19, rS_l19, rS_a20, rS_u20, rS_a21, rS_u21, rS_a22, rS_u22, rS_a23, rS_u23, rS_l23, rS_a24, rS_u24, rS_a25, rS_u25, rS_l25, lit_0, lit_1, lit_2, lit_3, lit_4, lit_5, lit_6, lit_7, lit_8, lit_9, lit_10, lit_11, lit_12, lit_13, lit_14, lit_15, lit_16, lit_17, lit_18, lit_19, lit_20, lit_21, lit_22, lit_23, lit_24, lit_25, lit_26, lit_27, lit_28, lit_29, lit_30, lit_31, lit_32, lit_33, lit_34, lit_35, lit_36, lit_37, lit_38, lit_39, lit_40, lit_41, lit_42, lit_43, lit_44, lit_45, lit_46, lit_47, lit_48, lit_49, lit_50, lit_51, lit_52, lit_53, lit_54, lit_55, lit_56, lit_57, lit_58, lit_59, lit_60, lit_61, lit_62, lit_63, lit_64, lit_80, lit_100, lit_524287, lit_262143, lit_384, lit_1001, lit_1002, lit_61267, nI_add, pk_mul, pk_div, nI_rm, pk_sub, Nrm, Nrm8, Nrm4, nI_inT, nI_clamp, nI_ltT, nI_ltF, nI_eqT, nI_eqF, nI_ltI, nI_eq, nI_ushr, m4, m8, if_true, if_false, true_and, and_true, true_or, or_true, not_false_eq_true, not_true_eq_false, Nat.reduceAdd, Nat.reduceDiv, Nat.reduceMod, Nat.reduceMul, Nat.add_zero, Nat.lt_irrefl, pAdd_0, pK_n, pK_v]
      refine (hf _).trans ?_
      rw [e1z]
      simp (disch := omega) only [w163_25, w163_26, w163_29, w163_30, w163_31, w163_35, w163_36, rS_i13, rS_g13_0, rS_g13_1, rS_g13_2, rS_g13_3, rS_g13_4, rS_g13_5, rS_g13_6, rS_g13_7, rS_g13_8, rS_g13_9, rS_g13_10, rS_g13_11, rS_p13_11, rS_g13_12, rS_p13_12, rS_g13_13, rS_p13_13, rS_g13_14, rS_p13_14, rS_g13_15, rS_p13_15, rS_g13_16, rS_p13_16, rS_g13_17, rS_p13_17, rS_g13_18, rS_p13_18, rS_g13_19, rS_p13_19, rS_g13_20, rS_p13_20, rS_g13_21, rS_p13_21, rS_g13_22, rS_p13_22, rS_g13_23, rS_p13_23, rS_g13_24, rS_p13_24, rS_g13_25, rS_g13_26, rS_p13_26, rS_a14, rS_u14, rS_l14, rS_a15, rS_u15, rS_l15, rS_a16, rS_u16, rS_l16, rS_a17, rS_u17, rS_l17, rS_a18, rS_u18, rS_l18, rS_a19, rS_u19, rS_l19, rS_a20, rS_u20, rS_a21, rS_u21, rS_a22, rS_u22, rS_a23, rS_u23, rS_l23, rS_a24, rS_u24, rS_a25, rS_u25, rS_l25, lit_0, lit_1, lit_2, lit_3, lit_4, lit_5, lit_6, lit_7, lit_8, lit_9, lit_10, lit_11, lit_12, lit_13, lit_14, lit_15, lit_16, lit_17, lit_18, lit_19, lit_20, lit_21, lit_22, lit_23, lit_24, lit_25, lit_26, lit_27, lit_28, lit_29, lit_30, lit_31, lit_32, lit_33, lit_34, lit_35, lit_36, lit_37, lit_38, lit_39, lit_40, lit_41, lit_42, lit_43, lit_44, lit_45, lit_46, lit_47, lit_48, lit_49, lit_50, lit_51, lit_52, lit_53, lit_54, lit_55, lit_56, lit_57, lit_58, lit_59, lit_60, lit_61, lit_62, lit_63, lit_64, lit_80, lit_100, lit_524287, lit_262143, lit_384, lit_1001, lit_1002, lit_61267, nI_add, pk_mul, pk_div, nI_rm, pk_sub, Nrm, Nrm8, Nrm4, nI_inT, nI_clamp, nI_ltT, nI_ltF, nI_eqT, nI_eqF, nI_ltI, nI_eq, nI_ushr, m4, m8, if_true, if_false, true_and, and_true, true_or, or_true, not_false_eq_true, not_true_eq_false, Nat.reduceAdd, Nat.reduceDiv, Nat.reduceMod, Nat.reduceMul, Nat.add_zero, Nat.lt_irrefl, pAdd_0, pK_n, pK_v, g1]
      refine (hs _).trans ?_
      rw [e2z]
      simp (disch := omega) only [w163_39, w163_40, w163_43, w163_44, w163_45, w163_49, w163_51, w163_52, w163_53, w163_54, w163_55, w163_56, w163_57, rS_i13, rS_g13_0, rS_g13_1, rS_g13_2, rS_g13_3, rS_g13_4, rS_g13_5, rS_g13_6, rS_g13_7, rS_g13_8, rS_g13_9, rS_g13_10, rS_g13_11, rS_p13_11, rS_g13_12, rS_p13_12, rS_g13_13, rS_p13_13, rS_g13_14, rS_p13_14, rS_g13_15, rS_p13_15, rS_g13_16, rS_p13_16, rS_g13_17, rS_p13_17, rS_g13_18, rS_p13_18, rS_g13_19, rS_p13_19, rS_g13_20, rS_p13_20, rS_g13_21, rS_p13_21, rS_g13_22, rS_p13_22, rS_g13_23, rS_p13_23, rS_g13_24, rS_p13_24, rS_g13_25, rS_g13_26, rS_p13_26, rS_a14, rS_u14, rS_l14, rS_a15, rS_u15, rS_l15, rS_a16, rS_u16, rS_l16, rS_a17, rS_u17, rS_l17, rS_a18, rS_u18, rS_l18, rS_a19, rS_u19, rS_l19, rS_a20, rS_u20, rS_a21, rS_u21, rS_a22, rS_u22, rS_a23, rS_u23, rS_l23, rS_a24, rS_u24, rS_a25, rS_u25, rS_l25, lit_0, lit_1, lit_2, lit_3, lit_4, lit_5, lit_6, lit_7, lit_8, lit_9, lit_10, lit_11, lit_12, lit_13, lit_14, lit_15, lit_16, lit_17, lit_18, lit_19, lit_20, lit_21, lit_22, lit_23, lit_24, lit_25, lit_26, lit_27, lit_28, lit_29, lit_30, lit_31, lit_32, lit_33, lit_34, lit_35, lit_36, lit_37, lit_38, lit_39, lit_40, lit_41, lit_42, lit_43, lit_44, lit_45, lit_46, lit_47, lit_48, lit_49, lit_50, lit_51, lit_52, lit_53, lit_54, lit_55, lit_56, lit_57, lit_58, lit_59, lit_60, lit_61, lit_62, lit_63, lit_64, lit_80, lit_100, lit_524287, lit_262143, lit_384, lit_1001, lit_1002, lit_61267, nI_add, pk_mul, pk_div, nI_rm, pk_sub, Nrm, Nrm8, Nrm4, nI_inT, nI_clamp, nI_ltT, nI_ltF, nI_eqT, nI_eqF, nI_ltI, nI_eq, nI_ushr, m4, m8, if_true, if_false, true_and, and_true, true_or, or_true, not_false_eq_true, not_true_eq_false, Nat.reduceAdd, Nat.reduceDiv, Nat.reduceMod, Nat.reduceMul, Nat.add_zero, Nat.lt_irrefl, pAdd_0, pK_n, pK_v, g2]
      refine hl.trans ?_
      simp (disch := omega) only [w163_253, w163_254, w163_257, w163_259, w163_260, w163_261, w163_262, w163_264, w163_265, w163_268, w163_270, w163_271, w163_272, w163_273, w163_275, w163_276, w163_279, w163_281, w163_282, w163_283, w163_284, w163_286, w163_287, rS_i13, rS_g13_0, rS_g13_1, rS_g13_2, rS_g13_3, rS_g13_4, rS_g13_5, rS_g13_6, rS_g13_7, rS_g13_8, rS_g13_9, rS_g13_10, rS_g13_11, rS_p13_11, rS_g13_12, rS_p13_12, rS_g13_13, rS_p13_13, rS_g13_14, rS_p13_14, rS_g13_15, rS_p13_15, rS_g13_16, rS_p13_16, rS_g13_17, rS_p13_17, rS_g13_18, rS_p13_18, rS_g13_19, rS_p13_19, rS_g13_20, rS_p13_20, rS_g13_21, rS_p13_21, rS_g13_22, rS_p13_22, rS_g13_23, rS_p13_23, rS_g13_24, rS_p13_24, rS_g13_25, rS_g13_26, rS_p13_26, rS_a14, rS_u14, rS_l14, rS_a15, rS_u15, rS_l15, rS_a16, rS_u16, rS_l16, rS_a17, rS_u17, rS_l17, rS_a18, rS_u18, rS_l18, rS_a19, rS_u19, rS_l19, rS_a20, rS_u20, rS_a21, rS_u21, rS_a22, rS_u22, rS_a23, rS_u23, rS_l23, rS_a24, rS_u24, rS_a25, rS_u25, rS_l25, lit_0, lit_1, lit_2, lit_3, lit_4, lit_5, lit_6, lit_7, lit_8, lit_9, lit_10, lit_11, lit_12, lit_13, lit_14, lit_15, lit_16, lit_17, lit_18, lit_19, lit_20, lit_21, lit_22, lit_23, lit_24, lit_25, lit_26, lit_27, lit_28, lit_29, lit_30, lit_31, lit_32, lit_33, lit_34, lit_35, lit_36, lit_37, lit_38, lit_39, lit_40, lit_41, lit_42, lit_43, lit_44, lit_45, lit_46, lit_47, lit_48, lit_49, lit_50, lit_51, lit_52, lit_53, lit_54, lit_55, lit_56, lit_57, lit_58, lit_59, lit_60, lit_61, lit_62, lit_63, lit_64, lit_80, lit_100, lit_524287, lit_262143, lit_384, lit_1001, lit_1002, lit_61267, nI_add, pk_mul, pk_div, nI_rm, pk_sub, Nrm, Nrm8, Nrm4, nI_inT, nI_clamp, nI_ltT, nI_ltF, nI_eqT, nI_eqF, nI_ltI, nI_eq, nI_ushr, m4, m8, if_true, if_false, true_and, and_true, true_or, or_true, not_false_eq_true, not_true_eq_false, Nat.reduceAdd, Nat.reduceDiv, Nat.reduceMod, Nat.reduceMul, Nat.add_zero, Nat.lt_irrefl, pAdd_0, pK_n, pK_v]
      exact h5 _ _ _
    · refine ⟨e4.2.1, ?_⟩
      rw [if_pos p1, if_neg p2]
      simp (disch := omega) only [w163_0, w163_1, lit_0, lit_1, lit_2, lit_3, lit_4, lit_5, lit_6, lit_7, lit_8, lit_9, lit_10, lit_11, lit_12, lit_13, lit_14, lit_15, lit_16, lit_17, lit_18, lit_19, lit_20, lit_21, lit_22, lit_23, lit_24, lit_25, lit_26, lit_27, lit_28, lit_29, lit_30, lit_31, lit_32, lit_33, lit_34, lit_35, lit_36, lit_37, lit_38, lit_39, lit_40, lit_41, lit_42, lit_43, lit_44, lit_45, lit_46, lit_47, lit_48, lit_49, lit_50, lit_51, lit_52, lit_53, lit_54, lit_55, lit_56, lit_57, lit_58, lit_59, lit_60, lit_61, lit_62, lit_63, lit_64, lit_80, lit_100, lit_524287, lit_262143, lit_384, lit_1001, lit_1002, lit_61267, nI_add, pk_mul, pk_div, nI_rm, pk_sub, Nrm, Nrm8, Nrm4, nI_inT, nI_clamp, nI_ltT, nI_ltF, nI_eqT, nI_eqF, nI_ltI, nI_eq, nI_ushr, m4, m8, if_true, if_false, true_and, and_true, true_or, or_true, not_false_eq_true, not_true_eq_false, Nat.reduceAdd, Nat.reduceDiv, Nat.reduceMod, Nat.reduceMul, Nat.add_zero, Nat.lt_irrefl, pAdd_0, pK_n, pK_v]
      refine h0.trans ?_
      simp (disch := omega) only [w163_21, w163_22, rS_i13, rS_g13_0, rS_g13_1, rS_g13_2, rS_g13_3, rS_g13_4, rS_g13_5, rS_g13_6, rS_g13_7, rS_g13_8, rS_g13_9, rS_g13_10, rS_g13_11, rS_p13_11, rS_g13_12, rS_p13_12, rS_g13_13, rS_p13_13, rS_g13_14, rS_p13_14, rS_g13_15, rS_p13_15, rS_g13_16, rS_p13_16, rS_g13_17, rS_p13_17, rS_g13_18, rS_p13_18, rS_g13_19, rS_p13_19, rS_g13_20, rS_p13_20, rS_g13_21, rS_p13_21, rS_g13_22, rS_p13_22, rS_g13_23, rS_p13_23, rS_g13_24, rS_p13_24, rS_g13_25, rS_g13_26, rS_p13_26, rS_a14, rS_u14, rS_l14, rS_a15, rS_u15, rS_l15, rS_a16, rS_u16, rS_l16, rS_a17, rS_u17, rS_l17, rS_a18, rS_u18, rS_l18, rS_a19, rS_u19, rS_l19, rS_a20, rS_u20, rS_a21, rS_u21, rS_a22, rS_u22, rS_a23, rS_u23, rS_l23, rS_a24, rS_u24, rS_a25, rS_u25, rS_l25, lit_0, lit_1, lit_2, lit_3, lit_4, lit_5, lit_6, lit_7, lit_8, lit_9, lit_10, lit_11, lit_12, lit_13, lit_14, lit_15, lit_16, lit_17, lit_18, lit_19, lit_20, lit_21, lit_22, lit_23, lit_24, lit_25, lit_26, lit_27, lit_28, lit_29, lit_30, lit_31, lit_32, lit_33, lit_34, lit_35, lit_36, lit_37, lit_38, lit_39, lit_40, lit_41, lit_42, lit_43, lit_44, lit_45, lit_46, lit_47, lit_48, lit_49, lit_50, lit_51, lit_52, lit_53, lit_54, lit_55, lit_56, lit_57, lit_58, lit_59, lit_60, lit_61, lit_62, lit_63, lit_64, lit_80, lit_100, lit_524287, lit_262143, lit_384, lit_1001, lit_1002, lit_61267, nI_add, pk_mul, pk_div, nI_rm, pk_sub, Nrm, Nrm8, Nrm4, nI_inT, nI_clamp, nI_ltT, nI_ltF, nI_eqT, nI_eqF, nI_ltI, nI_eq, nI_ushr, m4, m8, if_true, if_false, true_and, and_true, true_or, or_true, not_false_eq_true, not_true_eq_false, Nat.reduceAdd, Nat.reduceDiv, Nat.reduceMod, Nat.reduceMul, Nat.add_zero, Nat.lt_irrefl, pAdd_0, pK_n, pK_v]
      refine (hf _).trans ?_
      rw [e1z]
      simp (disch := omega) only [w163_25, w163_26, w163_29, w163_30, w163_31, w163_35, w163_36, rS_i13, rS_g13_0, rS_g13_1, rS_g13_2, rS_g13_3, rS_g13_4, rS_g13_5, rS_g13_6, rS_g13_7, rS_g13_8, rS_g13_9, rS_g13_10, rS_g13_11, rS_p13_11, rS_g13_12, rS_p13_12, rS_g13_13, rS_p13_13, rS_g13_14, rS_p13_14, rS_g13_15, rS_p13_15, rS_g13_16, rS_p13_16, rS_g13_17, rS_p13_17, rS_g13_18, rS_p13_18, rS_g13_19, rS_p13_19, rS_g13_20, rS_p13_20, rS_g13_21, rS_p13_21, rS_g13_22, rS_p13_22, rS_g13_23, rS_p13_23, rS_g13_24, rS_p13_24, rS_g13_25, rS_g13_26, rS_p13_26, rS_a14, rS_u14, rS_l14, rS_a15, rS_u15, rS_l15, rS_a16, rS_u16, rS_l16, rS_a17, rS_u17, rS_l17, rS_a18, rS_u18, rS_l18, rS_a19, rS_u19, rS_l19, rS_a20, rS_u20, rS_a21, rS_u21, rS_a22, rS_u22, rS_a23, rS_u23, rS_l23, rS_a24, rS_u24, rS_a25, rS_u25, rS_l25, lit_0, lit_1, lit_2, lit_3, lit_4, lit_5, lit_6, lit_7, lit_8, lit_9, lit_10, lit_11, lit_12, lit_13, lit_14, lit_15, lit_16, lit_17, lit_18, lit_19, lit_20, lit_21, lit_22, lit_23, lit_24, lit_25, lit_26, lit_27, lit_28, lit_29, lit_30, lit_31, lit_32, lit_33, lit_34, lit_35, lit_36, lit_37, lit_38, lit_39, lit_40, lit_41, lit_42, lit_43, lit_44, lit_45, lit_46, lit_47, lit_48, lit_49, lit_50, lit_51, lit_52, lit_53, lit_54, lit_55, lit_56, lit_57, lit_58, lit_59, lit_60, lit_61, lit_62, lit_63, lit_64, lit_80, lit_100, lit_524287, lit_262143, lit_384, lit_1001, lit_1002, lit_61267, nI_add, pk_mul, pk_div, nI_rm, pk_sub, Nrm, Nrm8, Nrm4, nI_inT, nI_clamp, nI_ltT, nI_ltF, nI_eqT, nI_eqF, nI_ltI, nI_eq, nI_ushr, m4, m8, if_true, if_false, true_and, and_true, true_or, or_true, not_false_eq_true, not_true_eq_false, Nat.reduceAdd, Nat.reduceDiv, Nat.reduceMod, Nat.reduceMul, Nat.add_zero, Nat.lt_irrefl, pAdd_0, pK_n, pK_v, g1]
      refine (hs _).trans ?_
      simp (disch := omega) only [w163_39, w163_40, w163_43, w163_44, w163_45, w163_48, rS_i13, rS_g13_0, rS_g13_1, rS_g13_2, rS_g13_3, rS_g13_4, rS_g13_5, rS_g13_6, rS_g13_7, rS_g13_8, rS_g13_9, rS_g13_10, rS_g13_11, rS_p13_11, rS_g13_12, rS_p13_12, rS_g13_13, rS_p13_13, rS_g13_14, rS_p13_14, rS_g13_15, rS_p13_15, rS_g13_16, rS_p13_16, rS_g13_17, rS_p13_17, rS_g13_18, rS_p13_18, rS_g13_19, rS_p13_19, rS_g13_20, rS_p13_20, rS_g13_21, rS_p13_21, rS_g13_22, rS_p13_22, rS_g13_23, rS_p13_23, rS_g13_24, rS_p13_24, rS_g13_25, rS_g13_26, rS_p13_26, rS_a14, rS_u14, rS_l14, rS_a15, rS_u15, rS_l15, rS_a16, rS_u16, rS_l16, rS_a17, rS_u17, rS_l17, rS_a18, rS_u18, rS_l18, rS_a19, rS_u19, rS_l19, rS_a20, rS_u20, rS_a21, rS_u21, rS_a22, rS_u22, rS_a23, rS_u23, rS_l23, rS_a24, rS_u24, rS_a25, rS_u25, rS_l25, lit_0, lit_1, lit_2, lit_3, lit_4, lit_5, lit_6, lit_7, lit_8, lit_9, lit_10, lit_11, lit_12, lit_13, lit_14, lit_15, lit_16, lit_17, lit_18, lit_19, lit_20, lit_21, lit_22, lit_23, lit_24, lit_25, lit_26, lit_27, lit_28, lit_29, lit_30, lit_31, lit_32, lit_33, lit_34, lit_35, lit_36, lit_37, lit_38, lit_39, lit_40, lit_41, lit_42, lit_43, lit_44, lit_45, lit_46, lit_47, lit_48, lit_49, lit_50, lit_51, lit_52, lit_53, lit_54, lit_55, lit_56, lit_57, lit_58, lit_59, lit_60, lit_61, lit_62, lit_63, lit_64, lit_80, lit_100, lit_524287, lit_262143, lit_384, lit_1001, lit_1002, lit_61267, nI_add, pk_mul, pk_div, nI_rm, pk_sub, Nrm, Nrm8, Nrm4, nI_inT, nI_clamp, nI_ltT, nI_ltF, nI_eqT, nI_eqF, nI_ltI, nI_eq, nI_ushr, m4, m8, if_true, if_false, true_and, and_true, true_or, or_true, not_false_eq_true, not_true_eq_false, Nat.reduceAdd, Nat.reduceDiv, Nat.reduceMod, Nat.reduceMul, Nat.add_zero, Nat.lt_irrefl, pAdd_0, pK_n, pK_v, pk_us]
  · refine ⟨e4.2.1, ?_⟩
    rw [if_neg p1]
    simp (disch := omega) only [w163_0, w163_1, lit_0, lit_1, lit_2, lit_3, lit_4, lit_5, lit_6, lit_7, lit_8, lit_9, lit_10, lit_11, lit_12, lit_13, lit_14, lit_15, lit_16, lit_17, lit_18, lit_19, lit_20, lit_21, lit_22, lit_23, lit_24, lit_25, lit_26, lit_27, lit_28, lit_29, lit_30, lit_31, lit_32, lit_33, lit_34, lit_35, lit_36, lit_37, lit_38, lit_39, lit_40, lit_41, lit_42, lit_43, lit_44, lit_45, lit_46, lit_47, lit_48, lit_49, lit_50, lit_51, lit_52, lit_53, lit_54, lit_55, lit_56, lit_57, lit_58, lit_59, lit_60, lit_61, lit_62, lit_63, lit_64, lit_80, lit_100, lit_524287, lit_262143, lit_384, lit_1001, lit_1002, lit_61267, nI_add, pk_mul, pk_div, nI_rm, pk_sub, Nrm, Nrm8, Nrm4, nI_inT, nI_clamp, nI_ltT, nI_ltF, nI_eqT, nI_eqF, nI_ltI, nI_eq, nI_ushr, m4, m8, if_true, if_false, true_and, and_true, true_or, or_true, not_false_eq_true, not_true_eq_false, Nat.reduceAdd, Nat.reduceDiv, Nat.reduceMod, Nat.reduceMul, Nat.add_zero, Nat.lt_irrefl, pAdd_0, pK_n, pK_v]
    refine h0.trans ?_
    simp (disch := omega) only [w163_21, w163_22, rS_i13, rS_g13_0, rS_g13_1, rS_g13_2, rS_g13_3, rS_g13_4, rS_g13_5, rS_g13_6, rS_g13_7, rS_g13_8, rS_g13_9, rS_g13_10, rS_g13_11, rS_p13_11, rS_g13_12, rS_p13_12, rS_g13_13, rS_p13_13, rS_g13_14, rS_p13_14, rS_g13_15, rS_p13_15, rS_g13_16, rS_p13_16, rS_g13_17, rS_p13_17, rS_g13_18, rS_p13_18, rS_g13_19, rS_p13_19, rS_g13_20, rS_p13_20, rS_g13_21, rS_p13_21, rS_g13_22, rS_p13_22, rS_g13_23, rS_p13_23, rS_g13_24, rS_p13_24, rS_g13_25, rS_g13_26, rS_p13_26, rS_a14, rS_u14, rS_l14, rS_a15, rS_u15, rS_l15, rS_a16, rS_u16, rS_l16, rS_a17, rS_u17, rS_l17, rS_a18, rS_u18, rS_l18, rS_a19, rS_u19, rS_l19, rS_a20, rS_u20, rS_a21, rS_u21, rS_a22, rS_u22, rS_a23, rS_u23, rS_l23, rS_a24, rS_u24, rS_a25, rS_u25, rS_l25, lit_0, lit_1, lit_2, lit_3, lit_4, lit_5, lit_6, lit_7, lit_8, lit_9, lit_10, lit_11, lit_12, lit_13, lit_14, lit_15, lit_16, lit_17, lit_18, lit_19, lit_20, lit_21, lit_22, lit_23, lit_24, lit_25, lit_26, lit_27, lit_28, lit_29, lit_30, lit_31, lit_32, lit_33, lit_34, lit_35, lit_36, lit_37, lit_38, lit_39, lit_40, lit_41, lit_42, lit_43, lit_44, lit_45, lit_46, lit_47, lit_48, lit_49, lit_50, lit_51, lit_52, lit_53, lit_54, lit_55, lit_56, lit_57, lit_58, lit_59, lit_60, lit_61, lit_62, lit_63, lit_64, lit_80, lit_100, lit_524287, lit_262143, lit_384, lit_1001, lit_1002, lit_61267, nI_add, pk_mul, pk_div, nI_rm, pk_sub, Nrm, Nrm8, Nrm4, nI_inT, nI_clamp, nI_ltT, nI_ltF, nI_eqT, nI_eqF, nI_ltI, nI_eq, nI_ushr, m4, m8, if_true, if_false, true_and, and_true, true_or, or_true, not_false_eq_true, not_true_eq_false, Nat.reduceAdd, Nat.reduceDiv, Nat.reduceMod, Nat.reduceMul, Nat.add_zero, Nat.lt_irrefl, pAdd_0, pK_n, pK_v]
    refine (hf _).trans ?_
    simp (disch := omega) only [w163_25, w163_26, w163_29, w163_30, w163_31, w163_34, rS_i13, rS_g13_0, rS_g13_1, rS_g13_2, rS_g13_3, rS_g13_4, rS_g13_5, rS_g13_6, rS_g13_7, rS_g13_8, rS_g13_9, rS_g13_10, rS_g13_11, rS_p13_11, rS_g13_12, rS_p13_12, rS_g13_13, rS_p13_13, rS_g13_14, rS_p13_14, rS_g13_15, rS_p13_15, rS_g13_16, rS_p13_16, rS_g13_17, rS_p13_17, rS_g13_18, rS_p13_18, rS_g13_19, rS_p13_19, rS_g13_20, rS_p13_20, rS_g13_21, rS_p13_21, rS_g13_22, rS_p13_22, rS_g13_23, rS_p13_23, rS_g13_24, rS_p13_24, rS_g13_25, rS_g13_26, rS_p13_26, rS_a14, rS_u14, rS_l14, rS_a15, rS_u15, rS_l15, rS_a16, rS_u16, rS_l16, rS_a17, rS_u17, rS_l17, rS_a18, rS_u18, rS_l18, rS_a19, rS_u19, rS_l19, rS_a20, rS_u20, rS_a21, rS_u21, rS_a22, rS_u22, rS_a23, rS_u23, rS_l23, rS_a24, rS_u24, rS_a25, rS_u25, rS_l25, lit_0, lit_1, lit_2, lit_3, lit_4, lit_5, lit_6, lit_7, lit_8, lit_9, lit_10, lit_11, lit_12, lit_13, lit_14, lit_15, lit_16, lit_17, lit_18, lit_19, lit_20, lit_21, lit_22, lit_23, lit_24, lit_25, lit_26, lit_27, lit_28, lit_29, lit_30, lit_31, lit_32, lit_33, lit_34, lit_35, lit_36, lit_37, lit_38, lit_39, lit_40, lit_41, lit_42, lit_43, lit_44, lit_45, lit_46, lit_47, lit_48, lit_49, lit_50, lit_51, lit_52, lit_53, lit_54, lit_55, lit_56, lit_57, lit_58, lit_59, lit_60, lit_61, lit_62, lit_63, lit_64, lit_80, lit_100, lit_524287, lit_262143, lit_384, lit_1001, lit_1002, lit_61267, nI_add, pk_mul, pk_div, nI_rm, pk_sub, Nrm, Nrm8, Nrm4, nI_inT, nI_clamp, nI_ltT, nI_ltF, nI_eqT, nI_eqF, nI_ltI, nI_eq, nI_ushr, m4, m8, if_true, if_false, true_and, and_true, true_or, or_true, not_false_eq_true, not_true_eq_false, Nat.reduceAdd, Nat.reduceDiv, Nat.reduceMod, Nat.reduceMul, Nat.add_zero, Nat.lt_irrefl, pAdd_0, pK_n, pK_v, pk_us]
end RUN
