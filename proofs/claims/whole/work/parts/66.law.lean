/-! THE LAW: its start, its loop, all of it -/
theorem pSet_ss {M : pMem} {a : Nat} {o o' : pObj} : pSet (pSet M a o) a o' = pSet M a o' := by
  funext q
  unfold pSet
  by_cases h : q = a
  · rw [if_pos h, if_pos h]
  · rw [if_neg h, if_neg h, if_neg h]
theorem pSet_at {M : pMem} {a : Nat} {o : pObj} : pSet M a o a = some o := if_pos rfl
theorem pSet_no {M : pMem} {a b : Nat} {o : pObj} (h : ¬ a = b) : pSet M b o a = M a := if_neg h
theorem pSet_cm {M : pMem} {a b : Nat} {o o' : pObj} (h : ¬ a = b) : pSet (pSet M b o) a o' = pSet (pSet M a o') b o := by
  funext q
  unfold pSet
  by_cases h1 : q = a
  · have h2 : ¬ q = b := fun e => h (h1.symm.trans e)
    rw [if_pos h1, if_neg h2, if_pos h1]
  · rw [if_neg h1]
    by_cases h2 : q = b
    · rw [if_pos h2, if_pos h2]
    · rw [if_neg h2, if_neg h2, if_neg h1]
theorem pPf_s {M : pMem} {a c i : Nat} {fs : List Value} {v : Value} {K : pMem → Prop} : pPf (pSet M a (.inr (c, fs))) a c i v K ↔ (fits (pFt c i) v = true ∧ i < fs.length ∧ K (pSet M a (.inr (c, fs.set i v)))) := by
  constructor
  · rintro ⟨fs', h1, h2, h3, h4⟩
    rw [pSet_at] at h1
    cases h1
    rw [pSet_ss] at h4
    exact ⟨h2, h3, h4⟩
  · rintro ⟨h2, h3, h4⟩
    refine ⟨fs, pSet_at, h2, h3, ?_⟩
    rw [pSet_ss]
    exact h4
theorem pPf_n {M : pMem} {a b c i : Nat} {o : pObj} {v : Value} {K : pMem → Prop} (h : ¬ a = b) : pPf (pSet M b o) a c i v K ↔ pPf M a c i v (fun M' => K (pSet M' b o)) := by
  constructor
  · rintro ⟨fs, h1, h2, h3, h4⟩
    rw [pSet_no h] at h1
    rw [pSet_cm h] at h4
    exact ⟨fs, h1, h2, h3, h4⟩
  · rintro ⟨fs, h1, h2, h3, h4⟩
    refine ⟨fs, by rw [pSet_no h]; exact h1, h2, h3, ?_⟩
    rw [pSet_cm h]
    exact h4
theorem pGf_s {M : pMem} {a c i : Nat} {fs : List Value} {K : Value → Prop} : pGf (pSet M a (.inr (c, fs))) a c i K ↔ ∃ v, fs[i]? = some v ∧ K v := by
  constructor
  · rintro ⟨fs', v, h1, h2, h3⟩
    rw [pSet_at] at h1
    cases h1
    exact ⟨v, h2, h3⟩
  · rintro ⟨v, h2, h3⟩
    exact ⟨fs, v, pSet_at, h2, h3⟩
theorem pGf_n {M : pMem} {a b c i : Nat} {o : pObj} {K : Value → Prop} (h : ¬ a = b) : pGf (pSet M b o) a c i K ↔ pGf M a c i K := by
  unfold pGf
  rw [pSet_no h]
theorem pIs_s {M : pMem} {a c : Nat} {fs : List Value} : pIsO (pSet M a (.inr (c, fs))) a c = true := by
  unfold pIsO
  rw [pSet_at]
  simp
theorem pIs_n {M : pMem} {a b c : Nat} {o : pObj} (h : ¬ a = b) : pIsO (pSet M b o) a c = pIsO M a c := by
  unfold pIsO
  rw [pSet_no h]
theorem pAdd_t {a b kc ks n : Nat} {o : Option Value ⊕ Nat} {M : pMem} {k : Bool} : pAdd a b (o, M, n, k, kc, ks) = (o, M, n, k, a + kc, b + ks) := rfl
theorem pW_eqM {X : pScr} {k pc : Nat} {L st : List Value} {M M' : pMem} {nx : Nat} {ok : Bool} {Q : pRes → Prop} (h : M = M') (h2 : pW X k pc L st M' nx ok Q) : pW X k pc L st M nx ok Q := by
  rw [h]
  exact h2
theorem ex_sm {v : Value} {K : Value → Prop} : (∃ w, some v = some w ∧ K w) ↔ K v := ⟨fun ⟨_, h1, h2⟩ => Option.some.inj h1 ▸ h2, fun h => ⟨v, rfl, h⟩⟩
theorem nz_384 : ((384 : Int32) < 0) = False := eq_false (by decide)
theorem tc_384 : Int32.toNatClampNeg 384 = 384 := rfl
theorem nz_8 : ((8 : Int32) < 0) = False := eq_false (by decide)
theorem tc_8 : Int32.toNatClampNeg 8 = 8 := rfl
theorem nz_5 : ((5 : Int32) < 0) = False := eq_false (by decide)
theorem tc_5 : Int32.toNatClampNeg 5 = 5 := rfl
theorem nz_16 : ((16 : Int32) < 0) = False := eq_false (by decide)
theorem tc_16 : Int32.toNatClampNeg 16 = 16 := rfl
theorem nz_128 : ((128 : Int32) < 0) = False := eq_false (by decide)
theorem tc_128 : Int32.toNatClampNeg 128 = 128 := rfl
theorem nz_1024 : ((1024 : Int32) < 0) = False := eq_false (by decide)
theorem tc_1024 : Int32.toNatClampNeg 1024 = 1024 := rfl
theorem nz_48 : ((48 : Int32) < 0) = False := eq_false (by decide)
theorem tc_48 : Int32.toNatClampNeg 48 = 48 := rfl
theorem nz_6 : ((6 : Int32) < 0) = False := eq_false (by decide)
theorem tc_6 : Int32.toNatClampNeg 6 = 6 := rfl
theorem nz_1 : ((1 : Int32) < 0) = False := eq_false (by decide)
theorem tc_1 : Int32.toNatClampNeg 1 = 1 := rfl
theorem ft_0_0 {x : Nat} : fits (pFt 0 0) (.ref x) = true := rfl
theorem ft_0_1 {x : Nat} : fits (pFt 0 1) (.ref x) = true := rfl
theorem ft_0_2 {x : Nat} : fits (pFt 0 2) (.ref x) = true := rfl
theorem ft_0_3 {x : Nat} : fits (pFt 0 3) (.ref x) = true := rfl
theorem ft_1_0 {x : Nat} : fits (pFt 1 0) (.ref x) = true := rfl
theorem ft_1_1 {x : Nat} : fits (pFt 1 1) (.ref x) = true := rfl
theorem ft_1_2 {x : Nat} : fits (pFt 1 2) (.ref x) = true := rfl
theorem ft_2_0 {x : Nat} : fits (pFt 2 0) (.ref x) = true := rfl
theorem ft_2_1 {x : Nat} : fits (pFt 2 1) (.ref x) = true := rfl
theorem ft_2_5 {x : Int32} : fits (pFt 2 5) (.int x) = true := rfl
theorem ft_3_0 {x : Nat} : fits (pFt 3 0) (.ref x) = true := rfl
theorem ft_3_1 {x : Nat} : fits (pFt 3 1) (.ref x) = true := rfl
theorem ft_3_2 {x : Nat} : fits (pFt 3 2) (.ref x) = true := rfl
theorem ft_3_3 {x : Nat} : fits (pFt 3 3) (.ref x) = true := rfl
theorem ft_4_0 {x : Nat} : fits (pFt 4 0) (.ref x) = true := rfl
theorem ft_5_0 {x : Nat} : fits (pFt 5 0) (.ref x) = true := rfl
theorem ft_5_1 {x : Nat} : fits (pFt 5 1) (.ref x) = true := rfl
theorem ft_5_2 {x : Nat} : fits (pFt 5 2) (.ref x) = true := rfl
theorem ft_5_3 {x : Nat} : fits (pFt 5 3) (.ref x) = true := rfl
theorem ft_5_4 {x : Nat} : fits (pFt 5 4) (.ref x) = true := rfl
theorem ft_5_5 {x : Nat} : fits (pFt 5 5) (.ref x) = true := rfl
theorem ft_5_6 {x : Nat} : fits (pFt 5 6) (.ref x) = true := rfl
theorem ft_5_7 {x : Nat} : fits (pFt 5 7) (.ref x) = true := rfl
theorem ft_5_8 {x : Nat} : fits (pFt 5 8) (.ref x) = true := rfl
theorem ft_5_9 {x : Nat} : fits (pFt 5 9) (.ref x) = true := rfl
theorem ft_5_10 {x : Nat} : fits (pFt 5 10) (.ref x) = true := rfl
theorem ft_5_14 {x : Int32} : fits (pFt 5 14) (.int x) = true := rfl
theorem ft_5_25 {x : Nat} : fits (pFt 5 25) (.ref x) = true := rfl
theorem sl_0 : pSl 0 = 4 := rfl
theorem sl_1 : pSl 1 = 3 := rfl
theorem sl_2 : pSl 2 = 8 := rfl
theorem sl_3 : pSl 3 = 10 := rfl
theorem sl_4 : pSl 4 = 5 := rfl
theorem sl_5 : pSl 5 = 27 := rfl
theorem df_0 : pDf 0 = [.null, .null, .null, .null] := rfl
theorem df_1 : pDf 1 = [.null, .null, .null] := rfl
theorem df_2 : pDf 2 = [.null, .null, .int 0, .int 0, .int 0, .int 0, .int 0, .int 0] := rfl
theorem df_3 : pDf 3 = [.null, .null, .null, .null, .long 0, .int 0, .int 0, .int 0, .int 0, .int 0] := rfl
theorem df_4 : pDf 4 = [.null, .long 0, .long 0, .long 0, .int 0] := rfl
theorem df_5 : pDf 5 = [.null, .null, .null, .null, .null, .null, .null, .null, .null, .null, .null, .int 0, .int 0, .int 0, .int 0, .int 0, .int 0, .int 0, .int 0, .int 0, .int 0, .int 0, .int 0, .int 0, .int 0, .null, .int 0] := rfl
def z1 : cS1 := (fun _ => 0, fun _ => 0, 0, 0, 0, -1, 0, 0)
def z4 : cS4 := (fun _ => 0, 0, 0, 0, 0)
def z6 : cS6 := (fun _ => 0, fun _ => 0, 0, 0, 0, 0, 0, 0)
def z9 : cS9 := (fun _ => 0, fun _ => 0, fun _ => 0)
def y1 : rS1 := (fun _ => 0, fun _ => 0, fun _ => 0, fun _ => 0, 0, 0, -1, 0, 0, 0, 0)
def y2 : rS2 := (fun _ => 0, fun _ => 0, fun _ => 0, fun _ => 0, 0)
def y3 : rS3 := (fun _ => 0, fun _ => 0, 0, 0, 0, 0, 0, fun _ => 0)
def y4 : rS4 := (fun _ => 0, 0, 0)
theorem RS_0 : RS z1 z4 z6 y1 y2 y3 := ⟨⟨rfl, rfl, fun w hw => absurd hw (Nat.not_lt_zero w), rfl, rfl, rfl, rfl, rfl, rfl, rfl⟩, ⟨rfl, rfl⟩, fun _ _ => rfl, 0, by omega, rfl, fun z => by omega⟩
theorem l_start {X : pScr} (h : ∀ c s, c ≤ 27 → s ≤ 5000 → pW X 197 23 [.retAddr 0, .ref 0, .ref 13, .ref 26, .int (nI 0), pDum, pDum] [] (cSW z1 z4 z6 z9 (rSW y1 y2 y3 y4 (aW (fun _ => 0)))) 27 true (lP c s)) : pW X 197 0 [.retAddr 0, pDum, pDum, pDum, pDum, pDum, pDum] [] (fun _ => none) 0 true lFin := by
  simp (disch := decide) only [w197_0, w197_3, w197_4, w197_7, w197_8, w197_11, w197_12, w197_15, w197_16, w197_17, w197_19, w197_20, w197_21, w0_0, w0_1, w0_4, w0_5, w0_8, w0_9, w0_12, w0_15, w0_16, w0_19, w0_20, w0_23, w0_26, w0_27, w0_30, w0_31, w0_32, w0_35, w0_36, w0_39, w0_42, w0_45, w0_46, w0_49, w0_50, w0_53, w0_56, w49_0, w49_1, w49_4, w49_5, w49_8, w49_10, w49_13, w49_14, w49_17, w49_19, w49_22, w49_23, w49_24, w49_27, w70_0, w70_1, w70_4, w70_5, w70_8, w70_10, w70_13, w54_0, w54_1, w54_4, w54_5, w54_8, w54_10, w54_13, w54_14, w54_16, w54_18, w54_21, w54_22, w54_23, w54_26, w54_27, w54_28, w54_31, w33_0, w33_1, w33_4, w33_5, w33_6, w33_8, w33_11, w33_12, w33_14, w33_16, w33_19, w33_20, w33_22, w33_24, w33_27, w100_0, w100_1, w100_4, w100_5, w100_8, w100_10, w100_13, w100_14, w100_17, w100_19, w100_22, w100_23, w100_26, w100_28, w100_31, w100_32, w100_35, w100_37, w100_40, w100_41, w100_44, w100_46, w100_49, w100_50, w100_53, w100_55, w100_58, w100_59, w100_61, w100_63, w100_66, w100_67, w100_69, w100_71, w100_74, w100_75, w100_77, w100_79, w100_82, w100_83, w100_85, w100_87, w100_90, w100_91, w100_93, w100_95, w100_98, w100_99, w100_100, w100_103, w100_104, w100_106, w100_108, w100_111, nz_384, tc_384, nz_8, tc_8, nz_5, tc_5, nz_16, tc_16, nz_128, tc_128, nz_1024, tc_1024, nz_48, tc_48, nz_6, tc_6, nz_1, tc_1, ft_0_0, ft_0_1, ft_0_2, ft_0_3, ft_1_0, ft_1_1, ft_1_2, ft_2_0, ft_2_1, ft_2_5, ft_3_0, ft_3_1, ft_3_2, ft_3_3, ft_4_0, ft_5_0, ft_5_1, ft_5_2, ft_5_3, ft_5_4, ft_5_5, ft_5_6, ft_5_7, ft_5_8, ft_5_9, ft_5_10, ft_5_14, ft_5_25, sl_0, df_0, sl_1, df_1, sl_2, df_2, sl_3, df_3, sl_4, df_4, sl_5, df_5, pPf_s, pPf_n, pGf_s, pGf_n, pIs_s, pIs_n, pAdd_t, pAdd_0, pAdd_add, pK_n, List.set_cons_zero, List.set_cons_succ, List.getElem?_cons_zero, List.getElem?_cons_succ, List.length_cons, List.length_nil, Nat.reduceAdd, Nat.reduceLT, Nat.zero_add, Nat.add_zero, true_and, ex_sm, not_false_eq_true, Nat.reduceLeDiff, and_self, and_true]
  refine pW_eqM (M' := cSW z1 z4 z6 z9 (rSW y1 y2 y3 y4 (aW (fun _ => 0)))) ?_ (h _ _ ?_ ?_)
  · funext q
    match q with
    | 0 => rfl
    | 1 => rfl
    | 2 => rfl
    | 3 => rfl
    | 4 => rfl
    | 5 => rfl
    | 6 => rfl
    | 7 => rfl
    | 8 => rfl
    | 9 => rfl
    | 10 => rfl
    | 11 => rfl
    | 12 => rfl
    | 13 => rfl
    | 14 => rfl
    | 15 => rfl
    | 16 => rfl
    | 17 => rfl
    | 18 => rfl
    | 19 => rfl
    | 20 => rfl
    | 21 => rfl
    | 22 => rfl
    | 23 => rfl
    | 24 => rfl
    | 25 => rfl
    | 26 => rfl
    | q + 27 => rfl
  · decide
  · decide
theorem l_exit {X : pScr} {L : List Value} {M : pMem} {ok : Bool} {c s : Nat} (hc : c ≤ 1058) (hs : s ≤ 12767) : pW X 197 1082 L [] M 27 ok (lP c s) := by
  rw [w197_1082, w197_1083]
  exact ⟨Or.inr rfl, rfl, hc, hs⟩
theorem l_cmp {a i : Nat} (ha : a ≤ 2560) (hi : i ≤ 5000) : (nI a - nI 5 < nI i) ↔ a < i + 5 := by
  rw [Int32.lt_iff_toInt_lt, pk_sub_toInt (by omega) (by omega), nI_toInt (by omega)]
  omega
theorem l_loop {X : pScr} (hX : X.1 ≤ 2560) : ∀ n i c s (d1 : cS1) (d4 : cS4) (d6 : cS6) (d9 : cS9) (e1 : rS1) (e2 : rS2) (e3 : rS3) (e4 : rS4) (g : Nat → Int64) (w5 w6 : Value) (ok : Bool), RS d1 d4 d6 e1 e2 e3 → i ≤ 2600 → X.1 < i + 5 + 5 * n → c + n ≤ 1058 → s + 6 * n ≤ 12767 → pW X 197 23 [.retAddr 0, .ref 0, .ref 13, .ref 26, .int (nI i), w5, w6] [] (cSW d1 d4 d6 d9 (rSW e1 e2 e3 e4 (aW g))) 27 ok (lP c s) := by
  intro n
  induction n with
  | zero =>
    intro i c s d1 d4 d6 d9 e1 e2 e3 e4 g w5 w6 ok hs hi hx hc hl
    rw [w197_23, w197_25, w197_26, w197_27, w197_28, w197_29]
    show (if nI X.1 - nI 5 < nI i then _ else _)
    rw [if_pos ((l_cmp hX (by omega)).mpr (by omega))]
    exact l_exit (by omega) (by omega)
  | succ n ih =>
    intro i c s d1 d4 d6 d9 e1 e2 e3 e4 g w5 w6 ok hs hi hx hc hl
    rw [w197_23, w197_25, w197_26, w197_27, w197_28, w197_29]
    show (if nI X.1 - nI 5 < nI i then _ else _)
    by_cases hlt : X.1 < i + 5
    · rw [if_pos ((l_cmp hX (by omega)).mpr hlt)]
      exact l_exit (by omega) (by omega)
    · rw [if_neg (fun z => hlt ((l_cmp hX (by omega)).mp z))]
      have K : lCont X i c s := fun d1 d4 d6 d9 e1 e2 e3 e4 g z5 z6 ok k hk hs' => ih (i + 5) (c + k) (s + 6 * k) d1 d4 d6 d9 e1 e2 e3 e4 g z5 z6 ok hs' (by omega) (by omega) (by omega) (by omega)
      have hin : pIn (nI i) X.1 = true := nI_inT (by omega) (by omega)
      rw [w197_32, w197_33, w197_35]
      refine ⟨hin, ?_⟩
      rw [w197_36, w197_38, w197_39]
      generalize X.2 (nI i).toNatClampNeg &&& 31 = x
      by_cases h0 : x = 0
      · rw [if_pos h0]
        exact I_fmt hs (by omega) hX K
      rw [if_neg h0]
      by_cases h1 : x = 1
      · rw [if_pos h1]
        exact I_mount hs (by omega) hX K
      rw [if_neg h1]
      by_cases h2 : x = 2
      · rw [if_pos h2]
        exact I_umt hs (by omega) hX K
      rw [if_neg h2]
      by_cases h3 : x = 3
      · rw [if_pos h3]
        exact I_fuse hs (by omega) hX K
      rw [if_neg h3]
      by_cases h4 : x = 4
      · rw [if_pos h4]
        exact I_crash hs (by omega) hX K
      rw [if_neg h4]
      by_cases h5 : x = 5
      · rw [if_pos h5]
        exact I_sync hs (by omega) hX K
      rw [if_neg h5]
      by_cases h6 : x = 6
      · rw [if_pos h6]
        exact I_ckpt hs (by omega) hX K
      rw [if_neg h6]
      by_cases h7 : x = 7
      · rw [if_pos h7]
        exact I_create hs (by omega) hX K
      rw [if_neg h7]
      by_cases h8 : x = 8
      · rw [if_pos h8]
        exact I_link hs (by omega) hX K
      rw [if_neg h8]
      by_cases h9 : x = 9
      · rw [if_pos h9]
        exact I_unlink hs (by omega) hX K
      rw [if_neg h9]
      by_cases h10 : x = 10
      · rw [if_pos h10]
        exact I_rename hs (by omega) hX K
      rw [if_neg h10]
      by_cases h11 : x = 11
      · rw [if_pos h11]
        exact I_write hs (by omega) hX K
      rw [if_neg h11]
      by_cases h12 : x = 12
      · rw [if_pos h12]
        exact I_trunc hs (by omega) hX K
      rw [if_neg h12]
      by_cases h13 : x = 13
      · rw [if_pos h13]
        exact I_read hs (by omega) hX K
      rw [if_neg h13]
      by_cases h14 : x = 14
      · rw [if_pos h14]
        exact I_look hs (by omega) hX K
      rw [if_neg h14]
      by_cases h15 : x = 15
      · rw [if_pos h15]
        exact I_raw hs (by omega) hX K
      rw [if_neg h15]
      by_cases h16 : x = 16
      · rw [if_pos h16]
        exact I_tamper hs (by omega) hX K
      rw [if_neg h16]
      by_cases h17 : x = 17
      · rw [if_pos h17]
        exact I_check hs (by omega) hX K
      rw [if_neg h17]
      by_cases h18 : x = 18
      · rw [if_pos h18]
        exact I_count hs (by omega) hX K
      rw [if_neg h18]
      rw [w197_1076, w197_1079]
      have e5 : nI i + 5 = nI (i + 5) := nI_add i 5
      rw [e5]
      exact K d1 d4 d6 d9 e1 e2 e3 e4 g w5 w6 ok 0 (by omega) hs
theorem i_goal : pGoal := by
  intro X hX
  have e : pEnt pLaw [pScV] = [.retAddr 0, pDum, pDum, pDum, pDum, pDum, pDum] := by decide +kernel
  rw [e]
  exact l_start (fun c s hc hs => l_loop hX 512 0 c s z1 z4 z6 z9 y1 y2 y3 y4 (fun _ => 0) pDum pDum true RS_0 (by omega) (by omega) (by omega) (by omega))
theorem i_vc : Claimed_1_1 ∧ Claimed_1_2 := i_vc_of i_goal
