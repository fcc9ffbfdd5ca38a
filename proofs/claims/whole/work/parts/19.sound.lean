/-! WHAT THE PURE MACHINE ANSWERS, THE REAL ONE ANSWERS -/
theorem pgl {len n : Nat} {x : Option pRes} {r : pRes} (h : pg (len == n) x = some r) : len = n ∧ x = some r := by
  obtain ⟨h1, h2⟩ := pg_some h
  exact ⟨by simpa using h1, h2⟩
theorem pgl2 {len n : Nat} {b : Bool} {x : Option pRes} {r : pRes} (h : pg (len == n && b) x = some r) : len = n ∧ b = true ∧ x = some r := by
  obtain ⟨h1, h2⟩ := pg_some h
  simp only [Bool.and_eq_true, beq_iff_eq] at h1
  exact ⟨h1.1, h1.2, h2⟩
theorem pBr_t {b : Bool} {x y : Option pRes} {r : pRes} (h : pBr b x y = some r) (e : b = true) : x = some r := by
  subst e
  exact h
theorem pBr_f {b : Bool} {x y : Option pRes} {r : pRes} (h : pBr b x y = some r) (e : b = false) : y = some r := by
  subst e
  exact h
theorem pCa_tc : (pCaL.all fun z => decide (z.2.1.2.1 < pNum) && decide (z.2.1.2.1 ≠ pLaw)) = true := by decide +kernel
theorem pCa_tg {c j : Nat} {q : Nat × Nat × Nat × Nat} (h : pCa c j = some q) : q.2.1 < pNum ∧ q.2.1 ≠ pLaw := by
  unfold pCa at h
  obtain ⟨z, h1, h2⟩ := Option.map_eq_some_iff.mp h
  obtain ⟨q', w⟩ := z
  cases h2
  have h3 := List.all_eq_true.mp pCa_tc _ (pLk h1)
  simp only [Bool.and_eq_true, decide_eq_true_eq] at h3
  exact h3
section SND
variable {G : jG} {rec : pRec}
theorem pAft_snd (ih : ∀ k pc L st M nx ok r, k < pNum → rec k pc L st M nx ok = some r → jW G k pc L st M nx ok r) {k pc : Nat} {L rest : List Value} {r1 r : pRes} (hk : k < pNum) (h : pAft rec k pc L rest r1 = some r) : jAft G k pc L rest r1 r := by
  obtain ⟨o, M1, n1, ok1, kc1, ks1⟩ := r1
  cases o with
  | inl v =>
    obtain ⟨r2, h1, h2⟩ := pMp_some h
    exact ⟨r2, h2, ih _ _ _ _ _ _ _ _ hk h1⟩
  | inr ex =>
    have h' : (match pHx k with
      | [] => some (.inr ex, M1, n1, ok1, kc1, ks1)
      | _ :: _ => pFo (pHd k pc ex) (fun q => pMp kc1 ks1 (rec k q.1 (pSt1 L q.2 pDum) [] M1 n1 ok1))) = some r := h
    show (pHx k = [] ∧ r = (.inr ex, M1, n1, ok1, kc1, ks1)) ∨ ∃ q r2, pHd k pc ex = some q ∧ r = pAdd kc1 ks1 r2 ∧ jW G k q.1 (pSt1 L q.2 pDum) [] M1 n1 ok1 r2
    cases e : pHx k with
    | nil =>
      rw [e] at h'
      exact Or.inl ⟨rfl, (Option.some.inj h').symm⟩
    | cons a t =>
      rw [e] at h'
      obtain ⟨q, hq, h1⟩ := pFo_some h'
      obtain ⟨r2, h3, h4⟩ := pMp_some h1
      exact Or.inr ⟨q, r2, hq, h4, ih _ _ _ _ _ _ _ _ hk h3⟩
theorem pGo_snd (ih : ∀ k pc L st M nx ok r, k < pNum → rec k pc L st M nx ok = some r → jW G k pc L st M nx ok r) {k pc k2 : Nat} {L av rest : List Value} {M : pMem} {nx : Nat} {ok : Bool} {r : pRes} (hk : k < pNum) (hk2 : k2 < pNum) (h : pGo rec k pc k2 L av rest M nx ok = some r) :
    ∃ r1, jMet G k2 av M nx ok r1 ∧ jAft G k pc L rest r1 r ∧ pCat rest ≤ 8 ∧ pFr k2 + 1 ≤ pFr k ∧ 8 + (pN k2 + 11) + pLo k2 ≤ pLo k := by
  obtain ⟨h1, h2⟩ := pg_some h
  simp only [Bool.and_eq_true, decide_eq_true_eq] at h1
  obtain ⟨⟨⟨g1, g2⟩, g3⟩, g4⟩ := h1
  obtain ⟨r1, h3, h4⟩ := pFo_some h2
  exact ⟨r1, jMet_of hk2 g2 (ih _ _ _ _ _ _ _ _ hk2 h3), pAft_snd ih hk h4, g1, g3, g4⟩
theorem pCp_some {st : List Value} {M : pMem} {K : List Value → pMem → Option pRes} {r : pRes} (h : pCp st M K = some r) : ∃ n dp a sp a0 st1 n0 f n1 g, st = .int n :: .int dp :: .ref a :: .int sp :: .ref a0 :: st1 ∧ M a0 = some (.inl (0, n0, .inl f)) ∧ M a = some (.inl (0, n1, .inl g)) ∧
    ¬ sp < 0 ∧ ¬ dp < 0 ∧ ¬ n < 0 ∧ sp.toNatClampNeg + n.toNatClampNeg ≤ n0 ∧ dp.toNatClampNeg + n.toNatClampNeg ≤ n1 ∧ pCat st1 ≤ 8 ∧ K st1 (pSet M a (.inl (0, n1, .inl (va_cpy f g sp.toNatClampNeg dp.toNatClampNeg n.toNatClampNeg)))) = some r := by
  unfold pCp at h
  split at h
  · rename_i n dp a sp a0 st1
    obtain ⟨n0, f, h0, h2⟩ := pAi_some h
    obtain ⟨n1, g, h3, h4⟩ := pAi_some h2
    obtain ⟨h5, h6⟩ := pg_some h4
    simp only [Bool.and_eq_true, decide_eq_true_eq] at h5
    obtain ⟨⟨⟨⟨⟨g1, g2⟩, g3⟩, g4⟩, g5⟩, g6⟩ := h5
    exact ⟨n, dp, a, sp, a0, st1, n0, f, n1, g, rfl, h0, h3, g1, g2, g3, g4, g5, g6, h6⟩
  · cases h
variable {k pc : Nat} {L st : List Value} {M : pMem} {nx : Nat} {ok : Bool} {r : pRes}
theorem snd_static (hG : jOk G) (hN : jNc G) (ih : ∀ k pc L st M nx ok r, k < pNum → rec k pc L st M nx ok = some r → jW G k pc L st M nx ok r) {j : Nat} (hk : k < pNum) (hd : decode (pB k) pc = .ok (.invokestatic j, 3)) {q : Nat × Nat × Nat × Nat} (hj : pCa (pCl k) j = some q) (hq : (q.1 == 0 || q.1 == 4 || q.1 == 5) = true) (h : pCall rec q k pc L st M nx ok = some r) : jW G k pc L st M nx ok r := by
  obtain ⟨q0, k2, n, ci⟩ := q
  obtain ⟨t1, t2⟩ := pCa_tg hj
  simp only [Bool.or_eq_true, beq_iff_eq] at hq
  rcases hq with (rfl | rfl) | rfl
  · obtain ⟨h1, h2⟩ := pg_some h
    obtain ⟨r1, g1, g2, g3, g4, g5⟩ := pGo_snd ih hk t1 h2
    exact js_static hG hN hd hj (of_decide_eq_true h1) t1 t2 g3 g4 g5 g1 g2
  · obtain ⟨h1, h2⟩ := pg_some h
    simp only [Bool.and_eq_true, decide_eq_true_eq] at h1
    obtain ⟨n, dp, a, sp, a0, st1, n0, f, n1, g, rfl, c0, c1, d1, d2, d3, d4, d5, d6, h3⟩ := pCp_some h2
    exact js_copy hG hd hj c0 c1 d1 d2 d3 d4 d5 d6 h1.1 h1.2 (ih _ _ _ _ _ _ _ _ hk h3)
  · obtain ⟨h1, h2⟩ := pg_some h
    simp only [Bool.and_eq_true, decide_eq_true_eq] at h1
    obtain ⟨y, x, st1, rfl, h3⟩ := p2i_some h2
    obtain ⟨h4, h5⟩ := pg_some h3
    have h6 : 1 + pCat st1 ≤ 9 := of_decide_eq_true h4
    exact js_max hG hd hj (by omega) h1.1 h1.2 (ih _ _ _ _ _ _ _ _ hk h5)
theorem snd_virtual (hG : jOk G) (hN : jNc G) (ih : ∀ k pc L st M nx ok r, k < pNum → rec k pc L st M nx ok = some r → jW G k pc L st M nx ok r) {j : Nat} (hk : k < pNum) (hd : decode (pB k) pc = .ok (.invokevirtual j, 3)) {q : Nat × Nat × Nat × Nat} (hj : pCa (pCl k) j = some q) (hq : (q.1 == 1) = true) (h : pCall rec q k pc L st M nx ok = some r) : jW G k pc L st M nx ok r := by
  obtain ⟨q0, k2, n, ci⟩ := q
  obtain ⟨t1, t2⟩ := pCa_tg hj
  simp only [beq_iff_eq] at hq
  subst hq
  obtain ⟨h1, h2⟩ := pg_some h
  simp only [Bool.and_eq_true, decide_eq_true_eq] at h1
  obtain ⟨r1, g1, g2, g3, g4, g5⟩ := pGo_snd ih hk t1 h2
  exact js_virtual hG hN hd hj h1.1 h1.2 t1 t2 g3 g4 g5 g1 g2
theorem snd_special (hG : jOk G) (hN : jNc G) (ih : ∀ k pc L st M nx ok r, k < pNum → rec k pc L st M nx ok = some r → jW G k pc L st M nx ok r) {j : Nat} (hk : k < pNum) (hd : decode (pB k) pc = .ok (.invokespecial j, 3)) {q : Nat × Nat × Nat × Nat} (hj : pCa (pCl k) j = some q) (hq : (q.1 == 2 || q.1 == 3 || q.1 == 6) = true) (h : pCall rec q k pc L st M nx ok = some r) : jW G k pc L st M nx ok r := by
  obtain ⟨q0, k2, n, ci⟩ := q
  obtain ⟨t1, t2⟩ := pCa_tg hj
  simp only [Bool.or_eq_true, beq_iff_eq] at hq
  rcases hq with (rfl | rfl) | rfl
  · obtain ⟨h1, h2⟩ := pg_some h
    simp only [Bool.and_eq_true, decide_eq_true_eq] at h1
    obtain ⟨r1, g1, g2, g3, g4, g5⟩ := pGo_snd ih hk t1 h2
    exact js_ctor hG hN hd hj h1.1 h1.2 t1 t2 g3 g4 g5 g1 g2
  · obtain ⟨a, st1, rfl, h1⟩ := pRf_some h
    obtain ⟨h2, h3⟩ := pg_some h1
    simp only [Bool.and_eq_true, decide_eq_true_eq] at h2
    exact js_objInit hG hd hj h2.1.1 h2.1.2 h2.2 (ih _ _ _ _ _ _ _ _ hk h3)
  · obtain ⟨h1, h2⟩ := pg_some h
    simp only [Bool.and_eq_true, decide_eq_true_eq] at h1
    obtain ⟨r1, g1, g2, g3, g4, g5⟩ := pGo_snd ih hk t1 h2
    exact js_ctorN hG hN hd hj h1.1 h1.2 t1 t2 g3 g4 g5 g1 g2
theorem snd_newarray (hG : jOk G) (ih : ∀ k pc L st M nx ok r, k < pNum → rec k pc L st M nx ok = some r → jW G k pc L st M nx ok r) {t : ArrayType} {n : Int32} (h : (match t with
    | .int => pMp 1 n.toNatClampNeg (rec k (pc + 2) L (.ref nx :: st) (pSet M nx (.inl (0, n.toNatClampNeg, .inl (fun _ => 0)))) (nx + 1) true)
    | .boolean => pMp 1 n.toNatClampNeg (rec k (pc + 2) L (.ref nx :: st) (pSet M nx (.inl (2, n.toNatClampNeg, .inl (fun _ => 0)))) (nx + 1) true)
    | .long => pMp 1 n.toNatClampNeg (rec k (pc + 2) L (.ref nx :: st) (pSet M nx (.inl (1, n.toNatClampNeg, .inr (.inl (fun _ => 0))))) (nx + 1) true)
    | _ => none) = some r) (hk : k < pNum) (hd : decode (pB k) pc = .ok (.newarray t, 2)) (hn : ¬ n < 0) (hN : n.toNatClampNeg ≤ 100000) : jW G k pc L (.int n :: st) M nx true r := by
  cases t with
  | int =>
    obtain ⟨r1, h1, rfl⟩ := pMp_some h
    exact js_newarray hG (t := 0) (ty := .int) hd rfl rfl pAr_in.1 (fun _ => rfl) rfl (by decide) hn hN (ih _ _ _ _ _ _ _ _ hk h1)
  | long =>
    obtain ⟨r1, h1, rfl⟩ := pMp_some h
    exact js_newarray hG (t := 1) (ty := .long) hd rfl rfl pAr_in.2.1 (fun _ => rfl) rfl (by decide) hn hN (ih _ _ _ _ _ _ _ _ hk h1)
  | boolean =>
    obtain ⟨r1, h1, rfl⟩ := pMp_some h
    exact js_newarray hG (t := 2) (ty := .boolean) hd rfl rfl pAr_in.2.2 (fun _ => rfl) rfl (by decide) hn hN (ih _ _ _ _ _ _ _ _ hk h1)
  | _ => cases h
set_option maxHeartbeats 4000000 in
theorem pEx_snd (hG : jOk G) (hTh : jTh G) (hN : jNc G) (ih : ∀ k pc L st M nx ok r, k < pNum → rec k pc L st M nx ok = some r → jW G k pc L st M nx ok r) {i : Instr} {len : Nat} (hk : k < pNum) (hd : decode (pB k) pc = .ok (i, len)) (h : pEx G.X rec i len k pc L st M nx ok = some r) : jW G k pc L st M nx ok r := by
  cases i with
  | iconst n => obtain ⟨rfl, h2⟩ := pgl h; exact js_iconst hd (ih _ _ _ _ _ _ _ _ hk h2)
  | bipush n => obtain ⟨rfl, h2⟩ := pgl h; exact js_bipush hd (ih _ _ _ _ _ _ _ _ hk h2)
  | sipush n => obtain ⟨rfl, h2⟩ := pgl h; exact js_sipush hd (ih _ _ _ _ _ _ _ _ hk h2)
  | lconst n => obtain ⟨rfl, h2⟩ := pgl h; exact js_lconst hd (ih _ _ _ _ _ _ _ _ hk h2)
  | iadd => obtain ⟨rfl, h2⟩ := pgl h; obtain ⟨y, x, st1, rfl, h3⟩ := p2i_some h2; exact js_iadd hd (ih _ _ _ _ _ _ _ _ hk h3)
  | isub => obtain ⟨rfl, h2⟩ := pgl h; obtain ⟨y, x, st1, rfl, h3⟩ := p2i_some h2; exact js_isub hd (ih _ _ _ _ _ _ _ _ hk h3)
  | imul => obtain ⟨rfl, h2⟩ := pgl h; obtain ⟨y, x, st1, rfl, h3⟩ := p2i_some h2; exact js_imul hd (ih _ _ _ _ _ _ _ _ hk h3)
  | iand => obtain ⟨rfl, h2⟩ := pgl h; obtain ⟨y, x, st1, rfl, h3⟩ := p2i_some h2; exact js_iand hd (ih _ _ _ _ _ _ _ _ hk h3)
  | ior => obtain ⟨rfl, h2⟩ := pgl h; obtain ⟨y, x, st1, rfl, h3⟩ := p2i_some h2; exact js_ior hd (ih _ _ _ _ _ _ _ _ hk h3)
  | ixor => obtain ⟨rfl, h2⟩ := pgl h; obtain ⟨y, x, st1, rfl, h3⟩ := p2i_some h2; exact js_ixor hd (ih _ _ _ _ _ _ _ _ hk h3)
  | ishl => obtain ⟨rfl, h2⟩ := pgl h; obtain ⟨y, x, st1, rfl, h3⟩ := p2i_some h2; exact js_ishl hd (ih _ _ _ _ _ _ _ _ hk h3)
  | ishr => obtain ⟨rfl, h2⟩ := pgl h; obtain ⟨y, x, st1, rfl, h3⟩ := p2i_some h2; exact js_ishr hd (ih _ _ _ _ _ _ _ _ hk h3)
  | iushr => obtain ⟨rfl, h2⟩ := pgl h; obtain ⟨y, x, st1, rfl, h3⟩ := p2i_some h2; exact js_iushr hd (ih _ _ _ _ _ _ _ _ hk h3)
  | ineg => obtain ⟨rfl, h2⟩ := pgl h; obtain ⟨x, st1, rfl, h3⟩ := p1i_some h2; exact js_ineg hd (ih _ _ _ _ _ _ _ _ hk h3)
  | ladd => obtain ⟨rfl, h2⟩ := pgl h; obtain ⟨y, x, st1, rfl, h3⟩ := p2l_some h2; exact js_ladd hd (ih _ _ _ _ _ _ _ _ hk h3)
  | lsub => obtain ⟨rfl, h2⟩ := pgl h; obtain ⟨y, x, st1, rfl, h3⟩ := p2l_some h2; exact js_lsub hd (ih _ _ _ _ _ _ _ _ hk h3)
  | lmul => obtain ⟨rfl, h2⟩ := pgl h; obtain ⟨y, x, st1, rfl, h3⟩ := p2l_some h2; exact js_lmul hd (ih _ _ _ _ _ _ _ _ hk h3)
  | land => obtain ⟨rfl, h2⟩ := pgl h; obtain ⟨y, x, st1, rfl, h3⟩ := p2l_some h2; exact js_land hd (ih _ _ _ _ _ _ _ _ hk h3)
  | lor => obtain ⟨rfl, h2⟩ := pgl h; obtain ⟨y, x, st1, rfl, h3⟩ := p2l_some h2; exact js_lor hd (ih _ _ _ _ _ _ _ _ hk h3)
  | lxor => obtain ⟨rfl, h2⟩ := pgl h; obtain ⟨y, x, st1, rfl, h3⟩ := p2l_some h2; exact js_lxor hd (ih _ _ _ _ _ _ _ _ hk h3)
  | lneg => obtain ⟨rfl, h2⟩ := pgl h; obtain ⟨x, st1, rfl, h3⟩ := p1l_some h2; exact js_lneg hd (ih _ _ _ _ _ _ _ _ hk h3)
  | lcmp => obtain ⟨rfl, h2⟩ := pgl h; obtain ⟨y, x, st1, rfl, h3⟩ := p2l_some h2; exact js_lcmp hd (ih _ _ _ _ _ _ _ _ hk h3)
  | lshl => obtain ⟨rfl, h2⟩ := pgl h; obtain ⟨y, x, st1, rfl, h3⟩ := pli_some h2; exact js_lshl hd (ih _ _ _ _ _ _ _ _ hk h3)
  | lshr => obtain ⟨rfl, h2⟩ := pgl h; obtain ⟨y, x, st1, rfl, h3⟩ := pli_some h2; exact js_lshr hd (ih _ _ _ _ _ _ _ _ hk h3)
  | lushr => obtain ⟨rfl, h2⟩ := pgl h; obtain ⟨y, x, st1, rfl, h3⟩ := pli_some h2; exact js_lushr hd (ih _ _ _ _ _ _ _ _ hk h3)
  | i2l => obtain ⟨rfl, h2⟩ := pgl h; obtain ⟨x, st1, rfl, h3⟩ := p1i_some h2; exact js_i2l hd (ih _ _ _ _ _ _ _ _ hk h3)
  | i2b => obtain ⟨rfl, h2⟩ := pgl h; obtain ⟨x, st1, rfl, h3⟩ := p1i_some h2; exact js_i2b hd (ih _ _ _ _ _ _ _ _ hk h3)
  | i2s => obtain ⟨rfl, h2⟩ := pgl h; obtain ⟨x, st1, rfl, h3⟩ := p1i_some h2; exact js_i2s hd (ih _ _ _ _ _ _ _ _ hk h3)
  | i2c => obtain ⟨rfl, h2⟩ := pgl h; obtain ⟨x, st1, rfl, h3⟩ := p1i_some h2; exact js_i2c hd (ih _ _ _ _ _ _ _ _ hk h3)
  | l2i => obtain ⟨rfl, h2⟩ := pgl h; obtain ⟨x, st1, rfl, h3⟩ := p1l_some h2; exact js_l2i hd (ih _ _ _ _ _ _ _ _ hk h3)
  | idiv => obtain ⟨rfl, h2⟩ := pgl h; obtain ⟨y, st1, rfl, h3⟩ := pTpI_some h2; obtain ⟨x, st2, rfl, h4⟩ := pTpI_some h3; obtain ⟨h5, h6⟩ := pg_some h4; exact js_idiv hd (of_decide_eq_true h5) (ih _ _ _ _ _ _ _ _ hk h6)
  | irem => obtain ⟨rfl, h2⟩ := pgl h; obtain ⟨y, st1, rfl, h3⟩ := pTpI_some h2; obtain ⟨x, st2, rfl, h4⟩ := pTpI_some h3; obtain ⟨h5, h6⟩ := pg_some h4; exact js_irem hd (of_decide_eq_true h5) (ih _ _ _ _ _ _ _ _ hk h6)
  | ldc j => obtain ⟨rfl, h2⟩ := pgl h; obtain ⟨v, hv, h3⟩ := pFo_some h2; exact js_ldc hG hd hv (ih _ _ _ _ _ _ _ _ hk h3)
  | ldc_w j => obtain ⟨rfl, h2⟩ := pgl h; obtain ⟨v, hv, h3⟩ := pFo_some h2; exact js_ldcw hG hd hv (ih _ _ _ _ _ _ _ _ hk h3)
  | ldc2_w j => obtain ⟨rfl, h2⟩ := pgl h; obtain ⟨v, hv, h3⟩ := pFo_some h2; exact js_ldc2 hG hd hv (ih _ _ _ _ _ _ _ _ hk h3)
  | iload_n n => obtain ⟨rfl, h2⟩ := pgl h; obtain ⟨x, hv, h3⟩ := pLdI_some h2; exact js_iload_n hd hv (ih _ _ _ _ _ _ _ _ hk h3)
  | iload n => obtain ⟨rfl, h2⟩ := pgl h; obtain ⟨x, hv, h3⟩ := pLdI_some h2; exact js_iload hd hv (ih _ _ _ _ _ _ _ _ hk h3)
  | lload_n n => obtain ⟨rfl, h2⟩ := pgl h; obtain ⟨x, hv, h3⟩ := pLdL_some h2; exact js_lload_n hd hv (ih _ _ _ _ _ _ _ _ hk h3)
  | lload n => obtain ⟨rfl, h2⟩ := pgl h; obtain ⟨x, hv, h3⟩ := pLdL_some h2; exact js_lload hd hv (ih _ _ _ _ _ _ _ _ hk h3)
  | aload_n n => obtain ⟨rfl, h2⟩ := pgl h; obtain ⟨x, hv, hr, h3⟩ := pLdA_some h2; exact js_aload_n hd hv hr (ih _ _ _ _ _ _ _ _ hk h3)
  | aload n => obtain ⟨rfl, h2⟩ := pgl h; obtain ⟨x, hv, hr, h3⟩ := pLdA_some h2; exact js_aload hd hv hr (ih _ _ _ _ _ _ _ _ hk h3)
  | istore_n n => obtain ⟨rfl, hn, h2⟩ := pgl2 h; obtain ⟨x, st1, rfl, h3⟩ := pTpI_some h2; exact js_istore_n hd (of_decide_eq_true hn) (ih _ _ _ _ _ _ _ _ hk h3)
  | istore n => obtain ⟨rfl, hn, h2⟩ := pgl2 h; obtain ⟨x, st1, rfl, h3⟩ := pTpI_some h2; exact js_istore hd (of_decide_eq_true hn) (ih _ _ _ _ _ _ _ _ hk h3)
  | lstore_n n => obtain ⟨rfl, hn, h2⟩ := pgl2 h; obtain ⟨x, st1, rfl, h3⟩ := pTpL_some h2; exact js_lstore_n hd (of_decide_eq_true hn) (ih _ _ _ _ _ _ _ _ hk h3)
  | lstore n => obtain ⟨rfl, hn, h2⟩ := pgl2 h; obtain ⟨x, st1, rfl, h3⟩ := pTpL_some h2; exact js_lstore hd (of_decide_eq_true hn) (ih _ _ _ _ _ _ _ _ hk h3)
  | astore_n n => obtain ⟨rfl, hn, h2⟩ := pgl2 h; obtain ⟨x, st1, rfl, hr, h3⟩ := pTpA_some h2; exact js_astore_n hd hr (of_decide_eq_true hn) (ih _ _ _ _ _ _ _ _ hk h3)
  | astore n => obtain ⟨rfl, hn, h2⟩ := pgl2 h; obtain ⟨x, st1, rfl, hr, h3⟩ := pTpA_some h2; exact js_astore hd hr (of_decide_eq_true hn) (ih _ _ _ _ _ _ _ _ hk h3)
  | iinc n j => obtain ⟨rfl, hn, h2⟩ := pgl2 h; obtain ⟨x, hv, h3⟩ := pLdI_some h2; exact js_iinc hd hv (of_decide_eq_true hn) (ih _ _ _ _ _ _ _ _ hk h3)
  | dup => obtain ⟨rfl, h2⟩ := pgl h; obtain ⟨v, st1, rfl, hc, h3⟩ := pTp1_some h2; exact js_dup hd hc (ih _ _ _ _ _ _ _ _ hk h3)
  | pop => obtain ⟨rfl, h2⟩ := pgl h; obtain ⟨v, st1, rfl, hc, h3⟩ := pTp1_some h2; exact js_pop hd hc (ih _ _ _ _ _ _ _ _ hk h3)
  | dup_x1 => obtain ⟨rfl, h2⟩ := pgl h; obtain ⟨v, st1, rfl, hc, h3⟩ := pTp1_some h2; obtain ⟨u, st2, rfl, hu, h4⟩ := pTp1_some h3; exact js_dup_x1 hd hc hu (ih _ _ _ _ _ _ _ _ hk h4)
  | dup_x2 => obtain ⟨rfl, h2⟩ := pgl h; obtain ⟨v, st1, rfl, hc, h3⟩ := pTp1_some h2; obtain ⟨u, st2, rfl, hu, h4⟩ := pTp1_some h3; obtain ⟨w, st3, rfl, hw, h5⟩ := pTp1_some h4; exact js_dup_x2 hd hc hu hw (ih _ _ _ _ _ _ _ _ hk h5)
  | dup2 =>
    obtain ⟨rfl, h2⟩ := pgl h
    split at h2
    · exact js_dup2l hd (ih _ _ _ _ _ _ _ _ hk h2)
    · obtain ⟨v, st1, rfl, hc, h3⟩ := pTp1_some h2
      obtain ⟨u, st2, rfl, hu, h4⟩ := pTp1_some h3
      exact js_dup2 hd hc hu (ih _ _ _ _ _ _ _ _ hk h4)
  | ifCond c off => obtain ⟨rfl, h0, h2⟩ := pgl2 h; obtain ⟨x, st1, rfl, h3⟩ := pTpI_some h2; exact js_if hd (of_decide_eq_true h0) (fun e => ih _ _ _ _ _ _ _ _ hk (pBr_t h3 e)) (fun e => ih _ _ _ _ _ _ _ _ hk (pBr_f h3 e))
  | if_icmp c off => obtain ⟨rfl, h0, h2⟩ := pgl2 h; obtain ⟨y, st1, rfl, h3⟩ := pTpI_some h2; obtain ⟨x, st2, rfl, h4⟩ := pTpI_some h3; exact js_icmp hd (of_decide_eq_true h0) (fun e => ih _ _ _ _ _ _ _ _ hk (pBr_t h4 e)) (fun e => ih _ _ _ _ _ _ _ _ hk (pBr_f h4 e))
  | goto off => obtain ⟨rfl, h2⟩ := pgl h; obtain ⟨h0, h3⟩ := pg_some h2; exact js_goto hd (of_decide_eq_true h0) (ih _ _ _ _ _ _ _ _ hk h3)
  | tableswitch df lo hi offs =>
    obtain ⟨x, st1, rfl, h2⟩ := pTpI_some h
    by_cases e : x.toInt < lo ∨ hi < x.toInt
    · obtain ⟨h0, h3⟩ := pg_some (pBr_t h2 (decide_eq_true e))
      exact js_tableOut hd e (of_decide_eq_true h0) (ih _ _ _ _ _ _ _ _ hk h3)
    · obtain ⟨off, ho, h3⟩ := pFo_some (pBr_f h2 (decide_eq_false e))
      obtain ⟨h0, h4⟩ := pg_some h3
      exact js_tableIn hd e ho (of_decide_eq_true h0) (ih _ _ _ _ _ _ _ _ hk h4)
  | lookupswitch df ps =>
    obtain ⟨hp, h1⟩ := pg_some h
    obtain ⟨x, st1, rfl, h2⟩ := pTpI_some h1
    obtain ⟨h0, h3⟩ := pg_some h2
    exact js_lookup hd hp (of_decide_eq_true h0) (ih _ _ _ _ _ _ _ _ hk h3)
  | getfield j =>
    obtain ⟨rfl, h2⟩ := pgl h
    obtain ⟨⟨c, i⟩, hf, h3⟩ := pFo_some h2
    obtain ⟨a, st1, rfl, h4⟩ := pRf_some h3
    obtain ⟨c', fs, hM, h5⟩ := pOb_some h4
    obtain ⟨h6, h7⟩ := pg_some h5
    obtain ⟨v, hv, h8⟩ := pFo_some h7
    have e : c' = c := by simpa using h6
    subst e
    exact js_getfield hG hd hf hM hv (ih _ _ _ _ _ _ _ _ hk h8)
  | putfield j =>
    obtain ⟨rfl, h2⟩ := pgl h
    obtain ⟨⟨c, i⟩, hf, h3⟩ := pFo_some h2
    split at h3
    · rename_i v a st1
      obtain ⟨c', fs, hM, h5⟩ := pOb_some h3
      obtain ⟨h6, h7⟩ := pg_some h5
      simp only [Bool.and_eq_true, decide_eq_true_eq, beq_iff_eq] at h6
      obtain ⟨⟨⟨rfl, g2⟩, g3⟩, g4⟩ := h6
      exact js_putfield hG hd hf hM g2 g3 g4 (ih _ _ _ _ _ _ _ _ hk h7)
    · cases h3
  | iaload =>
    obtain ⟨rfl, h2⟩ := pgl h
    obtain ⟨i, st1, rfl, h3⟩ := pTpI_some h2
    split at h3
    · obtain ⟨n, f, hM, h4⟩ := pAi_some h3
      obtain ⟨h5, h6⟩ := pg_some h4
      exact js_iaload hG hd hM h5 (ih _ _ _ _ _ _ _ _ hk h6)
    · obtain ⟨h5, h6⟩ := pg_some h3
      exact js_sald hG hd h5 (ih _ _ _ _ _ _ _ _ hk h6)
    · cases h3
  | iastore =>
    obtain ⟨rfl, h2⟩ := pgl h
    obtain ⟨x, st1, rfl, h3⟩ := pTpI_some h2
    obtain ⟨i, st2, rfl, h4⟩ := pTpI_some h3
    obtain ⟨a, st3, rfl, h5⟩ := pRf_some h4
    obtain ⟨n, f, hM, h6⟩ := pAi_some h5
    obtain ⟨h7, h8⟩ := pg_some h6
    exact js_iastore hG hd hM h7 (ih _ _ _ _ _ _ _ _ hk h8)
  | baload =>
    obtain ⟨rfl, h2⟩ := pgl h
    obtain ⟨i, st1, rfl, h3⟩ := pTpI_some h2
    obtain ⟨a, st2, rfl, h4⟩ := pRf_some h3
    obtain ⟨n, f, hM, h5⟩ := pAi_some h4
    obtain ⟨h6, h7⟩ := pg_some h5
    exact js_baload hG hd hM h6 (ih _ _ _ _ _ _ _ _ hk h7)
  | bastore =>
    obtain ⟨rfl, h2⟩ := pgl h
    obtain ⟨x, st1, rfl, h3⟩ := pTpI_some h2
    obtain ⟨i, st2, rfl, h4⟩ := pTpI_some h3
    obtain ⟨a, st3, rfl, h5⟩ := pRf_some h4
    obtain ⟨n, f, hM, h6⟩ := pAi_some h5
    obtain ⟨h7, h8⟩ := pg_some h6
    simp only [Bool.and_eq_true, Bool.or_eq_true, beq_iff_eq] at h7
    exact js_bastore hG hd hM h7.1 h7.2 (ih _ _ _ _ _ _ _ _ hk h8)
  | laload =>
    obtain ⟨rfl, h2⟩ := pgl h
    obtain ⟨i, st1, rfl, h3⟩ := pTpI_some h2
    obtain ⟨a, st2, rfl, h4⟩ := pRf_some h3
    obtain ⟨n, f, hM, h5⟩ := pAl_some h4
    obtain ⟨h6, h7⟩ := pg_some h5
    exact js_laload hG hd hM h6 (ih _ _ _ _ _ _ _ _ hk h7)
  | lastore =>
    obtain ⟨rfl, h2⟩ := pgl h
    obtain ⟨x, st1, rfl, h3⟩ := pTpL_some h2
    obtain ⟨i, st2, rfl, h4⟩ := pTpI_some h3
    obtain ⟨a, st3, rfl, h5⟩ := pRf_some h4
    obtain ⟨n, f, hM, h6⟩ := pAl_some h5
    obtain ⟨h7, h8⟩ := pg_some h6
    exact js_lastore hG hd hM h7 (ih _ _ _ _ _ _ _ _ hk h8)
  | arraylength =>
    obtain ⟨rfl, h2⟩ := pgl h
    split at h2
    · obtain ⟨n, f, hM, h4⟩ := pAi_some h2
      exact js_alen hG hd hM (ih _ _ _ _ _ _ _ _ hk h4)
    · exact js_salen hG hd (ih _ _ _ _ _ _ _ _ hk h2)
    · cases h2
  | newarray t =>
    obtain ⟨rfl, e, h2⟩ := pgl2 h
    subst e
    obtain ⟨n, st1, rfl, h3⟩ := pTpI_some h2
    obtain ⟨h4, h5⟩ := pg_some h3
    simp only [Bool.and_eq_true, decide_eq_true_eq] at h4
    exact snd_newarray hG ih h5 hk hd h4.1 h4.2
  | new j =>
    obtain ⟨rfl, h2⟩ := pgl h
    cases e : pTh k pc with
    | some ex =>
      rw [e] at h2
      obtain ⟨h3, h4⟩ := pg_some h2
      simp only [Bool.and_eq_true, decide_eq_true_eq] at h3
      cases h4
      exact js_throw hG hTh e h3.1.1 h3.1.2 h3.2
    | none =>
      rw [e] at h2
      obtain ⟨h3, h4⟩ := pg_some h2
      subst h3
      obtain ⟨ci, hj, h5⟩ := pFo_some h4
      obtain ⟨r1, h6, rfl⟩ := pMp_some h5
      exact js_new hG hd hj (ih _ _ _ _ _ _ _ _ hk h6)
  | ireturn =>
    obtain ⟨rfl, h2⟩ := pgl h
    split at h2
    · obtain ⟨h3, h4⟩ := pg_some h2
      cases h4
      exact js_ireturn hd h3
    · cases h2
  | lreturn =>
    obtain ⟨rfl, hv, h2⟩ := pgl2 h
    split at h2
    · cases h2
      exact js_lreturn hd (of_decide_eq_true hv)
    · cases h2
  | return_ =>
    obtain ⟨rfl, hv, h2⟩ := pgl2 h
    split at h2
    · cases h2
      exact js_return hd (of_decide_eq_true hv)
    · cases h2
  | invokestatic j =>
    obtain ⟨rfl, h2⟩ := pgl h
    obtain ⟨q, hj, h3⟩ := pFo_some h2
    obtain ⟨h4, h5⟩ := pg_some h3
    exact snd_static hG hN ih hk hd hj h4 h5
  | invokevirtual j =>
    obtain ⟨rfl, h2⟩ := pgl h
    obtain ⟨q, hj, h3⟩ := pFo_some h2
    obtain ⟨h4, h5⟩ := pg_some h3
    exact snd_virtual hG hN ih hk hd hj h4 h5
  | invokespecial j =>
    obtain ⟨rfl, h2⟩ := pgl h
    obtain ⟨q, hj, h3⟩ := pFo_some h2
    obtain ⟨h4, h5⟩ := pg_some h3
    exact snd_special hG hN ih hk hd hj h4 h5
  | _ => cases h
end SND
/-- THE MACHINE IS SOUND -/
theorem pSound {G : jG} (hG : jOk G) (hTh : jTh G) (hN : jNc G) : ∀ n k pc L st M nx ok r, k < pNum → pRun G.X n k pc L st M nx ok = some r → jW G k pc L st M nx ok r := by
  intro n
  induction n with
  | zero => intro k pc L st M nx ok r _ h; cases h
  | succ n ih =>
    intro k pc L st M nx ok r hk h
    obtain ⟨⟨i, len⟩, h1, h2⟩ := pFo_some h
    have hd : decode (pB k) pc = .ok (i, len) := by
      unfold pFetch at h1
      split at h1
      · rename_i x e
        cases h1
        exact e
      · cases h1
    exact pEx_snd hG hTh hN ih hk hd h2
