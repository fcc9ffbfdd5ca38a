/-! CALLS: the rows -/
section JIV
variable {G : jG} {k pc : Nat} {L st : List Value}
variable {p : Program} {e : Env} {R : Room} {s : State} {m : MethodId} {args : Array Value} {below : List Frame} {meth : Method} {c : Code}
theorem jGo (hG : jOk G) (hN : jNc G) {k2 : Nat} {av : List Value} {r1 r : pRes} {M : pMem} {nx : Nat} {ok : Bool} {U : State} {locs : List Loc} {cells slots tc ts : Nat} {ls : Array Slot} {ig : Instr} {mk : MethodId} {kY : Class}
    (cx : jCx G k p s m meth c) (hdg : decode c.code pc = .ok (ig, 3)) (X : Stand p G.l e R s m args below meth c U locs cells slots)
    (a1 : pFr k ≤ R.frames) (a2 : pLo k ≤ R.locals) (a3 : cells + r.2.2.2.2.1 ≤ tc) (a4 : tc ≤ R.cells) (a5 : slots + r.2.2.2.2.2 ≤ ts) (a6 : ts ≤ R.slots) (hH : jH G M nx ok U.heap) (hL : jL G L ls (pN k)) (hl : ∀ q ∈ locs, jB G ≤ q.base)
    (hk2 : k2 < pNum) (hk3 : k2 ≠ pLaw) (h8 : pCat st ≤ 8) (hfr : pFr k2 + 1 ≤ pFr k) (hlo : 8 + (pN k2 + 11) + pLo k2 ≤ pLo k) (hn : s.methodNamed? (pY k2) = some mk) (hkY : s.vm.classes[mk.cls]? = some kY) (hiY : kY.init = .initialized)
    (hM : jMet G k2 av M nx ok r1) (hA : jAft G k pc L st r1 r) : ∃ t, Steps p.tables e below (doInvoke e (U.setTop (F0 m pc ls (st.map (jTr G)))) [] mk (av.map (jTr G)).toArray).1 t ∧ jEnd G below s r tc ts t := by
  have hW := cx.2.2.2.2.2.2.2.2.1
  have hWU : G.s.WarmedH U.vm := State.WarmedH.trans hW X.warmed
  have hpre : (pCw k2).before (av.map (jTr G)).toArray U = true := jWord hG hWU (pCw_in hk2 hk3) (Or.inl (pCw_keeps k2))
  have hnU := X.named hn
  obtain ⟨methY, cY, hmY, hcY, -, hlY, -, -, -, -⟩ := pCw_spec hpre hnU
  obtain ⟨kY', hkY', hke⟩ := X.warmed.alike.2.2 _ _ hkY
  have hr1 : r1.2.2.2.2.1 ≤ r.2.2.2.2.1 ∧ r1.2.2.2.2.2 ≤ r.2.2.2.2.2 := by
    unfold jAft at hA
    split at hA
    · obtain ⟨r2, rfl, -⟩ := hA
      exact ⟨Nat.le_add_right _ _, Nat.le_add_right _ _⟩
    · rcases hA with ⟨-, rfl⟩ | ⟨q, r2, -, rfl, -⟩
      · exact ⟨Nat.le_refl _, Nat.le_refl _⟩
      · exact ⟨Nat.le_add_right _ _, Nat.le_add_right _ _⟩
  obtain ⟨o, t1, hsteps, hend, hout, hWt, Lc, hsame, hLc⟩ := jc_call X (g := F0 m pc ls (st.map (jTr G))) rfl (by rw [cx.2.2.1]; exact hL.1) hdg hnU hmY hcY hkY' (by rw [hke]; exact hiY) hM (atoms_intro fun w hw => by rw [List.mem_singleton.mp hw]; exact hpre)
    ⟨rfl, hWU, hH⟩ (show pFr k2 + 1 ≤ R.frames by omega) (by show 2 * 0 + ((st.map (jTr G)).map fun v => v.category).sum + (cY.maxLocals + 11) + pLo k2 ≤ R.locals; rw [pCat_sum, hlY]; omega) (show cells + r1.2.2.2.2.1 ≤ R.cells by omega) (show slots + r1.2.2.2.2.2 ≤ R.slots by omega)
  obtain ⟨V, v1, v2, XV, hm⟩ := jc_back X (g := F0 m pc ls (st.map (jTr G))) rfl hdg hend hWt hsame
  have hlV : ∀ q ∈ locs ++ Lc, jB G ≤ q.base := by
    intro q hq
    rcases List.mem_append.mp hq with h | h
    · exact hl q h
    · exact hLc q h
  obtain ⟨o1, M1, n1, ok1, kc1, ks1⟩ := r1
  cases o1 with
  | inl v =>
    obtain ⟨ho, hH1⟩ := hout
    subst ho
    obtain ⟨r2, rfl, hW2⟩ := hA
    have b3 : cells + (kc1 + r2.2.2.2.2.1) ≤ tc := a3
    have b5 : slots + (ks1 + r2.2.2.2.2.2) ≤ ts := a5
    simp only at hm hW2 XV
    have K := hW2 p e R s m args below meth c V.heap (locs ++ Lc) (cells + kc1) (slots + ks1) ls tc ts cx a1 a2 (by omega) a4 (by omega) a6 (by rw [v1]; exact hH1) hL hlV V rfl XV
    obtain ⟨t, d1, d2⟩ := K
    refine ⟨t, hsteps.trans ?_, d2⟩
    rw [hm]
    have e1 : F0 m (pc + 3) ls ((v.toList ++ st).map (jTr G)) = { F0 m pc ls (st.map (jTr G)) with pc := pc + 3, stack := (v.map (jTr G)).toList ++ st.map (jTr G) } := by cases v <;> rfl
    rw [e1] at d1
    exact d1
  | inr ex =>
    obtain ⟨hH1, a, cell, ho, hcell, hobj, hcl⟩ := hout
    subst ho
    simp only at hm XV
    rcases hA with ⟨hx0, rfl⟩ | ⟨q, r2, hq, rfl, hW2⟩
    · have hout2 : ∀ x ∈ c.exceptionTable.toList, covers x pc = false := by
        have h1 := cx.2.2.2.2.2.2.2.1
        rw [hx0] at h1
        have h2 : c.exceptionTable.toList = [] := List.map_eq_nil_iff.mp h1
        intro x hx
        rw [h2] at hx
        cases hx
      obtain ⟨st1, hrun, hend1, hW1, hsm⟩ := XV.leaveThrown a (g := F0 m pc ls (st.map (jTr G))) rfl rfl rfl hout2 cx.2.2.2.2.1
      refine ⟨_, hsteps.trans (by rw [hm]; exact st1), .threw a, hrun, hend1, ⟨?_, a, cell, rfl, ?_, hobj, hcl⟩, hW1, locs ++ Lc, hsm.mono a3 a5, hlV⟩
      · show jH G M1 n1 ok1 V.heap
        rw [v1]
        exact hH1
      · show V.heap[a]? = some cell
        rw [v1]
        exact hcell
    · have b3 : cells + (kc1 + r2.2.2.2.2.1) ≤ tc := a3
      have b5 : slots + (ks1 + r2.2.2.2.2.2) ≤ ts := a5
      obtain ⟨t, d1, d2⟩ := jCatch hG hN cx hq XV a1 a2 (by omega) a4 (by omega) a6 (by rw [v1]; exact hH1) hL hlV (by rw [v1]; exact hcell) hobj hcl hW2 (stk := st.map (jTr G))
      exact ⟨t, hsteps.trans (by rw [hm]; exact d1), d2⟩
end JIV
section JIR
variable {G : jG} {k pc : Nat} {L st : List Value} {M : pMem} {nx : Nat} {ok : Bool} {r r1 : pRes}
theorem jSplit (G : jG) (st : List Value) (n : Nat) : st.map (jTr G) = ((st.take n).reverse.map (jTr G)).reverse ++ (st.drop n).map (jTr G) := by
  rw [← List.map_reverse, List.reverse_reverse, ← List.map_append, List.take_append_drop]
theorem js_static (hG : jOk G) (hN : jNc G) {j k2 n ci : Nat} (hd : decode (pB k) pc = .ok (.invokestatic j, 3)) (hj : pCa (pCl k) j = some (0, k2, n, ci)) (hlen : n ≤ st.length) (hk2 : k2 < pNum) (hk3 : k2 ≠ pLaw) (h8 : pCat (st.drop n) ≤ 8) (hfr : pFr k2 + 1 ≤ pFr k) (hlo : 8 + (pN k2 + 11) + pLo k2 ≤ pLo k)
    (hM : jMet G k2 (st.take n).reverse M nx ok r1) (hA : jAft G k pc L (st.drop n) r1 r) : jW G k pc L st M nx ok r := by
  intro p e R s m args below meth c H locs cells slots ls tc ts cx a1 a2 a3 a4 a5 a6 hH hL hl
  have hW := cx.2.2.2.2.2.2.2.2.1
  obtain ⟨w, hw⟩ := pCa_ok hj
  simp only [pCaC, Bool.and_eq_true, decide_eq_true_eq] at hw
  obtain ⟨⟨⟨w1, w2⟩, w3⟩, w4⟩ := hw
  obtain ⟨-, -, n3, n4⟩ := pNm hk2
  have hcw : (pCw k2).before args s = true := jWord hG hW (pCw_in hk2 hk3) (Or.inl (pCw_keeps k2))
  obtain ⟨mk, hnamed⟩ : ∃ mk, s.methodNamed? (pY k2) = some mk := by
    unfold pCw at hcw
    split at hcw
    · exact Cond.code_named hcw
    · obtain ⟨m', -, -, g1, -⟩ := Cond.codeWith_spec hcw
      exact ⟨m', g1⟩
  obtain ⟨methM, cM, hmethM, -, -, -, -, -, -, hsigM⟩ := pCw_spec hcw hnamed
  have hstatic : methM.isStatic = true := Cond.static_spec hnamed hmethM (jWord hG hW (pAt_mem w2) (Or.inl rfl) (args := args))
  obtain ⟨kP, hkP, -⟩ := className_of_methodNamed hnamed
  have hinitP : kP.init = .initialized := Cond.initialized_spec (findClass_of_methodNamed hnamed) hkP (jWord hG hW (pAt_mem w3) (Or.inl rfl) (args := args))
  have hl9 : ((st.take n).reverse.map (jTr G)).length = methM.sig.parameters.length := by
    rw [hsigM] at w4
    simp at w4
    simp [w4]
    omega
  intro T hT X
  obtain ⟨vm₁, X₁, hstep₁⟩ := X.invokestatic cx.1 cx.2.2.2.2.2.1 (jWord hG hW (pAt_mem w1) (Or.inl rfl)) hnamed hmethM hstatic hkP hinitP ⟨n3, n4⟩ (g := F0 m pc ls (st.map (jTr G))) rfl (argsL := (st.take n).reverse.map (jTr G)) (rest := (st.drop n).map (jTr G)) hl9 (jSplit G st n) (by rw [cx.2.1]; exact hd)
  obtain ⟨t, d1, d2⟩ := jGo hG hN cx (by rw [cx.2.1]; exact hd) X₁ a1 a2 a3 a4 a5 a6 (by rw [show (T.setVm vm₁).heap = H from hT]; exact hH) hL hl hk2 hk3 h8 hfr hlo hnamed hkP hinitP hM hA
  exact ⟨t, hstep₁ _ fun acts => by rw [doInvoke_state]; exact d1, d2⟩
theorem jSplitR (G : jG) {st : List Value} {n a : Nat} {avs : List Value} (h : (st.take n).reverse = .ref a :: avs) : st.map (jTr G) = (avs.map (jTr G)).reverse ++ .ref (jB G + a) :: (st.drop n).map (jTr G) := by
  rw [jSplit G st n, h, List.map_cons, List.reverse_cons, List.append_assoc]
  rfl
theorem pIs_spec {av : List Value} {M : pMem} {ci : Nat} (h : pIs av M ci = true) : ∃ a avs fs, av = .ref a :: avs ∧ M a = some (.inr (ci, fs)) := by
  unfold pIs at h
  split at h
  · rename_i a avs
    unfold pIsO at h
    split at h
    · rename_i c fs e
      have h1 : c = ci := by simpa using h
      subst h1
      exact ⟨a, avs, fs, rfl, e⟩
    · cases h
  · cases h
theorem js_virtual (hG : jOk G) (hN : jNc G) {j k2 n ci : Nat} (hd : decode (pB k) pc = .ok (.invokevirtual j, 3)) (hj : pCa (pCl k) j = some (1, k2, n, ci)) (hlen : n ≤ st.length) (his : pIs (st.take n).reverse M ci = true) (hk2 : k2 < pNum) (hk3 : k2 ≠ pLaw) (h8 : pCat (st.drop n) ≤ 8) (hfr : pFr k2 + 1 ≤ pFr k) (hlo : 8 + (pN k2 + 11) + pLo k2 ≤ pLo k)
    (hM : jMet G k2 (st.take n).reverse M nx ok r1) (hA : jAft G k pc L (st.drop n) r1 r) : jW G k pc L st M nx ok r := by
  intro p e R s m args below meth c H locs cells slots ls tc ts cx a1 a2 a3 a4 a5 a6 hH hL hl
  have hW := cx.2.2.2.2.2.2.2.2.1
  obtain ⟨w, hw⟩ := pCa_ok hj
  simp only [pCaC, Bool.and_eq_true, decide_eq_true_eq] at hw
  obtain ⟨⟨⟨⟨⟨⟨w1, w2⟩, w3⟩, w4⟩, w5⟩, w6⟩, w7⟩ := hw
  obtain ⟨-, -, n3, n4⟩ := pNm hk2
  obtain ⟨a, avs, fs, e1, e2⟩ := pIs_spec his
  have hcw : (pCw k2).before args s = true := jWord hG hW (pCw_in hk2 hk3) (Or.inl (pCw_keeps k2))
  obtain ⟨mk, methM, hnamed, hmethM, hstM, habM⟩ := Cond.instanceMethod_spec (jWord hG hW (pAt_mem w2) (Or.inl rfl) (args := args))
  obtain ⟨methM', cM, hmethM', -, -, -, -, -, -, hsigM⟩ := pCw_spec hcw hnamed
  cases hmethM.symm.trans hmethM'
  obtain ⟨c2, r2, m2, q1, q2, q3, q4, kP, hkP, hkPi⟩ := Cond.selects_spec (jWord hG hW (pAt_mem w3) (Or.inl rfl) (args := args))
  obtain ⟨t1, -⟩ := pC_ok ci w6
  obtain ⟨cellB, hcB, hoB, hclB⟩ := va_recv (jKt hG hW) hH.1 t1 (hH.at e2)
  cases hclB.symm.trans q1
  cases (State.methodFound?_of_named hnamed ⟨n3, n4⟩).symm.trans q2
  cases hnamed.symm.trans q3
  have hinitP : kP.init = .initialized := Cond.initialized_spec (findClass_of_methodNamed hnamed) hkP (jWord hG hW (pAt_mem w4) (Or.inl rfl) (args := args))
  have hl9 : (avs.map (jTr G)).length = methM.sig.parameters.length := by
    rw [hsigM] at w5
    simp at w5
    have h9 : (st.take n).reverse.length = n := by simp; omega
    rw [e1] at h9
    simp at h9
    simp
    omega
  intro T hT X
  have hselP : selectMethod e.platform s.vm cellB.cls mk = .method mk := by rw [Launch.admits_selectMethod X.admits]; exact q4
  obtain ⟨vm₁, X₁, hstep₁⟩ := X.invokevirtual cx.1 cx.2.2.2.2.2.1 (jWord hG hW (pAt_mem w1) (Or.inl rfl)) hnamed hmethM hstM hkP hkPi ⟨n3, n4⟩ (a := jB G + a) (cell := cellB) (by rw [hT]; exact hcB)
    (fun z h => by rw [h] at hoB; cases hoB) hselP hmethM habM hkP hkPi (g := F0 m pc ls (st.map (jTr G))) rfl (argsL := avs.map (jTr G)) (rest := (st.drop n).map (jTr G)) hl9 (jSplitR G e1) (by rw [cx.2.1]; exact hd)
  obtain ⟨t, d1, d2⟩ := jGo hG hN cx (by rw [cx.2.1]; exact hd) X₁ a1 a2 a3 a4 a5 a6 (by rw [show (T.setVm vm₁).heap = H from hT]; exact hH) hL hl hk2 hk3 h8 hfr hlo hnamed hkP hinitP hM hA
  rw [e1] at d1
  exact ⟨t, hstep₁ _ fun acts => by rw [doInvoke_state]; exact d1, d2⟩
theorem js_ctor (hG : jOk G) (hN : jNc G) {j k2 n ci : Nat} (hd : decode (pB k) pc = .ok (.invokespecial j, 3)) (hj : pCa (pCl k) j = some (2, k2, n, ci)) (hlen : n ≤ st.length) (his : pIs (st.take n).reverse M ci = true) (hk2 : k2 < pNum) (hk3 : k2 ≠ pLaw) (h8 : pCat (st.drop n) ≤ 8) (hfr : pFr k2 + 1 ≤ pFr k) (hlo : 8 + (pN k2 + 11) + pLo k2 ≤ pLo k)
    (hM : jMet G k2 (st.take n).reverse M nx ok r1) (hA : jAft G k pc L (st.drop n) r1 r) : jW G k pc L st M nx ok r := by
  intro p e R s m args below meth c H locs cells slots ls tc ts cx a1 a2 a3 a4 a5 a6 hH hL hl
  have hW := cx.2.2.2.2.2.2.2.2.1
  obtain ⟨w, hw⟩ := pCa_ok hj
  simp only [pCaC, Bool.and_eq_true, decide_eq_true_eq] at hw
  obtain ⟨⟨⟨⟨⟨⟨⟨w1, w2⟩, w4⟩, w5⟩, w6⟩, w7⟩, w8⟩, w9⟩ := hw
  obtain ⟨-, -, n3, n4⟩ := pNm hk2
  obtain ⟨a, avs, fs, e1, e2⟩ := pIs_spec his
  have hcw : (pCw k2).before args s = true := jWord hG hW (pCw_in hk2 hk3) (Or.inl (pCw_keeps k2))
  have hcode : (Cond.code (pY k2) (pB k2) (pN k2) none).before args s = true := by
    unfold pCw at hcw
    rw [w8, w9] at hcw
    exact hcw
  have hlen9 : ∀ sig, parseMethodDescriptor (pY k2).desc = some sig → (avs.map (jTr G)).length = sig.parameters.length := by
    intro sig hs
    rw [hs] at w5
    simp at w5
    have h9 : (st.take n).reverse.length = n := by simp; omega
    rw [e1] at h9
    simp at h9
    simp
    omega
  intro T hT X
  have hpl : e.platform.magicAccessors = ({} : Platform).magicAccessors := by rw [X.admits.platform]
  obtain ⟨mk, methM, cM, kP, vm₁, hnamed, hmethM, hcodeM, -, hlocalsM, -, hkP, -, hW₁, hstep₁⟩ := Steps.initColdArgs (e := e) X.here cx.1 X.warmed hpl cx.2.2.2.2.2.1 w6 ⟨n3, n4⟩ (jWord hG hW (pAt_mem w1) (Or.inl rfl)) (jWord hG hW (pAt_mem w2) (Or.inl rfl)) hcode (f := F0 m pc ls (st.map (jTr G))) rfl hlen9 (jSplitR G e1) (by rw [cx.2.1]; exact hd)
  have X₁ := X.noted hW₁
  have hinitP : kP.init = .initialized := Cond.initialized_spec (findClass_of_methodNamed hnamed) hkP (jWord hG hW (pAt_mem w4) (Or.inl rfl) (args := args))
  obtain ⟨t, d1, d2⟩ := jGo hG hN cx (by rw [cx.2.1]; exact hd) X₁ a1 a2 a3 a4 a5 a6 (by rw [show (T.setVm vm₁).heap = H from hT]; exact hH) hL hl hk2 hk3 h8 hfr hlo hnamed hkP hinitP hM hA
  rw [e1] at d1
  exact ⟨t, hstep₁ _ fun acts => by rw [doInvoke_state]; exact d1, d2⟩
theorem js_ctorN (hG : jOk G) (hN : jNc G) {j k2 n ci : Nat} (hd : decode (pB k) pc = .ok (.invokespecial j, 3)) (hj : pCa (pCl k) j = some (6, k2, n, ci)) (hlen : n ≤ st.length) (his : pIs (st.take n).reverse M ci = true) (hk2 : k2 < pNum) (hk3 : k2 ≠ pLaw) (h8 : pCat (st.drop n) ≤ 8) (hfr : pFr k2 + 1 ≤ pFr k) (hlo : 8 + (pN k2 + 11) + pLo k2 ≤ pLo k)
    (hM : jMet G k2 (st.take n).reverse M nx ok r1) (hA : jAft G k pc L (st.drop n) r1 r) : jW G k pc L st M nx ok r := by
  intro p e R s m args below meth c H locs cells slots ls tc ts cx a1 a2 a3 a4 a5 a6 hH hL hl
  have hW := cx.2.2.2.2.2.2.2.2.1
  obtain ⟨w, hw⟩ := pCa_ok hj
  simp only [pCaC, Bool.and_eq_true, decide_eq_true_eq] at hw
  obtain ⟨⟨⟨⟨⟨⟨⟨w1, w2⟩, w4⟩, w5⟩, w6⟩, w7⟩, w8⟩, w9⟩ := hw
  obtain ⟨-, -, n3, n4⟩ := pNm hk2
  obtain ⟨a, avs, fs, e1, e2⟩ := pIs_spec his
  have hcw : (pCw k2).before args s = true := jWord hG hW (pCw_in hk2 hk3) (Or.inl (pCw_keeps k2))
  have hcode : (Cond.code (pY k2) (pB k2) (pN k2) none).before args s = true := by
    unfold pCw at hcw
    rw [w8, w9] at hcw
    exact hcw
  have hlen9 : ∀ sig, parseMethodDescriptor (pY k2).desc = some sig → (avs.map (jTr G)).length = sig.parameters.length := by
    intro sig hs
    rw [hs] at w5
    simp at w5
    have h9 : (st.take n).reverse.length = n := by simp; omega
    rw [e1] at h9
    simp at h9
    simp
    omega
  intro T hT X
  have hpl : e.platform.magicAccessors = ({} : Platform).magicAccessors := by rw [X.admits.platform]
  obtain ⟨mk, methM, cM, kP, vm₁, hnamed, hmethM, hcodeM, -, hlocalsM, -, hkP, -, hW₁, hstep₁⟩ := Steps.initColdArgsNest (e := e) X.here cx.1 X.warmed hpl cx.2.2.2.2.2.1 w6 ⟨n3, n4⟩ (va_Nw.use rfl (va_Nw.warmM hW (va_Nw.of rfl (hG.1 _ (pAt_mem w1))))) (jWord hG hW (pAt_mem w2) (Or.inl rfl)) hcode (f := F0 m pc ls (st.map (jTr G))) rfl hlen9 (jSplitR G e1) (by rw [cx.2.1]; exact hd)
  have X₁ := X.noted hW₁
  have hinitP : kP.init = .initialized := Cond.initialized_spec (findClass_of_methodNamed hnamed) hkP (jWord hG hW (pAt_mem w4) (Or.inl rfl) (args := args))
  obtain ⟨t, d1, d2⟩ := jGo hG hN cx (by rw [cx.2.1]; exact hd) X₁ a1 a2 a3 a4 a5 a6 (by rw [show (T.setVm vm₁).heap = H from hT]; exact hH) hL hl hk2 hk3 h8 hfr hlo hnamed hkP hinitP hM hA
  rw [e1] at d1
  exact ⟨t, hstep₁ _ fun acts => by rw [doInvoke_state]; exact d1, d2⟩
end JIR
