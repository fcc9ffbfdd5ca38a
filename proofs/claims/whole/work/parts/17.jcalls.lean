/-! METHODS AND CALLS -/
def jRm (k kc ks : Nat) : Room := { frames := pFr k, cells := kc, slots := ks, locals := pLo k }
theorem pCw_spec {k : Nat} {args : Array Value} {s : State} {m : MethodId} (h : (pCw k).before args s = true) (hn : s.methodNamed? (pY k) = some m) : ∃ meth c, s.vm.method? m = some meth ∧ meth.code = some c ∧ c.code = pB k ∧ c.maxLocals = pN k ∧ meth.sig.returnType = pR k ∧ meth.locks = false ∧ c.exceptionTable.toList.map (fun h => (h.startPc, h.endPc, h.handlerPc, h.catchType)) = pHx k ∧ parseMethodDescriptor (pY k).desc = some meth.sig := by
  unfold pCw at h
  split at h
  · rename_i e0
    obtain ⟨meth, c, h1, h2, h3, h4, h5, h6, h7, h8⟩ := Cond.code_spec hn h
    refine ⟨meth, c, h1, h2, h3, h4, h5, h6, ?_, h8⟩
    have h0 : c.exceptionTable.size = 0 := by simpa [Array.isEmpty] using h7
    have h9 : c.exceptionTable.toList = [] := List.eq_nil_of_length_eq_zero (by simpa using h0)
    rw [e0, h9]
    rfl
  · rename_i a t e0
    obtain ⟨m', meth, c, g1, h1, h2, h3, h4, h5, h6, h7, h8⟩ := Cond.codeWith_spec h
    cases hn.symm.trans g1
    exact ⟨meth, c, h1, h2, h3, h4, h6, h7, by rw [h5, e0], h8⟩
theorem pCw_keeps (k : Nat) : ((pCw k).onTables && (pCw k).keeps) = true := by
  unfold pCw
  split <;> first | rfl | simp [Jvm.Cond.onTables, Jvm.Cond.keeps, Jvm.Cond.steady]
def pLaw : Nat := 197
def pNum : Nat := 201
theorem pNm {k : Nat} (h : k < pNum) : (pY k).cls = pCn (pCl k) ∧ plainName (pY k).cls = true ∧ (pY k).cls ≠ "java/lang/invoke/MethodHandle" ∧ (pY k).cls ≠ "java/lang/invoke/VarHandle" := by
  have h1 := List.all_eq_true.mp pCn_chk k (List.mem_range.mpr h)
  simp only [Bool.and_eq_true, decide_eq_true_eq] at h1
  exact ⟨h1.1.1.1, h1.1.1.2, h1.1.2, h1.2⟩
def jPre (G : jG) (av : List Value) (M : pMem) (nx : Nat) (ok : Bool) : Array Value → State → Prop := fun a U => a = (av.map (jTr G)).toArray ∧ G.s.WarmedH U.vm ∧ jH G M nx ok U.heap
def jPost (G : jG) (r : pRes) : Array Value → State → Outcome → State → Prop := fun _ st o t => jOut G r o t ∧ st.WarmedH t.vm ∧ ∃ Lc, st.sameButNew ({ t with vm := st.vm } : State) Lc r.2.2.2.2.1 r.2.2.2.2.2 ∧ ∀ q ∈ Lc, jB G ≤ q.base
def jMet (G : jG) (k : Nat) (av : List Value) (M : pMem) (nx : Nat) (ok : Bool) (r : pRes) : Prop := MetFree G.l (pY k) (headSpec [pCw k] (jRm k r.2.2.2.2.1 r.2.2.2.2.2)) (jPre G av M nx ok) (fun _ _ _ _ _ => True) (jPost G r)
theorem jMet_of {G : jG} {k : Nat} {av : List Value} {M : pMem} {nx : Nat} {ok : Bool} {r : pRes} (hk : k < pNum) (hn : (pArgs av).length ≤ pN k) (h : jW G k 0 (pEnt k av) [] M nx ok r) : jMet G k av M nx ok r := by
  obtain ⟨n1, n2, n3, n4⟩ := pNm hk
  refine MetFree.of_bodyS (code := pB k) (maxLocals := pN k) (ret := pR k) n2 ?_ ?_
  · intro args s m hp hnm
    obtain ⟨meth, c, h1, h2, h3, h4, h5, h6, -, -⟩ := pCw_spec (atoms_spec (ws := [pCw k]) hp _ List.mem_cons_self) hnm
    exact ⟨meth, c, h1, h2, h3, h4, h5, h6⟩
  · intro p e s m args below meth c s₁ B hml hP _
    obtain ⟨rfl, hW, hH⟩ := hP
    obtain ⟨meth', c', h1, h2, h3, h4, h5, h6, h7, -⟩ := pCw_spec (atoms_spec (ws := [pCw k]) B.pre _ List.mem_cons_self) B.named
    cases B.method.symm.trans h1
    have X₀ := Stand.of_body B
    cases X₀.code.symm.trans h2
    have hh0 : s₁.heap = s.heap := by rw [B.state]; rfl
    have cx : jCx G k p s m meth c := ⟨B.exec, B.bytes, hml, B.returns, B.notSynchronized, by rw [← n1]; exact findClass_of_methodNamed B.named, (name_of_methodNamed B.named B.method).1, h7, hW, hH.2.1⟩
    have K := h p e (jRm k r.2.2.2.2.1 r.2.2.2.2.2) s m (av.map (jTr G)).toArray below meth c s.heap [] 0 0 _ r.2.2.2.2.1 r.2.2.2.2.2 cx (Nat.le_refl _) (Nat.le_refl _) (by omega) (Nat.le_refl _) (by omega) (Nat.le_refl _) hH (jEnt hn) (fun q hq => by cases hq)
    obtain ⟨t, a1, o, b1, b2, b3, b4, Lc, b5, b6⟩ := K s₁ hh0 X₀
    rw [lg_entry_eq]
    exact ⟨t, o, a1, b1, b2, b3, b4, Lc, b5, b6⟩
/-- the five exceptions aren't one another -/
def jNc (G : jG) : Prop := ∀ x y, x < 5 → y < 5 → x ≠ y → va_Nc (pXn x) (pXn y) G.s
theorem jL.st1d {G : jG} {L : List Value} {ls' : Array Slot} {n i : Nat} {v : Value} (h : lv_has ls' n ((i, v) :: (jLs G L).filter (fun q => !(q.1 == i) && !(q.1 + 1 == i && q.2.category == 2)))) : jL G (pSt1 L i pDum) ls' n := by
  refine ⟨h.1, h.2.1, fun q hq => h.2.2 q ?_⟩
  obtain ⟨u, h1, h2, h3⟩ := jLs_mem.mp hq
  obtain ⟨j, w⟩ := q
  simp only at h1 h3
  subst h3
  unfold pSt1 at h1
  by_cases e : j = i
  · subst e
    exact absurd (pSet_self h1) h2
  · rw [List.getElem?_set_ne (by omega)] at h1
    obtain ⟨h4, h5⟩ := pKill_get h1 h2
    refine List.mem_cons_of_mem _ (List.mem_filter.mpr ⟨jLs_mem.mpr ⟨u, h4, h2, rfl⟩, ?_⟩)
    have e1 : (j == i) = false := by simpa using e
    simp only [e1, Bool.not_false, Bool.true_and, jTr_cat]
    by_cases e2 : j + 1 = i
    · simp [h5 e2]
    · have e3 : (j + 1 == i) = false := by simpa using e2
      simp [e3]
/-- what follows a call that ended as r1 -/
def jAft (G : jG) (k pc : Nat) (L st : List Value) (r1 r : pRes) : Prop := match r1.1 with
  | .inl v => ∃ r2, r = pAdd r1.2.2.2.2.1 r1.2.2.2.2.2 r2 ∧ jW G k (pc + 3) L (v.toList ++ st) r1.2.1 r1.2.2.1 r1.2.2.2.1 r2
  | .inr ex => (pHx k = [] ∧ r = r1) ∨ ∃ q r2, pHd k pc ex = some q ∧ r = pAdd r1.2.2.2.2.1 r1.2.2.2.2.2 r2 ∧ jW G k q.1 (pSt1 L q.2 pDum) [] r1.2.1 r1.2.2.1 r1.2.2.2.1 r2
/-- a list whose picture is split is split -/
theorem pSplit {α β : Type} (f : α → β) : ∀ (l : List α) (ys : List β) (i : Nat) (y : β), l.map f = ys → ys[i]? = some y → ∃ pre x suf, l = pre ++ x :: suf ∧ f x = y ∧ pre.map f = ys.take i := by
  intro l
  induction l with
  | nil => intro ys i y h h1; subst h; simp at h1
  | cons a t ih =>
    intro ys i y h h1
    subst h
    cases i with
    | zero =>
      simp at h1
      exact ⟨[], a, t, rfl, h1, rfl⟩
    | succ i =>
      simp at h1
      obtain ⟨pre, x, suf, e1, e2, e3⟩ := ih (t.map f) i y rfl (by simpa using h1)
      exact ⟨a :: pre, x, suf, by rw [e1]; rfl, e2, by simp [e3]⟩
section JCC
variable {G : jG} {k pc : Nat} {L st : List Value}
variable {p : Program} {e : Env} {R : Room} {s : State} {m : MethodId} {args : Array Value} {below : List Frame} {meth : Method} {c : Code}
theorem jCatch (hG : jOk G) (hN : jNc G) {ex : Nat} {q : Nat × Nat} {r2 : pRes} {M : pMem} {nx : Nat} {ok : Bool} {V : State} {locs : List Loc} {cells slots tc ts : Nat} {ls : Array Slot} {a : Addr} {cell : Cell} (cx : jCx G k p s m meth c) (hq : pHd k pc ex = some q) (XV : Stand p G.l e R s m args below meth c V locs cells slots)
    (a1 : pFr k ≤ R.frames) (a2 : pLo k ≤ R.locals) (a3 : cells + r2.2.2.2.2.1 ≤ tc) (a4 : tc ≤ R.cells) (a5 : slots + r2.2.2.2.2.2 ≤ ts) (a6 : ts ≤ R.slots) (hH : jH G M nx ok V.heap) (hL : jL G L ls (pN k)) (hl : ∀ q ∈ locs, jB G ≤ q.base)
    (hcell : V.heap[a]? = some cell) (hobj : cell.vm.isStatics = false) (hcl : G.s.vm.findClass (pXn ex) = some cell.cls) (h : jW G k q.1 (pSt1 L q.2 pDum) [] M nx ok r2) {stk : List Value} :
    ∃ t, Steps p.tables e below ((V.setTop (F0 m pc ls stk)).pushFrame (.throwing a)) t ∧ jEnd G below s r2 tc ts t := by
  obtain ⟨i, hi⟩ := pHd_ok hq
  have hW := cx.2.2.2.2.2.2.2.2.1
  unfold pHiC at hi
  simp only at hi
  split at hi
  · rename_i b1 b2 hh ct e0
    simp only [Bool.and_eq_true, decide_eq_true_eq] at hi
    obtain ⟨⟨⟨⟨⟨⟨⟨⟨g0, g1⟩, g2⟩, g3⟩, g4⟩, g5⟩, g6⟩, g7⟩, g8⟩ := hi
    obtain ⟨pre, x, suf, s1, s2, s3⟩ := pSplit _ _ _ _ _ cx.2.2.2.2.2.2.2.1 e0
    have hx : (x.startPc = b1 ∧ x.endPc = b2) ∧ x.handlerPc = hh ∧ x.catchType = ct := by simpa [and_assoc] using s2
    obtain ⟨⟨x1, x2⟩, x3, x4⟩ := hx
    have hclS : s.vm.findClass (pXn ex) = some cell.cls := by rw [hW.alike.findClass]; exact hcl
    have hpl : e.platform.magicAccessors = ({} : Platform).magicAccessors := by rw [XV.admits.platform]
    have hown := cx.2.2.2.2.2.1
    obtain ⟨c3, c4, hc3, hc4, hasg⟩ := Cond.castable_spec (jWordC hG hW g5 rfl (args := args))
    cases Option.some.inj (hc3.symm.trans hclS)
    obtain ⟨c5, hc5, hcl5⟩ := Cond.classLink_spec hown (jWord hG hW g4 (Or.inl rfl) (args := args)) e.platform hpl
    cases Option.some.inj (hc4.symm.trans hc5)
    obtain ⟨vm', X', st1⟩ := XV.thenCaughtThrough a (g := F0 m pc ls stk) rfl (Steps.refl _) hcell hobj (by obtain ⟨k9, h9, -⟩ := Vm.findClass_spec hclS; exact ⟨k9, h9⟩) pre x suf s1
      (fun z hz => by
        have hz1 : (z.startPc, z.endPc, z.handlerPc, z.catchType) ∈ (pHx k).take i := by rw [← s3]; exact List.mem_map.mpr ⟨z, hz, rfl⟩
        have hz2 := List.all_eq_true.mp g0 _ hz1
        simp only [Bool.or_eq_true, Bool.not_eq_true', Bool.and_eq_true, decide_eq_true_eq] at hz2
        rcases hz2 with hz2 | ⟨hz2, hz3⟩
        · exact Or.inl hz2
        · obtain ⟨y, hy1, hy2⟩ := List.any_eq_true.mp hz3
          simp only [Bool.and_eq_true, decide_eq_true_eq] at hy2
          obtain ⟨c6, hc6, hcl6⟩ := Cond.classLink_spec hown (jWord hG hW hy2.2 (Or.inl rfl) (args := args)) e.platform hpl
          obtain ⟨a8, b8, k1, k2, k3⟩ := (hN ex y g7 (List.mem_range.mp hy1) (fun z => hy2.1 z.symm)).moved hW.alike
          cases Option.some.inj (k1.symm.trans hclS)
          cases Option.some.inj (k2.symm.trans hc6)
          exact Or.inr ⟨hz2, _, hcl6, k3⟩)
      (by simp [covers, x1, x2, g1, g2]) (Or.inr ⟨by rw [x4]; exact g3, c4, by rw [x4]; exact hcl5, hasg⟩)
    have hb := cx.2.1
    have K : W p G.l e R s m args below meth c V.heap locs cells slots (jEnd G below s r2 tc ts) (F0 m hh ls [.ref a]) := by
      rcases (Bool.or_eq_true _ _).mp g8 with g8 | g8
      · simp only [Bool.and_eq_true, decide_eq_true_eq] at g8
        refine lv_astore cx.1 hb g8.2 hL g6 rfl fun ls' hL' => ?_
        rw [← g8.1]
        exact h p e R s m args below meth c V.heap locs cells slots ls' tc ts cx a1 a2 a3 a4 a5 a6 hH (jL.st1d hL') hl
      · obtain ⟨n, hn1, hn2⟩ := List.any_eq_true.mp g8
        simp only [Bool.and_eq_true, decide_eq_true_eq] at hn2
        obtain ⟨⟨rfl, hn3⟩, hn4⟩ := hn2
        have hn5 := List.mem_range.mp hn1
        refine lv_astore_n cx.1 hb hn4 (show ((Fin.ofNat 4 q.2 : Fin 4) : Nat) = q.2 from Nat.mod_eq_of_lt hn5) hL g6 rfl fun ls' hL' => ?_
        rw [← hn3]
        exact h p e R s m args below meth c V.heap locs cells slots ls' tc ts cx a1 a2 a3 a4 a5 a6 hH (jL.st1d hL') hl
    obtain ⟨t, d1, d2⟩ := K (V.setVm vm') rfl X'
    rw [x3] at st1
    exact ⟨t, st1.trans d1, d2⟩
  · cases hi
end JCC
