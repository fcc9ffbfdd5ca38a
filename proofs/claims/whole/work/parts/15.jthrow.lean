/-! THE ROW OF A THROW -/
def jTh (G : jG) : Prop := vx_Zq Bundle.tN "UNASSIGNED_STACK" Bundle.steD (fun q => jB G ≤ q) G.s G.s.heap ∧ vx_Zq Bundle.tN "SUPPRESSED_SENTINEL" Bundle.listD (fun q => jB G ≤ q) G.s G.s.heap
theorem jWordC {G : jG} (hG : jOk G) {s : State} {args : Array Value} (hW : G.s.WarmedH s.vm) {w : Jvm.Cond} (hw : w ∈ lw_tbl) (hk : jKc w = true) : w.before args s = true := by
  simp only [jKc, Bool.and_eq_true] at hk
  exact va_tabs hk.1 (rfl : (G.s.setVm s.vm).vm = s.vm) (Cond.before_shiftedCast (State.Shifted.of_warmed hW) w hk.2 (hG.1 w hw))
theorem jZq {G : jG} {C n d : String} {H : Heap} {s' : State} (h : vx_Zq C n d (fun q => jB G ≤ q) G.s G.s.heap) (hW : G.s.WarmedH s'.vm) (hO : jOld G H) (hh : s'.heap = H) : vx_Zq C n d (fun q => jB G ≤ q) s' s'.heap := by
  rw [hh]
  exact vx_Zq.moved hW.alike (h.kept fun a ha _ => hO.2 a ha)
section JTH
variable {G : jG} {k pc : Nat} {L st : List Value} {M : pMem} {nx : Nat} {ok : Bool}
set_option maxHeartbeats 4000000 in
theorem js_throw (hG : jOk G) (hTh : jTh G) {ex : Nat} (ht : pTh k pc = some ex) (hc : pCat st ≤ 8) (hf : 6 ≤ pFr k) (hlo : 90 ≤ pLo k) : jW G k pc L st M nx ok (.inr ex, M, nx, false, 1, 6) := by
  obtain ⟨ik, is, ic, ix, tx, bytes, d0, d3, dd, hfit, w1, w2, w3, hall, hx0, c0, c1, c2, c5⟩ := pTh_ok ht
  intro p e R s m args below meth c H locs cells slots ls tc ts cx a1 a2 a3 a4 a5 a6 hH hL hl
  have b3 : cells + 1 ≤ tc := a3
  have b5 : slots + 6 ≤ ts := a5
  have hb := cx.2.1
  have hown := cx.2.2.2.2.2.1
  have hlocks := cx.2.2.2.2.1
  have hWs := cx.2.2.2.2.2.2.2.2.1
  have hsize : ls.size = c.maxLocals := by rw [cx.2.2.1]; exact hL.1
  have hout : ∀ (x : ExceptionTableEntry), x ∈ c.exceptionTable.toList → ∀ q, covers x q = false := by
    have h1 := cx.2.2.2.2.2.2.2.1
    rw [hx0] at h1
    have h2 : c.exceptionTable.toList = [] := List.map_eq_nil_iff.mp h1
    intro x hx
    rw [h2] at hx
    cases hx
  intro T hT X
  have htr : e.platform.stackTraces = false := (show e.platform.stackTraces = G.l.stackTraces by rw [X.admits.platform]).trans hG.2.2.2.2.2
  have Y := vx_rebase X (R' := { frames := R.frames, locals := R.locals, cells := 1, slots := 6 }) (Nat.le_refl _) (Nat.le_refl _) (show cells + 1 ≤ R.cells by omega) (show slots + 6 ≤ R.slots by omega)
  obtain ⟨s', hA⟩ : ∃ z, z = (T.setVm s.vm).setFrames (.invoking m args :: below) := ⟨_, rfl⟩
  rw [← hA] at Y
  have hvm : s'.vm = s.vm := by rw [hA]; rfl
  have hhp : s'.heap = H := by rw [hA]; exact hT
  have hW0 : s.WarmedH s'.vm := by rw [hvm]; exact State.WarmedH.refl s
  have hWG : G.s.WarmedH s'.vm := by rw [hvm]; exact hWs
  have hU' := jZq hTh.1 hWG hH.2.1 hhp
  have hN' := jZq hTh.2 hWG hH.2.1 hhp
  have h : ∀ w ∈ jAt (pCn (pCl k)) ic (pXn ex) ix bytes, w.before args s' = true := by
    refine vx_own (fun w hw => ?_) (vx_isRefq hU'.1) (vx_isRefq hN'.1) hU'.2.word hN'.2.word
    have h1 := List.all_eq_true.mp hall w hw
    simp only [Bool.and_eq_true, decide_eq_true_eq] at h1
    exact jWordC hG hWG h1.1 h1.2
  have hown' : s'.vm.findClass (pCn (pCl k)) = some m.cls := by rw [hvm]; exact hown
  have hins : (Cond.instantiable (pXn ex) 6).before args s' = true := h _ (by simp [jAt])
  obtain ⟨vm₁, cX, kX, hfX, hkX, -, -, X₁, st1⟩ := Y.newCold cx.1 (own := pCn (pCl k)) (C := pXn ex) (index := ik) (n := 6) hown' (jWord hG hWG w1 (Or.inl rfl)) hins (jWord hG hWG w2 (Or.inl rfl))
    (g := F0 m pc ls (st.map (jTr G))) rfl (by rw [hb]; exact d0) (Nat.le_refl _) (Nat.le_refl _)
  generalize hT1 : (T.setVm vm₁).pushCell { cls := cX, slots := kX.instanceTypes.map defaultValue, vm := .none } = T1 at X₁ st1
  have hcat : (Value.ref T.heap.size).category = 1 := rfl
  have hcellA : T1.heap[T.heap.size]? = some (freshCell cX kX) := by rw [← hT1]; exact State.heap_pushCell_size _ _
  have d3' : decode c.code (pc + 3) = .ok (.dup, 1) := by rw [hb]; exact d3
  obtain ⟨-, -, -, sa, -, -, -, -, -, hev⟩ := Cond.stringRef_spec (show G.s.vm.findClass (pCn (pCl k)) = some m.cls by rw [← hWG.alike.findClass]; exact hown') (hG.1 _ w3)
  have hstr' : vk_R (pCn (pCl k)) is tx sa s' := vk_R.warm hWG (vk_R.of (hG.1 _ w3) hev)
  have fin : ∀ (g : JFrame), g.method = m → g.locals.size = c.maxLocals → g.locked = none → g.entered = [] → g.monitorRoom = 0 → g.stack = .ref sa :: .ref T.heap.size :: .ref T.heap.size :: st.map (jTr G) → decode c.code g.pc = .ok (.invokespecial ic, 3) → decode c.code (g.pc + 3) = .ok (.athrow, 1) →
      Steps p.tables e below (T.setTop (F0 m pc ls (st.map (jTr G)))) (T1.setTop g) → ∃ t, Steps p.tables e below (T.setTop (F0 m pc ls (st.map (jTr G)))) t ∧ jEnd G below s (.inr ex, M, nx, false, 1, 6) tc ts t := by
    intro g g1 g2 g3 g4 g5 g6 g7 g8 hst
    obtain ⟨U, hsteps, hrun, hend, hW, hsame, ce, hce, hv0, hcl⟩ := jCtor X₁ cx.1 htr (own := pCn (pCl k)) (cls := pXn ex) (ix := ix) (ic := ic) (bytes := bytes) hown' hfit c0 c1 c2 c5 h (fun x hx => nomatch hx) hfX hkX hcellA (by rw [hhp, hT]; exact Nat.le_refl _) (msg := .ref sa) rfl
      (g := g) g1 g2 g3 g4 (rest := st.map (jTr G)) g6 g7 g8 (fun x hx => hout x hx _) (show 5 < R.frames by omega)
      (by
        show 2 * g.monitorRoom + ((Value.ref T.heap.size :: st.map (jTr G)).map fun v => v.category).sum + 81 ≤ R.locals
        rw [g5, List.map_cons, List.sum_cons, pCat_sum, hcat]
        omega) hlocks
    obtain ⟨f1, f2⟩ := vx_frame hsame
    rw [hhp] at f1 f2
    have hWU : s.WarmedH U.vm := State.WarmedH.trans hW0 hW
    have hall9 : s.sameButNew ({ U with vm := s.vm } : State) locs tc ts := by
      subst hA
      obtain ⟨e1, e2⟩ := hsame
      rw [State.setFrames_setFrames] at e1
      have h2 : (T.setVm s.vm).sameButNew ({ U with vm := s.vm } : State) [] (0 + 1) (0 + 6) := ⟨e1, e2⟩
      have h3 := X.same.trans h2
      rw [List.append_nil] at h3
      exact h3.mono (by omega) (by omega)
    refine ⟨U, hst.trans hsteps, .threw T.heap.size, hrun, hend, ⟨hH.more f1 (fun q hq => f2 q hq (fun z hz => nomatch hz)), T.heap.size, ce, rfl, hce, by rw [hv0]; rfl, ?_⟩, hWU, locs, hall9, hl⟩
    rw [← hWG.alike.findClass]
    exact hcl
  have stD : ∀ tg, Steps p.tables e below (T1.setTop { method := m, pc := pc + 4, locals := ls, stack := .ref T.heap.size :: .ref T.heap.size :: st.map (jTr G), locked := none }) tg → Steps p.tables e below (T1.setTop { method := m, pc := pc + 3, locals := ls, stack := .ref T.heap.size :: st.map (jTr G), locked := none }) tg := by
    intro tg htg
    jvm_step X₁.here [X₁.here.top, cx.1, d3', Value.category]
    exact htg
  rcases dd with ⟨d4, d6, d9⟩ | ⟨d4, d7, d10⟩
  · refine fin { method := m, pc := pc + 6, locals := ls, stack := .ref sa :: .ref T.heap.size :: .ref T.heap.size :: st.map (jTr G), locked := none } rfl hsize rfl rfl rfl rfl (by rw [hb]; exact d6) (by rw [hb]; exact d9) ?_
    refine st1 _ ?_
    refine stD _ ?_
    exact X₁.ldcString cx.1 (own := pCn (pCl k)) (text := tx) (index := is) (a := sa) hown' hstr'.1 hstr'.2
      (g := { method := m, pc := pc + 4, locals := ls, stack := .ref T.heap.size :: .ref T.heap.size :: st.map (jTr G), locked := none }) rfl (by rw [hb]; exact d4) _ (Steps.refl _)
  · refine fin { method := m, pc := pc + 7, locals := ls, stack := .ref sa :: .ref T.heap.size :: .ref T.heap.size :: st.map (jTr G), locked := none } rfl hsize rfl rfl rfl rfl (by rw [hb]; exact d7) (by rw [hb]; exact d10) ?_
    refine st1 _ ?_
    refine stD _ ?_
    exact X₁.ldcStringW cx.1 (own := pCn (pCl k)) (text := tx) (index := is) (a := sa) hown' hstr'.1 hstr'.2
      (g := { method := m, pc := pc + 4, locals := ls, stack := .ref T.heap.size :: .ref T.heap.size :: st.map (jTr G), locked := none }) rfl (by rw [hb]; exact d4) _ (Steps.refl _)
end JTH
