/-! ROWS OF THE HEAP, FURTHER: arrays, the script, constants, new objects and arrays, answers, library calls -/
theorem pCat_sum (G : jG) (st : List Value) : ((st.map (jTr G)).map fun v => v.category).sum = pCat st := by
  induction st with
  | nil => rfl
  | cons v t ih =>
    simp only [List.map_cons, List.sum_cons, pCat, jTr_cat]
    rw [← ih]
section JA
variable {G : jG} {k pc : Nat} {L st : List Value} {M : pMem} {nx : Nat} {ok : Bool} {r : pRes}
theorem js_iaload (hG : jOk G) {a n : Nat} {i : Int32} {f : Nat → Int32} (hd : decode (pB k) pc = .ok (.iaload, 1)) (hM : M a = some (.inl (0, n, .inl f))) (hin : pIn i n = true) (h : jW G k (pc + 1) L (.int (f i.toNatClampNeg) :: st) M nx ok r) : jW G k pc L (.int i :: .ref a :: st) M nx ok r :=
  fun p e R s m args below meth c H locs cells slots ls tc ts cx a1 a2 a3 a4 a5 a6 hH hL hl => va_iald cx.1 cx.2.1 (jKt hG cx.2.2.2.2.2.2.2.2.1) hH.1 a 0 (hH.at hM) rfl (pIn_in hin) hd (h p e R s m args below meth c H locs cells slots ls tc ts cx a1 a2 a3 a4 a5 a6 hH hL hl)
theorem js_baload (hG : jOk G) {a n : Nat} {i : Int32} {f : Nat → Int32} (hd : decode (pB k) pc = .ok (.baload, 1)) (hM : M a = some (.inl (2, n, .inl f))) (hin : pIn i n = true) (h : jW G k (pc + 1) L (.int (f i.toNatClampNeg) :: st) M nx ok r) : jW G k pc L (.int i :: .ref a :: st) M nx ok r :=
  fun p e R s m args below meth c H locs cells slots ls tc ts cx a1 a2 a3 a4 a5 a6 hH hL hl => va_zald cx.1 cx.2.1 (jKt hG cx.2.2.2.2.2.2.2.2.1) hH.1 a 2 (hH.at hM) rfl (pIn_in hin) hd (h p e R s m args below meth c H locs cells slots ls tc ts cx a1 a2 a3 a4 a5 a6 hH hL hl)
theorem js_laload (hG : jOk G) {a n : Nat} {i : Int32} {f : Nat → Int64} (hd : decode (pB k) pc = .ok (.laload, 1)) (hM : M a = some (.inl (1, n, .inr (.inl f)))) (hin : pIn i n = true) (h : jW G k (pc + 1) L (.long (f i.toNatClampNeg) :: st) M nx ok r) : jW G k pc L (.int i :: .ref a :: st) M nx ok r :=
  fun p e R s m args below meth c H locs cells slots ls tc ts cx a1 a2 a3 a4 a5 a6 hH hL hl => va_lald cx.1 cx.2.1 (jKt hG cx.2.2.2.2.2.2.2.2.1) hH.1 a 1 (hH.at hM) rfl (pIn_in hin) hd (h p e R s m args below meth c H locs cells slots ls tc ts cx a1 a2 a3 a4 a5 a6 hH hL hl)
theorem jScr {G : jG} {H : Heap} {s : State} (hG : jOk G) (hW : G.s.WarmedH s.vm) (hO : jOld G H) : ∃ scr : Cell, H[G.b]? = some scr ∧ s.isArrayOf scr .int ∧ scr.vm ≠ .unknown ∧ scr.slots.size = G.X.1 ∧ ∀ j : Nat, j < G.X.1 → scr.slots[j]? = some (.int (G.X.2 j)) := by
  obtain ⟨scr, h1, h2, h3⟩ := va_X.moved hW.alike hG.2.2.1
  exact ⟨scr, by rw [hO.2 G.b hG.2.2.2.1]; exact h1, h2, h3⟩
theorem js_sald (hG : jOk G) {i : Int32} (hd : decode (pB k) pc = .ok (.iaload, 1)) (hin : pIn i G.X.1 = true) (h : jW G k (pc + 1) L (.int (G.X.2 i.toNatClampNeg) :: st) M nx ok r) : jW G k pc L (.int i :: .retAddr 0 :: st) M nx ok r := by
  intro p e R s m args below meth c H locs cells slots ls tc ts cx a1 a2 a3 a4 a5 a6 hH hL hl
  obtain ⟨scr, h1, h2, h3, h4, h5⟩ := jScr hG cx.2.2.2.2.2.2.2.2.1 hH.2.1
  have hi := pIn_in hin
  have hlt : i.toNatClampNeg < G.X.1 := Nat.not_le.mp fun q => hi (Or.inr q)
  exact W.iald (v := .int (G.X.2 i.toNatClampNeg)) cx.1 cx.2.1 h1 h2 h3 (by rw [h4]; exact hi) (h5 _ hlt) rfl rfl hd (h p e R s m args below meth c H locs cells slots ls tc ts cx a1 a2 a3 a4 a5 a6 hH hL hl)
theorem js_salen (hG : jOk G) (hd : decode (pB k) pc = .ok (.arraylength, 1)) (h : jW G k (pc + 1) L (.int (Int32.ofNat G.X.1) :: st) M nx ok r) : jW G k pc L (.retAddr 0 :: st) M nx ok r := by
  intro p e R s m args below meth c H locs cells slots ls tc ts cx a1 a2 a3 a4 a5 a6 hH hL hl
  obtain ⟨scr, h1, h2, h3, h4, h5⟩ := jScr hG cx.2.2.2.2.2.2.2.2.1 hH.2.1
  exact W.alen (n := Int32.ofNat G.X.1) cx.1 cx.2.1 h1 h2 (by rw [h4] <;> rfl) rfl rfl hd (h p e R s m args below meth c H locs cells slots ls tc ts cx a1 a2 a3 a4 a5 a6 hH hL hl)
theorem js_alen (hG : jOk G) {a n : Nat} {f : Nat → Int32} (hd : decode (pB k) pc = .ok (.arraylength, 1)) (hM : M a = some (.inl (0, n, .inl f))) (h : jW G k (pc + 1) L (.int (Int32.ofNat n) :: st) M nx ok r) : jW G k pc L (.ref a :: st) M nx ok r :=
  fun p e R s m args below meth c H locs cells slots ls tc ts cx a1 a2 a3 a4 a5 a6 hH hL hl => va_alen cx.1 cx.2.1 (jKt hG cx.2.2.2.2.2.2.2.2.1) hH.1 a 0 (hH.at hM) rfl rfl hd (h p e R s m args below meth c H locs cells slots ls tc ts cx a1 a2 a3 a4 a5 a6 hH hL hl)
theorem js_iastore (hG : jOk G) {a n : Nat} {i x : Int32} {f : Nat → Int32} (hd : decode (pB k) pc = .ok (.iastore, 1)) (hM : M a = some (.inl (0, n, .inl f))) (hin : pIn i n = true) (h : jW G k (pc + 1) L st (pSet M a (.inl (0, n, .inl (upd f i.toNatClampNeg x)))) nx ok r) : jW G k pc L (.int x :: .int i :: .ref a :: st) M nx ok r := by
  intro p e R s m args below meth c H locs cells slots ls tc ts cx a1 a2 a3 a4 a5 a6 hH hL hl
  have hK := jKt hG cx.2.2.2.2.2.2.2.2.1
  refine W.iast cx.1 cx.2.1 (hH.1 a _ (hH.at hM)) ((hK.2 0 _ rfl).1 n (fun j => .int (f j))) (fun q => by cases q) (by show ¬ (i < 0 ∨ (arrV _ _ _).slots.size ≤ _); rw [arrV_size]; exact pIn_in hin) rfl rfl hd fun H1 e1 z oq => ?_
  refine h p e R s m args below meth c H1 _ cells slots ls tc ts cx a1 a2 a3 a4 a5 a6 (hH.put hM ?_ z oq) hL (jLoc hl)
  show H1[_]? = some (vp_cell _ _)
  rw [e1]
  dsimp only
  rw [vp_cell_i, vp_cell_i, arrV_store]
  congr 2
  funext q
  by_cases hq : q = i.toNatClampNeg <;> simp [updV, upd, hq]
theorem js_bastore (hG : jOk G) {a n : Nat} {i x : Int32} {f : Nat → Int32} (hd : decode (pB k) pc = .ok (.bastore, 1)) (hM : M a = some (.inl (2, n, .inl f))) (hin : pIn i n = true) (hx : x = 0 ∨ x = 1) (h : jW G k (pc + 1) L st (pSet M a (.inl (2, n, .inl (upd f i.toNatClampNeg x)))) nx ok r) : jW G k pc L (.int x :: .int i :: .ref a :: st) M nx ok r := by
  intro p e R s m args below meth c H locs cells slots ls tc ts cx a1 a2 a3 a4 a5 a6 hH hL hl
  have hK := jKt hG cx.2.2.2.2.2.2.2.2.1
  have hnar : narrow .boolean (.int x) = .int x := by rcases hx with rfl | rfl <;> decide
  refine W.zast cx.1 cx.2.1 (hH.1 a _ (hH.at hM)) ((hK.2 2 _ rfl).1 n (fun j => .int (f j))) (fun q => by cases q) (by show ¬ (i < 0 ∨ (arrV _ _ _).slots.size ≤ _); rw [arrV_size]; exact pIn_in hin) rfl rfl hd fun H1 e1 z oq => ?_
  refine h p e R s m args below meth c H1 _ cells slots ls tc ts cx a1 a2 a3 a4 a5 a6 (hH.put hM ?_ z oq) hL (jLoc hl)
  show H1[_]? = some (vp_cell _ _)
  rw [e1, hnar]
  dsimp only
  rw [vp_cell_i, vp_cell_i, arrV_store]
  congr 2
  funext q
  by_cases hq : q = i.toNatClampNeg <;> simp [updV, upd, hq]
theorem js_lastore (hG : jOk G) {a n : Nat} {i : Int32} {x : Int64} {f : Nat → Int64} (hd : decode (pB k) pc = .ok (.lastore, 1)) (hM : M a = some (.inl (1, n, .inr (.inl f)))) (hin : pIn i n = true) (h : jW G k (pc + 1) L st (pSet M a (.inl (1, n, .inr (.inl (vp_updL f i.toNatClampNeg x))))) nx ok r) : jW G k pc L (.long x :: .int i :: .ref a :: st) M nx ok r := by
  intro p e R s m args below meth c H locs cells slots ls tc ts cx a1 a2 a3 a4 a5 a6 hH hL hl
  have hK := jKt hG cx.2.2.2.2.2.2.2.2.1
  refine W.last cx.1 cx.2.1 (hH.1 a _ (hH.at hM)) ((hK.2 1 _ rfl).1 n (fun j => .long (f j))) (fun q => by cases q) (by show ¬ (i < 0 ∨ (arrV _ _ _).slots.size ≤ _); rw [arrV_size]; exact pIn_in hin) rfl rfl hd fun H1 e1 z oq => ?_
  refine h p e R s m args below meth c H1 _ cells slots ls tc ts cx a1 a2 a3 a4 a5 a6 (hH.put hM ?_ z oq) hL (jLoc hl)
  show H1[_]? = some (vp_cell _ _)
  rw [e1]
  dsimp only
  rw [vp_cell_l, vp_cell_l, arrV_store]
  congr 2
  funext q
  by_cases hq : q = i.toNatClampNeg <;> simp [updV, vp_updL, hq]
theorem js_ldc (hG : jOk G) {j : Nat} {v : Int32} (hd : decode (pB k) pc = .ok (.ldc j, 2)) (hv : pKi (pCl k) j = some v) (h : jW G k (pc + 2) L (.int v :: st) M nx ok r) : jW G k pc L st M nx ok r :=
  fun p e R s m args below meth c H locs cells slots ls tc ts cx a1 a2 a3 a4 a5 a6 hH hL hl => lv_ldc cx.1 cx.2.1 cx.2.2.2.2.2.1 (jWord hG cx.2.2.2.2.2.2.2.2.1 (pKi_ok hv) (Or.inl rfl)) hd (h p e R s m args below meth c H locs cells slots ls tc ts cx a1 a2 a3 a4 a5 a6 hH hL hl)
theorem js_ldcw (hG : jOk G) {j : Nat} {v : Int32} (hd : decode (pB k) pc = .ok (.ldc_w j, 3)) (hv : pKi (pCl k) j = some v) (h : jW G k (pc + 3) L (.int v :: st) M nx ok r) : jW G k pc L st M nx ok r :=
  fun p e R s m args below meth c H locs cells slots ls tc ts cx a1 a2 a3 a4 a5 a6 hH hL hl => lv_ldcw cx.1 cx.2.1 cx.2.2.2.2.2.1 (jWord hG cx.2.2.2.2.2.2.2.2.1 (pKi_ok hv) (Or.inl rfl)) hd (h p e R s m args below meth c H locs cells slots ls tc ts cx a1 a2 a3 a4 a5 a6 hH hL hl)
theorem js_ldc2 (hG : jOk G) {j : Nat} {v : Int64} (hd : decode (pB k) pc = .ok (.ldc2_w j, 3)) (hv : pKl (pCl k) j = some v) (h : jW G k (pc + 3) L (.long v :: st) M nx ok r) : jW G k pc L st M nx ok r :=
  fun p e R s m args below meth c H locs cells slots ls tc ts cx a1 a2 a3 a4 a5 a6 hH hL hl => lv_ldc2 cx.1 cx.2.1 cx.2.2.2.2.2.1 (jWord hG cx.2.2.2.2.2.2.2.2.1 (pKl_ok hv) (Or.inl rfl)) hd (h p e R s m args below meth c H locs cells slots ls tc ts cx a1 a2 a3 a4 a5 a6 hH hL hl)
/-! answers -/
theorem jMQ {below : List Frame} {args : Array Value} {s : State} {rr : pRes} {cells slots tc ts : Nat} (hc : cells ≤ tc) (hs : slots ≤ ts) : ∀ t, MQ below (fun _ _ o t => jOut G rr o t) args s cells slots (fun q => jB G ≤ q) t → jEnd G below s rr tc ts t := by
  rintro t ⟨o, h1, h2, h3, Lc, ⟨-, h4, h5⟩, h6⟩
  exact ⟨o, h1, h2, h3, h4, Lc, h5.mono hc hs, h6⟩
theorem js_ireturn {v : Int32} (hd : decode (pB k) pc = .ok (.ireturn, 1)) (hv : pRi k v = true) : jW G k pc L [.int v] M nx ok (.inl (some (.int v)), M, nx, ok, 0, 0) := by
  intro p e R s m args below meth c H locs cells slots ls tc ts cx a1 a2 a3 a4 a5 a6 hH hL hl
  have hlocks := cx.2.2.2.2.1
  refine W_mono (jMQ (args := args) (Nat.le_trans (Nat.le_add_right _ _) a3) (Nat.le_trans (Nat.le_add_right _ _) a5)) ?_
  have hr := cx.2.2.2.1
  unfold pRi at hv
  cases hk : pR k with
  | none => rw [hk] at hv; cases hv
  | some ty =>
    rw [hk] at hv hr
    cases ty with
    | int => exact W.iret cx.1 cx.2.1 hr (fun t ht _ => ⟨rfl, by rw [ht]; exact hH⟩) hl hd hlocks
    | boolean =>
      have h1 : v = 0 ∨ v = 1 := by simpa using hv
      exact W.zret cx.1 cx.2.1 hr (by rcases h1 with rfl | rfl <;> decide) (fun t ht _ => ⟨rfl, by rw [ht]; exact hH⟩) hl hd hlocks
    | _ => cases hv
theorem js_lreturn {v : Int64} (hd : decode (pB k) pc = .ok (.lreturn, 1)) (hv : pR k = some .long) : jW G k pc L [.long v] M nx ok (.inl (some (.long v)), M, nx, ok, 0, 0) := by
  intro p e R s m args below meth c H locs cells slots ls tc ts cx a1 a2 a3 a4 a5 a6 hH hL hl
  refine W_mono (jMQ (args := args) (Nat.le_trans (Nat.le_add_right _ _) a3) (Nat.le_trans (Nat.le_add_right _ _) a5)) ?_
  exact W.lret cx.1 cx.2.1 (cx.2.2.2.1.trans hv) (fun t ht _ => ⟨rfl, by rw [ht]; exact hH⟩) hl hd cx.2.2.2.2.1
theorem js_return (hd : decode (pB k) pc = .ok (.return_, 1)) (hv : pR k = none) : jW G k pc L [] M nx ok (.inl none, M, nx, ok, 0, 0) := by
  intro p e R s m args below meth c H locs cells slots ls tc ts cx a1 a2 a3 a4 a5 a6 hH hL hl
  refine W_mono (jMQ (args := args) (Nat.le_trans (Nat.le_add_right _ _) a3) (Nat.le_trans (Nat.le_add_right _ _) a5)) ?_
  exact W.vret cx.1 cx.2.1 (cx.2.2.2.1.trans hv) (fun t ht _ => ⟨rfl, by rw [ht]; exact hH⟩) hl hd cx.2.2.2.2.1
/-! new things -/
theorem js_newarray (hG : jOk G) {t : Nat} {at_ : ArrayType} {ty : FieldType} {n : Int32} {a0 : vp_A} (hd : decode (pB k) pc = .ok (.newarray at_, 2)) (hty : newarray.typeOf at_ = ty) (ht : (jTy G)[t]? = some (G.a t, ty)) (hw : Jvm.Cond.arrayClass ty ∈ lw_tbl) (ha : ∀ cA : ClassId, vp_cell cA a0 = arrV cA n.toNatClampNeg (fun _ => defaultValue ty)) (hra : va_RA G.s (G.a t) ty = (G.s.vm.findClass ("[" ++ ty.toString) = some (G.a t))) (hcb : componentBytes ty ≤ 8) (hn : ¬ n < 0) (hN : n.toNatClampNeg ≤ 100000)
    {r1 : pRes} (h : jW G k (pc + 2) L (.ref nx :: st) (pSet M nx (.inl (t, a0))) (nx + 1) true r1) : jW G k pc L (.int n :: st) M nx true (pAdd 1 n.toNatClampNeg r1) := by
  intro p e R s m args below meth c H locs cells slots ls tc ts cx a1 a2 a3 a4 a5 a6 hH hL hl
  have hW := cx.2.2.2.2.2.2.2.2.1
  have hsz : H.size = jB G + nx := hH.2.2.2.2 rfl
  subst hty
  have b1 : cells + (1 + r1.2.2.2.2.1) ≤ tc := a3
  have b2 : slots + (n.toNatClampNeg + r1.2.2.2.2.2) ≤ ts := a5
  refine va_newaK cx.1 cx.2.1 (jWord hG hW hw (Or.inr ⟨_, rfl⟩)) rfl hd rfl hn rfl (Nat.le_trans (Nat.mul_le_mul hN hcb) (by decide)) (by omega) (by omega) hsz fun H1 cA e1 z1 o1 hAr hNm => ?_
  have hcA : cA = G.a t := by
    have h1 := (hG.2.1.2 t _ ht).2
    rw [hra] at h1
    rw [hW.alike.findClass] at hNm
    exact Option.some.inj (hNm.symm.trans h1)
  subst hcA
  refine h p e R s m args below meth c H1 locs (cells + 1) (slots + n.toNatClampNeg) ls tc ts cx a1 a2 (by omega) a4 (by omega) a6 (hH.push (by omega) (fun q hq => o1 q (by omega)) ?_) hL hl
  show H1[_]? = some (vp_cell _ _)
  rw [ha]
  exact e1
theorem jDef (G : jG) {ci : Nat} (hci : ci < pvCl.length) : ∀ j, j < pSl ci → defaultValue (pFt ci j) = vp_V ((pDf ci).map (jTr G)) j := by
  obtain ⟨-, -, -, -, -, h6, h7⟩ := pC_ok ci hci
  intro j hj
  have h1 := h6 j hj
  unfold vp_V at h1 ⊢
  rw [List.getD_eq_getElem?_getD] at h1 ⊢
  rw [List.getElem?_map, List.getElem?_eq_getElem (by omega)]
  rw [List.getElem?_eq_getElem (by omega)] at h1
  simp only [Option.map_some, Option.getD_some] at h1 ⊢
  rw [← h1]
  cases pFt ci j <;> rfl
theorem js_new (hG : jOk G) {j ci : Nat} (hd : decode (pB k) pc = .ok (.new j, 3)) (hj : pNw (pCl k) j = some ci) {r1 : pRes} (h : jW G k (pc + 3) L (.ref nx :: st) (pSet M nx (.inr (ci, pDf ci))) (nx + 1) true r1) : jW G k pc L st M nx true (pAdd 1 (pSl ci) r1) := by
  intro p e R s m args below meth c H locs cells slots ls tc ts cx a1 a2 a3 a4 a5 a6 hH hL hl
  have hW := cx.2.2.2.2.2.2.2.2.1
  have hsz : H.size = jB G + nx := hH.2.2.2.2 rfl
  obtain ⟨t0, w1, w2, w3⟩ := pNw_ok hj
  obtain ⟨t1, ty, nm, t4, -⟩ := pC_ok ci t0
  have hts := jWs_u (args := args) hG hW t4
  have hKn := (jKt hG hW).1 ci _ t1
  have b1 : cells + (1 + r1.2.2.2.2.1) ≤ tc := a3
  have b2 : slots + (pSl ci + r1.2.2.2.2.2) ≤ ts := a5
  refine W.newcK cx.1 cx.2.1 cx.2.2.2.2.2.1 (jWord hG hW w1 (Or.inl rfl)) (jWord hG hW w2 (Or.inl rfl)) (jWord hG hW w3 (Or.inl rfl)) rfl hd (by omega) (by omega) hKn.2.1 hsz fun H1 kC hkC e1 z1 o1 => ?_
  refine h p e R s m args below meth c H1 locs (cells + 1) (slots + pSl ci) ls tc ts cx a1 a2 (by omega) a4 (by omega) a6 (hH.push (by omega) (fun q hq => o1 q (by omega)) ?_) hL hl
  exact ⟨_, t1, (u_born (pFt ci) hts (fun _ h => h) hKn hkC e1 ty).to (jDef G t0)⟩
/-! the library's: Object's constructor, Math.max -/
theorem pCa_ok {c j : Nat} {q : Nat × Nat × Nat × Nat} (h : pCa c j = some q) : ∃ w, pCaC ((c, j), (q, w)) = true := by
  unfold pCa at h
  obtain ⟨z, h1, h2⟩ := Option.map_eq_some_iff.mp h
  obtain ⟨q', w⟩ := z
  cases h2
  exact ⟨w, List.all_eq_true.mp pCa_chk _ (pLk h1)⟩
theorem js_objInit (hG : jOk G) {j a : Nat} {q : Nat × Nat × Nat} (hd : decode (pB k) pc = .ok (.invokespecial j, 3)) (hj : pCa (pCl k) j = some (3, q)) (hc : pCat st ≤ 8) (hf : 1 ≤ pFr k) (hlo : 20 ≤ pLo k) (h : jW G k (pc + 3) L st M nx ok r) : jW G k pc L (.ref a :: st) M nx ok r := by
  intro p e R s m args below meth c H locs cells slots ls tc ts cx a1 a2 a3 a4 a5 a6 hH hL hl
  have hW := cx.2.2.2.2.2.2.2.2.1
  obtain ⟨w, hw⟩ := pCa_ok hj
  simp only [pCaC, Bool.and_eq_true] at hw
  exact W.objInit cx.1 cx.2.1 cx.2.2.2.2.2.1 (jWord hG hW (pAt_mem hw.1) (Or.inl rfl)) (jWord hG hW (pAt_mem hw.2) (Or.inl rfl)) (jWord hG hW pOi_in (Or.inl rfl)) rfl (by rw [cx.2.2.1]; exact hL.1) rfl hd (Nat.le_trans hf a1) (by show 2 * 0 + ((st.map (jTr G)).map _).sum + 12 ≤ _; rw [pCat_sum]; omega)
    (h p e R s m args below meth c H locs cells slots ls tc ts cx a1 a2 a3 a4 a5 a6 hH hL hl)
theorem js_max (hG : jOk G) {j : Nat} {x y : Int32} {q : Nat × Nat × Nat} (hd : decode (pB k) pc = .ok (.invokestatic j, 3)) (hj : pCa (pCl k) j = some (5, q)) (hc : pCat st ≤ 8) (hf : 1 ≤ pFr k) (hlo : 21 ≤ pLo k) (h : jW G k (pc + 3) L (.int (if x < y then y else x) :: st) M nx ok r) : jW G k pc L (.int y :: .int x :: st) M nx ok r := by
  intro p e R s m args below meth c H locs cells slots ls tc ts cx a1 a2 a3 a4 a5 a6 hH hL hl
  have hW := cx.2.2.2.2.2.2.2.2.1
  obtain ⟨w, hw⟩ := pCa_ok hj
  simp only [pCaC, Bool.and_eq_true] at hw
  exact va_mmax cx.1 cx.2.1 (by rw [cx.2.2.1]; exact hL.1.symm) cx.2.2.2.2.2.1 (jWord hG hW (pAt_mem hw.1.1.1) (Or.inl rfl)) (jWord hG hW (pAt_mem hw.1.1.2) (Or.inl rfl)) (jWord hG hW (pAt_mem hw.1.2) (Or.inl rfl)) (jWord hG hW (pAt_mem hw.2) (Or.inl rfl)) (Nat.le_trans hf a1) (by rw [pCat_sum]; omega) (by omega) (by omega) hd
    (h p e R s m args below meth c H locs cells slots ls tc ts cx a1 a2 a3 a4 a5 a6 hH hL hl)
end JA
