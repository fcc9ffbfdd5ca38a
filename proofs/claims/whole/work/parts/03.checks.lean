/-! WHAT THE TABLES SAY HOLDS (by the kernel) -/
def pAt (i : Nat) (w : Jvm.Cond) : Bool := decide (lw_tbl[i]? = some w)
theorem pAt_mem {i : Nat} {w : Jvm.Cond} (h : pAt i w = true) : w ∈ lw_tbl := List.mem_of_getElem? (of_decide_eq_true h)
theorem pFl_chk : (pFlL.all fun q => pAt q.2.2.2 (.fieldLink (pCn q.1.1) q.1.2 (pTf q.2.1 q.2.2.1).1 (pTf q.2.1 q.2.2.1).2.1 (pTf q.2.1 q.2.2.1).2.2.1) && decide (q.2.1 < 6) && decide (q.2.2.1 < pSl q.2.1)) = true := by decide +kernel
theorem pLy0_chk : (([227, 229, 231, 233] : List Nat).zipIdx.all fun q => pAt q.1 (u_lay "ExtVolume" pT0 q.2)) = true := by decide +kernel
theorem pLy1_chk : (([216, 218, 220] : List Nat).zipIdx.all fun q => pAt q.1 (u_lay "ExtVolume$Checker" pT1 q.2)) = true := by decide +kernel
theorem pLy2_chk : (([119, 121, 123, 125, 127, 129, 131, 133] : List Nat).zipIdx.all fun q => pAt q.1 (u_lay "ExtVolume$Device" pT2 q.2)) = true := by decide +kernel
theorem pLy3_chk : (([185, 187, 189, 191, 193, 195, 197, 199, 201, 203] : List Nat).zipIdx.all fun q => pAt q.1 (u_lay "ExtVolume$Journal" pT3 q.2)) = true := by decide +kernel
theorem pLy4_chk : (([155, 157, 159, 161, 163] : List Nat).zipIdx.all fun q => pAt q.1 (u_lay "ExtVolume$Memory" pT4 q.2)) = true := by decide +kernel
theorem pLy5_chk : (([919, 921, 923, 925, 927, 929, 931, 933, 935, 937, 939, 941, 943, 945, 947, 949, 951, 953, 955, 957, 959, 961, 963, 965, 967, 969, 971] : List Nat).zipIdx.all fun q => pAt q.1 (u_lay "ExtVolumeModel" pT5 q.2)) = true := by decide +kernel
theorem pKi_chk : (pKiL.all fun q => pAt q.2.2 (.constant (pCn q.1.1) q.1.2 q.2.1)) = true := by decide +kernel
theorem pKl_chk : (pKlL.all fun q => pAt q.2.2 (.constantLong (pCn q.1.1) q.1.2 q.2.1)) = true := by decide +kernel
theorem pNw_chk : (pNwL.all fun q => pAt q.2.2.1 (.classLink (pCn q.1.1) q.1.2 (pCn q.2.1)) && pAt q.2.2.2.1 (.instantiable (pCn q.2.1) (pSl q.2.1)) && pAt q.2.2.2.2 (.initialized (pCn q.2.1)) && decide (q.2.1 < 6)) = true := by decide +kernel
theorem pLy_in {ws : List Nat} {C : String} {T : u_T} {N : Nat} (h : (ws.zipIdx.all fun q => pAt q.1 (u_lay C T q.2)) = true) (hl : ws.length = N) : ∀ w ∈ u_ws C T N, w ∈ lw_tbl := by
  intro w hw
  obtain ⟨k, hk, rfl⟩ := List.mem_map.mp hw
  have hk' : k < ws.length := by rw [hl]; exact List.mem_range.mp hk
  have hm : (ws[k], k) ∈ ws.zipIdx := List.mem_zipIdx_iff_getElem?.mpr (List.getElem?_eq_getElem hk')
  exact pAt_mem (List.all_eq_true.mp h _ hm)
def pPrim (ty : FieldType) : Bool := match ty with
  | .int => true
  | .long => true
  | .boolean => true
  | .object _ => true
  | .array _ => true
  | _ => false
theorem pC_ok (ci : Nat) (h : ci < 6) : pvCl[ci]? = some (pCn ci, pTf ci, pSl ci) ∧ (∀ k, k < pSl ci → parseFieldDescriptor (pTf ci k).2.2.1 = some (pFt ci k)) ∧ (∀ a, a < pSl ci → ∀ b, b < pSl ci → a ≠ b → (pTf ci a).2.1 ≠ (pTf ci b).2.1) ∧ (∀ w ∈ u_ws (pCn ci) (pTf ci) (pSl ci), w ∈ lw_tbl) ∧ (∀ k, k < pSl ci → pPrim (pFt ci k) = true) ∧ (∀ k, k < pSl ci → defaultValue (pFt ci k) = vp_V (pDf ci) k) ∧ (pDf ci).length = pSl ci := by
  match ci, h with
  | 0, _ => exact ⟨rfl, pTy0_ok, pT0_nm, pLy_in pLy0_chk rfl, by decide +kernel, by decide +kernel, rfl⟩
  | 1, _ => exact ⟨rfl, pTy1_ok, pT1_nm, pLy_in pLy1_chk rfl, by decide +kernel, by decide +kernel, rfl⟩
  | 2, _ => exact ⟨rfl, pTy2_ok, pT2_nm, pLy_in pLy2_chk rfl, by decide +kernel, by decide +kernel, rfl⟩
  | 3, _ => exact ⟨rfl, pTy3_ok, pT3_nm, pLy_in pLy3_chk rfl, by decide +kernel, by decide +kernel, rfl⟩
  | 4, _ => exact ⟨rfl, pTy4_ok, pT4_nm, pLy_in pLy4_chk rfl, by decide +kernel, by decide +kernel, rfl⟩
  | 5, _ => exact ⟨rfl, pTy5_ok, pT5_nm, pLy_in pLy5_chk rfl, by decide +kernel, by decide +kernel, rfl⟩
theorem pLk {α β : Type} [BEq α] [LawfulBEq α] {l : List (α × β)} {a : α} {b : β} (h : l.lookup a = some b) : (a, b) ∈ l := by
  induction l with
  | nil => cases h
  | cons q t ih =>
    obtain ⟨x, y⟩ := q
    rw [List.lookup_cons] at h
    by_cases e : a == x
    · simp [e] at h
      rw [eq_of_beq e, h]
      exact List.mem_cons_self
    · simp [e] at h
      exact List.mem_cons_of_mem _ (ih h)
theorem pFl_ok {c j ci i : Nat} (h : pFl c j = some (ci, i)) : ci < 6 ∧ i < pSl ci ∧ Jvm.Cond.fieldLink (pCn c) j (pTf ci i).1 (pTf ci i).2.1 (pTf ci i).2.2.1 ∈ lw_tbl := by
  unfold pFl at h
  obtain ⟨q, h1, h2⟩ := Option.map_eq_some_iff.mp h
  have h3 := List.all_eq_true.mp pFl_chk _ (pLk h1)
  simp only [Bool.and_eq_true, decide_eq_true_eq] at h3
  cases h2
  exact ⟨h3.1.2, h3.2, pAt_mem h3.1.1⟩
theorem pKi_ok {c j : Nat} {v : Int32} (h : pKi c j = some v) : Jvm.Cond.constant (pCn c) j v ∈ lw_tbl := by
  unfold pKi at h
  obtain ⟨q, h1, h2⟩ := Option.map_eq_some_iff.mp h
  have h3 := List.all_eq_true.mp pKi_chk _ (pLk h1)
  cases h2
  exact pAt_mem h3
theorem pKl_ok {c j : Nat} {v : Int64} (h : pKl c j = some v) : Jvm.Cond.constantLong (pCn c) j v ∈ lw_tbl := by
  unfold pKl at h
  obtain ⟨q, h1, h2⟩ := Option.map_eq_some_iff.mp h
  have h3 := List.all_eq_true.mp pKl_chk _ (pLk h1)
  cases h2
  exact pAt_mem h3
theorem pNw_ok {c j ci : Nat} (h : pNw c j = some ci) : ci < 6 ∧ Jvm.Cond.classLink (pCn c) j (pCn ci) ∈ lw_tbl ∧ Jvm.Cond.instantiable (pCn ci) (pSl ci) ∈ lw_tbl ∧ Jvm.Cond.initialized (pCn ci) ∈ lw_tbl := by
  unfold pNw at h
  obtain ⟨q, h1, h2⟩ := Option.map_eq_some_iff.mp h
  have h3 := List.all_eq_true.mp pNw_chk _ (pLk h1)
  simp only [Bool.and_eq_true, decide_eq_true_eq] at h3
  cases h2
  exact ⟨h3.2, pAt_mem h3.1.1.1, pAt_mem h3.1.1.2, pAt_mem h3.1.2⟩
theorem pAr_in : Jvm.Cond.arrayClass .int ∈ lw_tbl ∧ Jvm.Cond.arrayClass .long ∈ lw_tbl ∧ Jvm.Cond.arrayClass .boolean ∈ lw_tbl := ⟨pAt_mem (i := 136) (by decide +kernel), pAt_mem (i := 1246) (by decide +kernel), pAt_mem (i := 974) (by decide +kernel)⟩
/-- what a call's entry says: the link, and by its kind -/
def pCaC (q : (Nat × Nat) × ((Nat × Nat × Nat × Nat) × (Nat × Nat × Nat × Nat))) : Bool :=
  let own := pCn q.1.1; let j := q.1.2; let kd := q.2.1.1; let y := pY q.2.1.2.1; let n := q.2.1.2.2.1; let ci := q.2.1.2.2.2; let w := q.2.2
  match kd with
  | 0 => pAt w.1 (.methodLink own j y) && pAt w.2.1 (.static y) && pAt w.2.2.2 (.initialized y.cls) && decide ((parseMethodDescriptor y.desc).map (fun d => d.parameters.length) = some n)
  | 1 => pAt w.1 (.methodLink own j y) && pAt w.2.1 (.instanceMethod y) && pAt w.2.2.1 (.selects (pCn ci) y y) && pAt w.2.2.2 (.initialized y.cls) && decide ((parseMethodDescriptor y.desc).map (fun d => d.parameters.length + 1) = some n) && decide (ci < 6) && decide (y.cls = pCn ci)
  | 2 => pAt w.1 (.methodLink own j y) && pAt w.2.1 (.instanceMethod y) && pAt w.2.2.2 (.initialized y.cls) && decide ((parseMethodDescriptor y.desc).map (fun d => d.parameters.length + 1) = some n) && decide (y.name = "<init>") && decide (ci < 6) && decide (pHx q.2.1.2.1 = []) && decide (pR q.2.1.2.1 = none)
  | 6 => pAt w.1 (.methodLinkNest own j y "ExtVolume") && pAt w.2.1 (.instanceMethod y) && pAt w.2.2.2 (.initialized y.cls) && decide ((parseMethodDescriptor y.desc).map (fun d => d.parameters.length + 1) = some n) && decide (y.name = "<init>") && decide (ci < 6) && decide (pHx q.2.1.2.1 = []) && decide (pR q.2.1.2.1 = none)
  | 3 => pAt w.1 (.methodLink own j Lib.objectInit) && pAt w.2.1 (.instanceMethod Lib.objectInit)
  | 4 => pAt w.1 (.methodLink own j arraycopyName) && pAt w.2.1 (.static arraycopyName) && pAt w.2.2.1 (.native arraycopyName) && pAt w.2.2.2 (.initialized "java/lang/System")
  | 5 => pAt w.1 (.methodLink own j Lib.Math.max.name) && pAt w.2.1 (.static Lib.Math.max.name) && pAt w.2.2.1 (.initialized "java/lang/Math") && pAt w.2.2.2 (.code Lib.Math.max.name Lib.Math.max.code 2 (some .int))
  | _ => false
theorem pCa_chk : (pCaL.all pCaC) = true := by decide +kernel
/-- the words of the methods' code -/
def pCw (k : Nat) : Jvm.Cond := match pHx k with
  | [] => .code (pY k) (pB k) (pN k) (pR k)
  | h :: t => .codeWith (pY k) (pB k) (pN k) (pR k) (h :: t)
theorem pCn_chk : ((List.range 201).all fun k => decide ((pY k).cls = pCn (pCl k)) && plainName (pY k).cls && decide ((pY k).cls ≠ "java/lang/invoke/MethodHandle") && decide ((pY k).cls ≠ "java/lang/invoke/VarHandle")) = true := by decide +kernel
theorem pOi_in : Jvm.Cond.code Lib.objectInit ⟨#[0xb1]⟩ 1 none ∈ lw_tbl := pAt_mem (i := 97) (by decide +kernel)
