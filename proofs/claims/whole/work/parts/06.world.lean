/-! THE PURE MACHINE'S MEMORY IN THE REAL HEAP: object k lies at base + k, the base being the heap's size where the law begins; nothing older is ever written -/
abbrev jG : Type := Launch × State × va_G × (Nat → ClassId) × Nat × Nat × (Nat → Int32)
abbrev jG.l (G : jG) : Launch := G.1
abbrev jG.s (G : jG) : State := G.2.1
abbrev jG.D (G : jG) : va_G := G.2.2.1
abbrev jG.a (G : jG) : Nat → ClassId := G.2.2.2.1
abbrev jG.b (G : jG) : Nat := G.2.2.2.2.1
abbrev jG.X (G : jG) : pScr := G.2.2.2.2.2
def jB (G : jG) : Nat := G.s.heap.size
def jTr (G : jG) (v : Value) : Value := match v with
  | .ref k => .ref (jB G + k)
  | .retAddr _ => .ref G.b
  | v => v
def jE (G : jG) (o : pObj) : va_E := match o with
  | .inl q => .inl (G.a q.1, q.2)
  | .inr q => .inr (q.1, q.2.map (jTr G))
def jWs (G : jG) (M : pMem) (nx : Nat) : va_W := (List.range nx).map fun a => (jB G + a, jE G ((M a).getD (.inr (0, []))))
def jTy (G : jG) : List (ClassId × FieldType) := [(G.a 0, .int), (G.a 1, .long), (G.a 2, .boolean)]
def jOld (G : jG) (H : Heap) : Prop := jB G ≤ H.size ∧ ∀ q : Nat, q < jB G → H[q]? = G.s.heap[q]?
def jH (G : jG) (M : pMem) (nx : Nat) (ok : Bool) (H : Heap) : Prop :=
  va_P G.D pvCl (jWs G M nx) H ∧ jOld G H ∧ (∀ a o, M a = some o → a < nx) ∧ (∀ a, a < nx → ∃ o, M a = some o) ∧ (ok = true → H.size = jB G + nx)
theorem jTr_cat (G : jG) (v : Value) : (jTr G v).category = v.category := by cases v <;> rfl
theorem jWs_at {G : jG} {M : pMem} {nx a : Nat} {o : pObj} (h : M a = some o) (ha : a < nx) : (jWs G M nx)[a]? = some (jB G + a, jE G o) := by
  simp [jWs, List.getElem?_map, List.getElem?_range ha, h]
theorem jWs_D {G : jG} {M : pMem} {nx : Nat} : va_D (fun q => jB G ≤ q) (jWs G M nx) := by
  have key : ∀ (i : Nat) (p : Nat × va_E), (jWs G M nx)[i]? = some p → p.1 = jB G + i := by
    intro i p h
    simp only [jWs, List.getElem?_map, Option.map_eq_some_iff] at h
    obtain ⟨a, h1, h2⟩ := h
    obtain ⟨h3, h4⟩ := List.getElem?_eq_some_iff.mp h1
    simp at h4
    rw [← h2, h4]
  refine ⟨fun i j p q hp hq e => ?_, fun k q h => ?_⟩
  · have h1 := key i p hp
    have h2 := key j q hq
    omega
  · have h1 := key k q h
    show jB G ≤ q.1
    omega
theorem jWs_set {G : jG} {M : pMem} {nx a : Nat} (o : pObj) (ha : a < nx) : (jWs G M nx).set a (jB G + a, jE G o) = jWs G (pSet M a o) nx := by
  apply List.ext_getElem?
  intro i
  by_cases hi : i < nx
  · by_cases e : i = a
    · subst e
      rw [List.getElem?_set_self (by simp [jWs]; exact hi), jWs_at (o := o) (by simp [pSet]) hi]
    · rw [List.getElem?_set_ne (by omega)]
      simp [jWs, List.getElem?_map, List.getElem?_range hi, pSet, e]
  · rw [List.getElem?_eq_none (by simp [jWs]; omega), List.getElem?_eq_none (by simp [jWs]; omega)]
theorem jWs_push {G : jG} {M : pMem} {nx : Nat} (o : pObj) : jWs G M nx ++ [(jB G + nx, jE G o)] = jWs G (pSet M nx o) (nx + 1) := by
  unfold jWs
  rw [List.range_succ, List.map_append]
  congr 1
  · apply List.map_congr_left
    intro a ha
    have := List.mem_range.mp ha
    rw [show pSet M nx o a = M a by simp [pSet]; omega]
  · simp [pSet]
theorem jH.lt {G : jG} {M : pMem} {nx a : Nat} {ok : Bool} {H : Heap} {o : pObj} (h : jH G M nx ok H) (ha : M a = some o) : a < nx := h.2.2.1 a o ha
theorem jH.at {G : jG} {M : pMem} {nx a : Nat} {ok : Bool} {H : Heap} {o : pObj} (h : jH G M nx ok H) (ha : M a = some o) : (jWs G M nx)[a]? = some (jB G + a, jE G o) := jWs_at ha (h.lt ha)
/-- a store into one object -/
theorem jH.set {G : jG} {M : pMem} {nx a : Nat} {ok : Bool} {H H1 : Heap} {o o1 : pObj} (h : jH G M nx ok H) (ha : M a = some o) (hP : va_P G.D pvCl ((jWs G M nx).set a (jB G + a, jE G o1)) H1) (hS : va_S (fun q => jB G ≤ q) H H1 []) (hz : H1.size = H.size) : jH G (pSet M a o1) nx ok H1 := by
  have hlt := h.lt ha
  obtain ⟨h1, ⟨h2, h3⟩, h4, h5, h6⟩ := h
  refine ⟨by rw [← jWs_set o1 hlt]; exact hP, ⟨by rw [hz]; exact h2, fun q hq => ?_⟩, fun c x hc => ?_, fun c hc => ?_, fun e => by rw [hz]; exact h6 e⟩
  · rw [hS.2.1 q (by omega) (by show ¬ jB G ≤ q; omega)]
    exact h3 q hq
  · by_cases e : c = a
    · rw [e]; exact hlt
    · exact h4 c x (by simpa [pSet, e] using hc)
  · by_cases e : c = a
    · exact ⟨o1, by simp [pSet, e]⟩
    · obtain ⟨x, hx⟩ := h5 c hc
      exact ⟨x, by simp [pSet, e, hx]⟩
/-- a new object -/
theorem jH.push {G : jG} {M : pMem} {nx : Nat} {H H1 : Heap} {o : pObj} (h : jH G M nx true H) (hz : H1.size = H.size + 1) (hk : ∀ q : Nat, q < H.size → H1[q]? = H[q]?) (hat : va_at G.D pvCl (jB G + nx, jE G o) H1) : jH G (pSet M nx o) (nx + 1) true H1 := by
  obtain ⟨h1, ⟨h2, h3⟩, h4, h5, h6⟩ := h
  have hsz := h6 rfl
  refine ⟨?_, ⟨by omega, fun q hq => by rw [hk q (by omega)]; exact h3 q hq⟩, fun c x hc => ?_, fun c hc => ?_, fun _ => by omega⟩
  · rw [← jWs_push o]
    refine va_P.app (h1.kept fun k q hq => hk q.1 (h1 k q hq).lt) (fun k q hq => ?_)
    have hk0 : k = 0 := by
      have := (List.getElem?_eq_some_iff.mp hq).1
      simp at this
      exact this
    subst hk0
    cases hq
    exact hat
  · by_cases e : c = nx
    · omega
    · have := h4 c x (by simpa [pSet, e] using hc)
      omega
  · by_cases e : c = nx
    · exact ⟨o, by simp [pSet, e]⟩
    · obtain ⟨x, hx⟩ := h5 c (by omega)
      exact ⟨x, by simp [pSet, e, hx]⟩
/-- garbage beside -/
theorem jH.more {G : jG} {M : pMem} {nx : Nat} {ok : Bool} {H H1 : Heap} (h : jH G M nx ok H) (hz : H.size ≤ H1.size) (hk : ∀ q : Nat, q < H.size → H1[q]? = H[q]?) : jH G M nx false H1 := by
  obtain ⟨h1, ⟨h2, h3⟩, h4, h5, h6⟩ := h
  exact ⟨h1.kept fun k q hq => hk q.1 (h1 k q hq).lt, ⟨by omega, fun q hq => by rw [hk q (by omega)]; exact h3 q hq⟩, h4, h5, fun e => by cases e⟩
/-! locals -/
def jLs (G : jG) (L : List Value) : List (Nat × Value) := L.zipIdx.filterMap fun q => if q.1 = pDum then none else some (q.2, jTr G q.1)
def jL (G : jG) (L : List Value) (ls : Array Slot) (n : Nat) : Prop := lv_has ls n (jLs G L)
theorem jLs_mem {G : jG} {L : List Value} {q : Nat × Value} : q ∈ jLs G L ↔ ∃ v, L[q.1]? = some v ∧ v ≠ pDum ∧ q.2 = jTr G v := by
  unfold jLs
  rw [List.mem_filterMap]
  constructor
  · rintro ⟨⟨v, i⟩, h1, h2⟩
    by_cases e : v = pDum
    · simp [e] at h2
    · simp [e] at h2
      rw [List.mem_zipIdx_iff_getElem?] at h1
      subst h2
      exact ⟨v, h1, e, rfl⟩
  · rintro ⟨v, h1, h2, h3⟩
    refine ⟨(v, q.1), List.mem_zipIdx_iff_getElem?.mpr h1, ?_⟩
    simp [h2, ← h3]
theorem jL.get {G : jG} {L : List Value} {ls : Array Slot} {n i : Nat} {v : Value} (h : jL G L ls n) (hv : L[i]? = some v) (hd : v ≠ pDum) : ls[i]? = some (.val (jTr G v)) := h.2.2 (i, jTr G v) (jLs_mem.mpr ⟨v, hv, hd, rfl⟩)
theorem pKill_get {L : List Value} {i j : Nat} {u : Value} (h : (pKill L i)[j]? = some u) (hd : u ≠ pDum) : L[j]? = some u ∧ (j + 1 = i → u.category ≠ 2) := by
  cases i with
  | zero => exact ⟨h, fun e => by omega⟩
  | succ i' =>
    have setcase : ∀ x, L[i']? = some x → (L.set i' pDum)[j]? = some u → L[j]? = some u ∧ (j + 1 = i' + 1 → u.category ≠ 2) := by
      intro x hx h
      by_cases e : j = i'
      · subst e
        rw [List.getElem?_set_self', hx] at h
        simp at h
        exact absurd h.symm hd
      · rw [List.getElem?_set_ne (by omega)] at h
        exact ⟨h, fun z => by omega⟩
    unfold pKill at h
    simp only at h
    split at h
    · rename_i x hx
      exact setcase _ hx h
    · rename_i x hx
      exact setcase _ hx h
    · rename_i h1 h2
      refine ⟨h, fun e hc => ?_⟩
      have e' : j = i' := by omega
      subst e'
      cases u with
      | long x => exact h1 x h
      | double x => exact h2 x h
      | _ => cases hc
theorem pSet_self {L : List Value} {i : Nat} {v u : Value} (h : (L.set i v)[i]? = some u) : u = v := by
  rw [List.getElem?_set_self'] at h
  cases hx : L[i]? with
  | none => rw [hx] at h; simp at h
  | some z =>
    rw [hx] at h
    simp at h
    exact h.symm
theorem jL.st1 {G : jG} {L : List Value} {ls' : Array Slot} {n i : Nat} {v : Value} (h : lv_has ls' n ((i, jTr G v) :: (jLs G L).filter (fun q => !(q.1 == i) && !(q.1 + 1 == i && q.2.category == 2)))) : jL G (pSt1 L i v) ls' n := by
  refine ⟨h.1, h.2.1, fun q hq => h.2.2 q ?_⟩
  obtain ⟨u, h1, h2, h3⟩ := jLs_mem.mp hq
  obtain ⟨j, w⟩ := q
  simp only at h1 h3
  subst h3
  unfold pSt1 at h1
  by_cases e : j = i
  · subst e
    rw [pSet_self h1]
    exact List.mem_cons_self
  · rw [List.getElem?_set_ne (by omega)] at h1
    obtain ⟨h4, h5⟩ := pKill_get h1 h2
    refine List.mem_cons_of_mem _ (List.mem_filter.mpr ⟨jLs_mem.mpr ⟨u, h4, h2, rfl⟩, ?_⟩)
    have e1 : (j == i) = false := by simpa using e
    simp only [e1, Bool.not_false, Bool.true_and, jTr_cat]
    by_cases e2 : j + 1 = i
    · simp [h5 e2]
    · have e3 : (j + 1 == i) = false := by simpa using e2
      simp [e3]
theorem jL.st2 {G : jG} {L : List Value} {ls' : Array Slot} {n i : Nat} {v : Value} (h : lv_has ls' n ((i, jTr G v) :: (jLs G L).filter (fun q => !(q.1 == i) && (!(q.1 == i + 1) && !(q.1 + 1 == i && q.2.category == 2))))) : jL G (pSt2 L i v) ls' n := by
  refine ⟨h.1, h.2.1, fun q hq => h.2.2 q ?_⟩
  obtain ⟨u, h1, h2, h3⟩ := jLs_mem.mp hq
  obtain ⟨j, w⟩ := q
  simp only at h1 h3
  subst h3
  unfold pSt2 at h1
  by_cases e0 : j = i + 1
  · subst e0
    exact absurd (pSet_self h1) h2
  · rw [List.getElem?_set_ne (by omega)] at h1
    by_cases e : j = i
    · subst e
      rw [pSet_self h1]
      exact List.mem_cons_self
    · rw [List.getElem?_set_ne (by omega)] at h1
      obtain ⟨h4, h5⟩ := pKill_get h1 h2
      refine List.mem_cons_of_mem _ (List.mem_filter.mpr ⟨jLs_mem.mpr ⟨u, h4, h2, rfl⟩, ?_⟩)
      have e1 : (j == i) = false := by simpa using e
      have e2 : (j == i + 1) = false := by simpa using e0
      simp only [e1, e2, Bool.not_false, Bool.true_and, jTr_cat]
      by_cases e3 : j + 1 = i
      · simp [h5 e3]
      · have e4 : (j + 1 == i) = false := by simpa using e3
        simp [e4]
/-- the locals with which a method begins -/
theorem jArgs (G : jG) : ∀ (av : List Value) (i : Nat) (q : Nat × Value), (∃ v, (pArgs av)[q.1]? = some v ∧ v ≠ pDum ∧ q.2 = jTr G v) → (i + q.1, q.2) ∈ lv_args i (av.map (jTr G)) := by
  intro av
  induction av with
  | nil => rintro i q ⟨v, h, -⟩; simp [pArgs] at h
  | cons a t ih =>
    rintro i ⟨j, w⟩ ⟨v, h, hd, hw⟩
    simp only at h hw
    subst hw
    rcases lv_cat a with hc | hc
    · have e1 : pArgs (a :: t) = a :: pArgs t := by
        cases a <;> first | rfl | cases hc
      rw [e1] at h
      have e3 : lv_args i ((a :: t).map (jTr G)) = (i, jTr G a) :: lv_args (i + 1) (t.map (jTr G)) := by
        simp [lv_args, jTr_cat, hc]
      rw [e3]
      match j, h with
      | 0, h =>
        simp at h
        subst h
        exact List.mem_cons_self
      | j + 1, h =>
        simp at h
        have h9 := ih (i + 1) (j, jTr G v) ⟨v, h, hd, rfl⟩
        simp only at h9 ⊢
        rw [show i + (j + 1) = i + 1 + j by omega]
        exact List.mem_cons_of_mem _ h9
    · have e1 : pArgs (a :: t) = a :: pDum :: pArgs t := by
        cases a <;> first | rfl | cases hc
      rw [e1] at h
      have e3 : lv_args i ((a :: t).map (jTr G)) = (i, jTr G a) :: lv_args (i + 2) (t.map (jTr G)) := by
        simp [lv_args, jTr_cat, hc]
      rw [e3]
      match j, h with
      | 0, h =>
        simp at h
        subst h
        exact List.mem_cons_self
      | 1, h =>
        simp at h
        exact absurd h.symm hd
      | j + 2, h =>
        simp at h
        have h9 := ih (i + 2) (j, jTr G v) ⟨v, h, hd, rfl⟩
        simp only at h9 ⊢
        rw [show i + (j + 2) = i + 2 + j by omega]
        exact List.mem_cons_of_mem _ h9
theorem jArgs_len (G : jG) : ∀ av : List Value, (lg_sl (av.map (jTr G))).length = (pArgs av).length := by
  intro av
  induction av with
  | nil => rfl
  | cons a t ih =>
    rcases lv_cat a with hc | hc
    · have e1 : pArgs (a :: t) = a :: pArgs t := by
        cases a <;> first | rfl | cases hc
      rw [e1]
      simp only [lg_sl, List.map_cons, List.flatMap_cons, List.length_append, List.length_cons] at ih ⊢
      rw [ih]
      simp [jTr_cat, hc]
      omega
    · have e1 : pArgs (a :: t) = a :: pDum :: pArgs t := by
        cases a <;> first | rfl | cases hc
      rw [e1]
      simp only [lg_sl, List.map_cons, List.flatMap_cons, List.length_append, List.length_cons] at ih ⊢
      rw [ih]
      simp [jTr_cat, hc]
      omega
theorem jEnt {G : jG} {k : Nat} {av : List Value} (h : (pArgs av).length ≤ pN k) : jL G (pEnt k av) ((lg_sl (av.map (jTr G)) ++ List.replicate (pN k - (lg_sl (av.map (jTr G))).length) Slot.unset).toArray) (pN k) := by
  have h0 := lv_entry (av.map (jTr G)) (n := pN k) (by rw [jArgs_len]; exact h)
  refine ⟨h0.1, h0.2.1, fun q hq => ?_⟩
  obtain ⟨v, h1, h2, h3⟩ := jLs_mem.mp hq
  have h4 : (pArgs av)[q.1]? = some v := by
    unfold pEnt pPad at h1
    by_cases hl : q.1 < (pArgs av).length
    · rw [List.getElem?_append_left hl] at h1
      exact h1
    · rw [List.getElem?_append_right (by omega)] at h1
      exact absurd (List.eq_of_mem_replicate (List.mem_of_getElem? h1)) h2
  have h5 := jArgs G av 0 q ⟨v, h4, h2, h3⟩
  rw [Nat.zero_add] at h5
  exact h0.2.2 q h5
