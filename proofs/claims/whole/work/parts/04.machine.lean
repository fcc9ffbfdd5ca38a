/-! A PURE MACHINE: objects by number, arrays as functions, methods by number; what it answers, the real one answers (next parts). -/
abbrev pObj : Type := (Nat × vp_A) ⊕ (Nat × List Value)
abbrev pMem : Type := Nat → Option pObj
/-- a value (none: void), or the number of an exception's class -/
abbrev pOut : Type := Option Value ⊕ Nat
/-- how it ended; memory; how many objects; whether nothing else was made; cells and slots made -/
abbrev pRes : Type := pOut × pMem × Nat × Bool × Nat × Nat
abbrev pScr : Type := Nat × (Nat → Int32)
def pSet (M : pMem) (a : Nat) (o : pObj) : pMem := fun q => if q = a then some o else M q
/-- a local that holds nothing known -/
def pDum : Value := .retAddr 1
/-- the script -/
def pScV : Value := .retAddr 0
def pKill (L : List Value) (i : Nat) : List Value := match i with
  | 0 => L
  | j + 1 => match L[j]? with
    | some (.long _) => L.set j pDum
    | some (.double _) => L.set j pDum
    | _ => L
def pSt1 (L : List Value) (i : Nat) (v : Value) : List Value := (pKill L i).set i v
def pSt2 (L : List Value) (i : Nat) (v : Value) : List Value := ((pKill L i).set i v).set (i + 1) pDum
/-- the locals with which a method begins -/
def pArgs : List Value → List Value
  | [] => []
  | .long x :: vs => .long x :: pDum :: pArgs vs
  | .double x :: vs => .double x :: pDum :: pArgs vs
  | v :: vs => v :: pArgs vs
def pPad (n : Nat) (l : List Value) : List Value := l ++ List.replicate (n - l.length) pDum
def pEnt (k : Nat) (av : List Value) : List Value := pPad (pN k) (pArgs av)
def pAdd (kc ks : Nat) (r : pRes) : pRes := (r.1, r.2.1, r.2.2.1, r.2.2.2.1, kc + r.2.2.2.2.1, ks + r.2.2.2.2.2)
/-- where a branch goes -/
def pTo (pc : Nat) (off : Int) : Nat := ((pc : Int) + off).toNat
def pFetch (k pc : Nat) : Option (Instr × Nat) := match decode (pB k) pc with
  | .ok x => some x
  | .error _ => none
def pCmp (c : ClassFile.Cond) (x y : Int32) : Bool := match c with
  | .eq => decide (x = y)
  | .ne => !decide (x = y)
  | .lt => decide (x < y)
  | .ge => decide (y ≤ x)
  | .gt => decide (y < x)
  | .le => decide (x ≤ y)
/-! the shapes of the stack -/
abbrev pKo : Type := List Value → Option pRes
def pg (b : Bool) (x : Option pRes) : Option pRes := match b with
  | true => x
  | false => none
theorem pg_some {b : Bool} {x : Option pRes} {r : pRes} (h : pg b x = some r) : b = true ∧ x = some r := by
  cases b with
  | true => exact ⟨rfl, h⟩
  | false => cases h
def p2i (f : Int32 → Int32 → Value) (K : pKo) : pKo := fun st => match st with
  | .int y :: .int x :: st => K (f x y :: st)
  | _ => none
theorem p2i_some {f : Int32 → Int32 → Value} {K : pKo} {st : List Value} {r : pRes} (h : p2i f K st = some r) : ∃ y x st1, st = .int y :: .int x :: st1 ∧ K (f x y :: st1) = some r := by
  unfold p2i at h
  split at h
  · exact ⟨_, _, _, rfl, h⟩
  · cases h
def p1i (f : Int32 → Value) (K : pKo) : pKo := fun st => match st with
  | .int x :: st => K (f x :: st)
  | _ => none
theorem p1i_some {f : Int32 → Value} {K : pKo} {st : List Value} {r : pRes} (h : p1i f K st = some r) : ∃ x st1, st = .int x :: st1 ∧ K (f x :: st1) = some r := by
  unfold p1i at h
  split at h
  · exact ⟨_, _, rfl, h⟩
  · cases h
def p2l (f : Int64 → Int64 → Value) (K : pKo) : pKo := fun st => match st with
  | .long y :: .long x :: st => K (f x y :: st)
  | _ => none
theorem p2l_some {f : Int64 → Int64 → Value} {K : pKo} {st : List Value} {r : pRes} (h : p2l f K st = some r) : ∃ y x st1, st = .long y :: .long x :: st1 ∧ K (f x y :: st1) = some r := by
  unfold p2l at h
  split at h
  · exact ⟨_, _, _, rfl, h⟩
  · cases h
def p1l (f : Int64 → Value) (K : pKo) : pKo := fun st => match st with
  | .long x :: st => K (f x :: st)
  | _ => none
theorem p1l_some {f : Int64 → Value} {K : pKo} {st : List Value} {r : pRes} (h : p1l f K st = some r) : ∃ x st1, st = .long x :: st1 ∧ K (f x :: st1) = some r := by
  unfold p1l at h
  split at h
  · exact ⟨_, _, rfl, h⟩
  · cases h
def pli (f : Int64 → Int32 → Value) (K : pKo) : pKo := fun st => match st with
  | .int y :: .long x :: st => K (f x y :: st)
  | _ => none
theorem pli_some {f : Int64 → Int32 → Value} {K : pKo} {st : List Value} {r : pRes} (h : pli f K st = some r) : ∃ y x st1, st = .int y :: .long x :: st1 ∧ K (f x y :: st1) = some r := by
  unfold pli at h
  split at h
  · exact ⟨_, _, _, rfl, h⟩
  · cases h

abbrev pRec : Type := Nat → Nat → List Value → List Value → pMem → Nat → Bool → Option pRes
/-! locals -/
def pLdI (o : Option Value) (K : Int32 → Option pRes) : Option pRes := match o with
  | some (.int x) => K x
  | _ => none
def pLdL (o : Option Value) (K : Int64 → Option pRes) : Option pRes := match o with
  | some (.long x) => K x
  | _ => none
def pLdA (o : Option Value) (K : Value → Option pRes) : Option pRes := match o with
  | some (.ref a) => K (.ref a)
  | some (.retAddr 0) => K (.retAddr 0)
  | _ => none
theorem pLdI_some {o : Option Value} {K : Int32 → Option pRes} {r : pRes} (h : pLdI o K = some r) : ∃ x, o = some (.int x) ∧ K x = some r := by
  unfold pLdI at h
  split at h
  · exact ⟨_, rfl, h⟩
  · cases h
theorem pLdL_some {o : Option Value} {K : Int64 → Option pRes} {r : pRes} (h : pLdL o K = some r) : ∃ x, o = some (.long x) ∧ K x = some r := by
  unfold pLdL at h
  split at h
  · exact ⟨_, rfl, h⟩
  · cases h
theorem pLdA_some {o : Option Value} {K : Value → Option pRes} {r : pRes} (h : pLdA o K = some r) : ∃ v, o = some v ∧ ((∃ a, v = .ref a) ∨ v = .retAddr 0) ∧ K v = some r := by
  unfold pLdA at h
  split at h
  · exact ⟨_, rfl, Or.inl ⟨_, rfl⟩, h⟩
  · exact ⟨_, rfl, Or.inr rfl, h⟩
  · cases h
/-! the top of the stack -/
def pTpI (st : List Value) (K : Int32 → List Value → Option pRes) : Option pRes := match st with
  | .int x :: st => K x st
  | _ => none
def pTpL (st : List Value) (K : Int64 → List Value → Option pRes) : Option pRes := match st with
  | .long x :: st => K x st
  | _ => none
def pTpA (st : List Value) (K : Value → List Value → Option pRes) : Option pRes := match st with
  | .ref a :: st => K (.ref a) st
  | .retAddr 0 :: st => K (.retAddr 0) st
  | _ => none
def pTp1 (st : List Value) (K : Value → List Value → Option pRes) : Option pRes := match st with
  | v :: st => pg (v.category == 1) (K v st)
  | _ => none
theorem pTpI_some {st : List Value} {K : Int32 → List Value → Option pRes} {r : pRes} (h : pTpI st K = some r) : ∃ x st1, st = .int x :: st1 ∧ K x st1 = some r := by
  unfold pTpI at h
  split at h
  · exact ⟨_, _, rfl, h⟩
  · cases h
theorem pTpL_some {st : List Value} {K : Int64 → List Value → Option pRes} {r : pRes} (h : pTpL st K = some r) : ∃ x st1, st = .long x :: st1 ∧ K x st1 = some r := by
  unfold pTpL at h
  split at h
  · exact ⟨_, _, rfl, h⟩
  · cases h
theorem pTpA_some {st : List Value} {K : Value → List Value → Option pRes} {r : pRes} (h : pTpA st K = some r) : ∃ v st1, st = v :: st1 ∧ ((∃ a, v = .ref a) ∨ v = .retAddr 0) ∧ K v st1 = some r := by
  unfold pTpA at h
  split at h
  · exact ⟨_, _, rfl, Or.inl ⟨_, rfl⟩, h⟩
  · exact ⟨_, _, rfl, Or.inr rfl, h⟩
  · cases h
theorem pTp1_some {st : List Value} {K : Value → List Value → Option pRes} {r : pRes} (h : pTp1 st K = some r) : ∃ v st1, st = v :: st1 ∧ v.category = 1 ∧ K v st1 = some r := by
  unfold pTp1 at h
  split at h
  · obtain ⟨h1, h2⟩ := pg_some h
    exact ⟨_, _, rfl, by simpa using h1, h2⟩
  · cases h
/-! branches -/
def pBr (b : Bool) (x y : Option pRes) : Option pRes := match b with
  | true => x
  | false => y
def pJ (rec : pRec) (k pc : Nat) (off : Int) (L st : List Value) (M : pMem) (nx : Nat) (ok : Bool) : Option pRes := pg (decide (0 ≤ (pc : Int) + off)) (rec k (pTo pc off) L st M nx ok)
/-! objects and arrays -/
def pOb (M : pMem) (a : Nat) (K : Nat → List Value → Option pRes) : Option pRes := match M a with
  | some (.inr (c, fs)) => K c fs
  | _ => none
theorem pOb_some {M : pMem} {a : Nat} {K : Nat → List Value → Option pRes} {r : pRes} (h : pOb M a K = some r) : ∃ c fs, M a = some (.inr (c, fs)) ∧ K c fs = some r := by
  unfold pOb at h
  split at h
  · rename_i c fs e
    exact ⟨c, fs, e, h⟩
  · cases h
def pAi (M : pMem) (t a : Nat) (K : Nat → (Nat → Int32) → Option pRes) : Option pRes := match M a with
  | some (.inl (t', n, .inl f)) => pg (t' == t) (K n f)
  | _ => none
theorem pAi_some {M : pMem} {t a : Nat} {K : Nat → (Nat → Int32) → Option pRes} {r : pRes} (h : pAi M t a K = some r) : ∃ n f, M a = some (.inl (t, n, .inl f)) ∧ K n f = some r := by
  unfold pAi at h
  split at h
  · rename_i t' n f e
    obtain ⟨h1, h2⟩ := pg_some h
    have h3 : t' = t := by simpa using h1
    subst h3
    exact ⟨n, f, e, h2⟩
  · cases h
def pAl (M : pMem) (a : Nat) (K : Nat → (Nat → Int64) → Option pRes) : Option pRes := match M a with
  | some (.inl (1, n, .inr (.inl f))) => K n f
  | _ => none
theorem pAl_some {M : pMem} {a : Nat} {K : Nat → (Nat → Int64) → Option pRes} {r : pRes} (h : pAl M a K = some r) : ∃ n f, M a = some (.inl (1, n, .inr (.inl f))) ∧ K n f = some r := by
  unfold pAl at h
  split at h
  · rename_i n f e
    exact ⟨n, f, e, h⟩
  · cases h
def pFo {α : Type} (o : Option α) (K : α → Option pRes) : Option pRes := match o with
  | some x => K x
  | none => none
theorem pFo_some {α : Type} {o : Option α} {K : α → Option pRes} {r : pRes} (h : pFo o K = some r) : ∃ x, o = some x ∧ K x = some r := by
  cases o with
  | none => cases h
  | some x => exact ⟨x, rfl, h⟩
def pRf (st : List Value) (K : Nat → List Value → Option pRes) : Option pRes := match st with
  | .ref a :: st => K a st
  | _ => none
theorem pRf_some {st : List Value} {K : Nat → List Value → Option pRes} {r : pRes} (h : pRf st K = some r) : ∃ a st1, st = .ref a :: st1 ∧ K a st1 = some r := by
  unfold pRf at h
  split at h
  · exact ⟨_, _, rfl, h⟩
  · cases h
def pIn (i : Int32) (n : Nat) : Bool := decide (¬ (i < 0 ∨ n ≤ i.toNatClampNeg))
theorem pIn_in {i : Int32} {n : Nat} (h : pIn i n = true) : vp_in i n := by
  unfold pIn at h
  unfold vp_in
  exact of_decide_eq_true h
/-- what a method of answer type pR may answer -/
def pRi (k : Nat) (v : Int32) : Bool := match pR k with
  | some .int => true
  | some .boolean => v == 0 || v == 1
  | _ => false
def pMp (kc ks : Nat) (o : Option pRes) : Option pRes := match o with
  | some r => some (pAdd kc ks r)
  | none => none
theorem pMp_some {kc ks : Nat} {o : Option pRes} {r : pRes} (h : pMp kc ks o = some r) : ∃ r1, o = some r1 ∧ r = pAdd kc ks r1 := by
  cases o with
  | none => cases h
  | some x => exact ⟨x, rfl, (Option.some.inj h).symm⟩
/-- behind a call -/
def pAft (rec : pRec) (k pc : Nat) (L rest : List Value) (r : pRes) : Option pRes := match r.1 with
  | .inl v => pMp r.2.2.2.2.1 r.2.2.2.2.2 (rec k (pc + 3) L (v.toList ++ rest) r.2.1 r.2.2.1 r.2.2.2.1)
  | .inr ex => match pHx k with
    | [] => some r
    | _ :: _ => pFo (pHd k pc ex) (fun q => pMp r.2.2.2.2.1 r.2.2.2.2.2 (rec k q.1 (pSt1 L q.2 pDum) [] r.2.1 r.2.2.1 r.2.2.2.1))
def pCat : List Value → Nat
  | [] => 0
  | v :: st => v.category + pCat st
def pGo (rec : pRec) (k pc k2 : Nat) (L av rest : List Value) (M : pMem) (nx : Nat) (ok : Bool) : Option pRes :=
  pg (decide (pCat rest ≤ 8) && decide ((pArgs av).length ≤ pN k2) && decide (pFr k2 + 1 ≤ pFr k) && decide (8 + (pN k2 + 11) + pLo k2 ≤ pLo k)) (pFo (rec k2 0 (pEnt k2 av) [] M nx ok) (pAft rec k pc L rest))
def pIsO (M : pMem) (a ci : Nat) : Bool := match M a with
  | some (.inr (c, _)) => c == ci
  | _ => false
def pIs (av : List Value) (M : pMem) (ci : Nat) : Bool := match av with
  | .ref a :: _ => pIsO M a ci
  | _ => false
/-- arraycopy of ints -/
def pCp (st : List Value) (M : pMem) (K : List Value → pMem → Option pRes) : Option pRes := match st with
  | .int n :: .int dp :: .ref a :: .int sp :: .ref a0 :: st => pAi M 0 a0 fun n0 f => pAi M 0 a fun n1 g =>
    pg (decide (¬ sp < 0) && decide (¬ dp < 0) && decide (¬ n < 0) && decide (sp.toNatClampNeg + n.toNatClampNeg ≤ n0) && decide (dp.toNatClampNeg + n.toNatClampNeg ≤ n1) && decide (pCat st ≤ 8))
      (K st (pSet M a (.inl (0, n1, .inl (va_cpy f g sp.toNatClampNeg dp.toNatClampNeg n.toNatClampNeg)))))
  | _ => none
/-- a call: kinds 0 static, 1 of an object, 2 a constructor, 3 Object's, 4 arraycopy, 5 Math.max, 6 a nest mate's constructor -/
def pCall (rec : pRec) (q : Nat × Nat × Nat × Nat) (k pc : Nat) (L st : List Value) (M : pMem) (nx : Nat) (ok : Bool) : Option pRes := match q.1 with
  | 0 => pg (decide (q.2.2.1 ≤ st.length)) (pGo rec k pc q.2.1 L (st.take q.2.2.1).reverse (st.drop q.2.2.1) M nx ok)
  | 3 => pRf st fun _ st => pg (decide (pCat st ≤ 8) && decide (1 ≤ pFr k) && decide (20 ≤ pLo k)) (rec k (pc + 3) L st M nx ok)
  | 4 => pg (decide (1 ≤ pFr k) && decide (59 ≤ pLo k)) (pCp st M fun st M => rec k (pc + 3) L st M nx ok)
  | 5 => pg (decide (1 ≤ pFr k) && decide (21 ≤ pLo k)) (p2i (fun x y => .int (if x < y then y else x)) (fun st => pg (decide (pCat st ≤ 9)) (rec k (pc + 3) L st M nx ok)) st)
  | _ => pg (decide (q.2.2.1 ≤ st.length) && pIs (st.take q.2.2.1).reverse M q.2.2.2) (pGo rec k pc q.2.1 L (st.take q.2.2.1).reverse (st.drop q.2.2.1) M nx ok)
def pEx (X : pScr) (rec : pRec) (i : Instr) (len k pc : Nat) (L st : List Value) (M : pMem) (nx : Nat) (ok : Bool) : Option pRes := match i with
  | .iconst n => pg (len == 1) (rec k (pc + 1) L (.int (Int32.ofInt n) :: st) M nx ok)
  | .bipush n => pg (len == 2) (rec k (pc + 2) L (.int (Int8.ofInt n).toInt32 :: st) M nx ok)
  | .sipush n => pg (len == 3) (rec k (pc + 3) L (.int (Int16.ofInt n).toInt32 :: st) M nx ok)
  | .lconst n => pg (len == 1) (rec k (pc + 1) L (.long (Int64.ofNat (n : Nat)) :: st) M nx ok)
  | .iadd => pg (len == 1) (p2i (fun x y => .int (x + y)) (fun st => rec k (pc + 1) L st M nx ok) st)
  | .isub => pg (len == 1) (p2i (fun x y => .int (x - y)) (fun st => rec k (pc + 1) L st M nx ok) st)
  | .imul => pg (len == 1) (p2i (fun x y => .int (x * y)) (fun st => rec k (pc + 1) L st M nx ok) st)
  | .iand => pg (len == 1) (p2i (fun x y => .int (x &&& y)) (fun st => rec k (pc + 1) L st M nx ok) st)
  | .ior => pg (len == 1) (p2i (fun x y => .int (x ||| y)) (fun st => rec k (pc + 1) L st M nx ok) st)
  | .ixor => pg (len == 1) (p2i (fun x y => .int (x ^^^ y)) (fun st => rec k (pc + 1) L st M nx ok) st)
  | .ishl => pg (len == 1) (p2i (fun x y => .int (x <<< (y &&& 31))) (fun st => rec k (pc + 1) L st M nx ok) st)
  | .ishr => pg (len == 1) (p2i (fun x y => .int (x >>> (y &&& 31))) (fun st => rec k (pc + 1) L st M nx ok) st)
  | .iushr => pg (len == 1) (p2i (fun x y => .int (x.toUInt32 >>> (y.toUInt32 &&& Int32.toUInt32 31)).toInt32) (fun st => rec k (pc + 1) L st M nx ok) st)
  | .ineg => pg (len == 1) (p1i (fun x => .int (-x)) (fun st => rec k (pc + 1) L st M nx ok) st)
  | .ladd => pg (len == 1) (p2l (fun x y => .long (x + y)) (fun st => rec k (pc + 1) L st M nx ok) st)
  | .lsub => pg (len == 1) (p2l (fun x y => .long (x - y)) (fun st => rec k (pc + 1) L st M nx ok) st)
  | .lmul => pg (len == 1) (p2l (fun x y => .long (x * y)) (fun st => rec k (pc + 1) L st M nx ok) st)
  | .land => pg (len == 1) (p2l (fun x y => .long (x &&& y)) (fun st => rec k (pc + 1) L st M nx ok) st)
  | .lor => pg (len == 1) (p2l (fun x y => .long (x ||| y)) (fun st => rec k (pc + 1) L st M nx ok) st)
  | .lxor => pg (len == 1) (p2l (fun x y => .long (x ^^^ y)) (fun st => rec k (pc + 1) L st M nx ok) st)
  | .lneg => pg (len == 1) (p1l (fun x => .long (-x)) (fun st => rec k (pc + 1) L st M nx ok) st)
  | .lcmp => pg (len == 1) (p2l (fun x y => .int (lg_cmp x y)) (fun st => rec k (pc + 1) L st M nx ok) st)
  | .lshl => pg (len == 1) (pli (fun x y => .long (x <<< (y.toInt64 &&& 63))) (fun st => rec k (pc + 1) L st M nx ok) st)
  | .lshr => pg (len == 1) (pli (fun x y => .long (x >>> (y.toInt64 &&& 63))) (fun st => rec k (pc + 1) L st M nx ok) st)
  | .lushr => pg (len == 1) (pli (fun x y => .long (x.toUInt64 >>> (y.toInt64.toUInt64 &&& Int64.toUInt64 63)).toInt64) (fun st => rec k (pc + 1) L st M nx ok) st)
  | .i2l => pg (len == 1) (p1i (fun x => .long x.toInt64) (fun st => rec k (pc + 1) L st M nx ok) st)
  | .i2b => pg (len == 1) (p1i (fun x => .int x.toInt8.toInt32) (fun st => rec k (pc + 1) L st M nx ok) st)
  | .i2s => pg (len == 1) (p1i (fun x => .int x.toInt16.toInt32) (fun st => rec k (pc + 1) L st M nx ok) st)
  | .i2c => pg (len == 1) (p1i (fun x => .int (x.toUInt32 % 65536).toInt32) (fun st => rec k (pc + 1) L st M nx ok) st)
  | .l2i => pg (len == 1) (p1l (fun x => .int x.toInt32) (fun st => rec k (pc + 1) L st M nx ok) st)
  | .idiv => pg (len == 1) (pTpI st fun y st => pTpI st fun x st => pg (decide (¬ y = 0)) (rec k (pc + 1) L (.int (x / y) :: st) M nx ok))
  | .irem => pg (len == 1) (pTpI st fun y st => pTpI st fun x st => pg (decide (¬ y = 0)) (rec k (pc + 1) L (.int (x - x / y * y) :: st) M nx ok))
  | .ldc j => pg (len == 2) (pFo (pKi (pCl k) j) fun v => rec k (pc + 2) L (.int v :: st) M nx ok)
  | .ldc_w j => pg (len == 3) (pFo (pKi (pCl k) j) fun v => rec k (pc + 3) L (.int v :: st) M nx ok)
  | .ldc2_w j => pg (len == 3) (pFo (pKl (pCl k) j) fun v => rec k (pc + 3) L (.long v :: st) M nx ok)
  | .iload_n n => pg (len == 1) (pLdI (L[(n : Nat)]?) fun x => rec k (pc + 1) L (.int x :: st) M nx ok)
  | .iload n => pg (len == 2) (pLdI (L[n]?) fun x => rec k (pc + 2) L (.int x :: st) M nx ok)
  | .lload_n n => pg (len == 1) (pLdL (L[(n : Nat)]?) fun x => rec k (pc + 1) L (.long x :: st) M nx ok)
  | .lload n => pg (len == 2) (pLdL (L[n]?) fun x => rec k (pc + 2) L (.long x :: st) M nx ok)
  | .aload_n n => pg (len == 1) (pLdA (L[(n : Nat)]?) fun v => rec k (pc + 1) L (v :: st) M nx ok)
  | .aload n => pg (len == 2) (pLdA (L[n]?) fun v => rec k (pc + 2) L (v :: st) M nx ok)
  | .istore_n n => pg (len == 1 && decide ((n : Nat) < pN k)) (pTpI st fun x st => rec k (pc + 1) (pSt1 L n (.int x)) st M nx ok)
  | .istore n => pg (len == 2 && decide (n < pN k)) (pTpI st fun x st => rec k (pc + 2) (pSt1 L n (.int x)) st M nx ok)
  | .lstore_n n => pg (len == 1 && decide ((n : Nat) + 1 < pN k)) (pTpL st fun x st => rec k (pc + 1) (pSt2 L n (.long x)) st M nx ok)
  | .lstore n => pg (len == 2 && decide (n + 1 < pN k)) (pTpL st fun x st => rec k (pc + 2) (pSt2 L n (.long x)) st M nx ok)
  | .astore_n n => pg (len == 1 && decide ((n : Nat) < pN k)) (pTpA st fun v st => rec k (pc + 1) (pSt1 L n v) st M nx ok)
  | .astore n => pg (len == 2 && decide (n < pN k)) (pTpA st fun v st => rec k (pc + 2) (pSt1 L n v) st M nx ok)
  | .iinc n j => pg (len == 3 && decide (n < pN k)) (pLdI (L[n]?) fun x => rec k (pc + 3) (pSt1 L n (.int (x + Int32.ofInt j))) st M nx ok)
  | .dup => pg (len == 1) (pTp1 st fun v st => rec k (pc + 1) L (v :: v :: st) M nx ok)
  | .pop => pg (len == 1) (pTp1 st fun _ st => rec k (pc + 1) L st M nx ok)
  | .dup_x1 => pg (len == 1) (pTp1 st fun v st => pTp1 st fun u st => rec k (pc + 1) L (v :: u :: v :: st) M nx ok)
  | .dup_x2 => pg (len == 1) (pTp1 st fun v st => pTp1 st fun u st => pTp1 st fun t st => rec k (pc + 1) L (v :: u :: t :: v :: st) M nx ok)
  | .dup2 => pg (len == 1) (match st with
    | .long x :: st => rec k (pc + 1) L (.long x :: .long x :: st) M nx ok
    | st => pTp1 st fun v st => pTp1 st fun u st => rec k (pc + 1) L (v :: u :: v :: u :: st) M nx ok)
  | .ifCond c off => pg (len == 3 && decide (0 ≤ (pc : Int) + off)) (pTpI st fun x st => pBr (pCmp c x 0) (rec k (pTo pc off) L st M nx ok) (rec k (pc + 3) L st M nx ok))
  | .if_icmp c off => pg (len == 3 && decide (0 ≤ (pc : Int) + off)) (pTpI st fun y st => pTpI st fun x st => pBr (pCmp c x y) (rec k (pTo pc off) L st M nx ok) (rec k (pc + 3) L st M nx ok))
  | .goto off => pg (len == 3) (pJ rec k pc off L st M nx ok)
  | .tableswitch df lo hi offs => pTpI st fun x st => pBr (decide (x.toInt < lo ∨ hi < x.toInt)) (pJ rec k pc df L st M nx ok) (pFo (offs[(x.toInt - lo).toNat]?) fun off => pJ rec k pc off L st M nx ok)
  | .lookupswitch df ps => pg ((ps.toList.zip (ps.toList.drop 1)).all (fun (a, next) => a.1 < next.1)) (pTpI st fun x st => pJ rec k pc (Op.lookupswitch.offset ps.toList df x.toInt) L st M nx ok)
  | .getfield j => pg (len == 3) (pFo (pFl (pCl k) j) fun q => pRf st fun a st => pOb M a fun c fs => pg (c == q.1) (pFo (fs[q.2]?) fun v => rec k (pc + 3) L (v :: st) M nx ok))
  | .putfield j => pg (len == 3) (pFo (pFl (pCl k) j) fun q => match st with
    | v :: .ref a :: st => pOb M a fun c fs => pg (c == q.1 && fits (pFt q.1 q.2) v && decide (q.2 < fs.length) && pFw k q.1 q.2) (rec k (pc + 3) L st (pSet M a (.inr (c, fs.set q.2 v))) nx ok)
    | _ => none)
  | .iaload => pg (len == 1) (pTpI st fun i st => match st with
    | .ref a :: st => pAi M 0 a fun n f => pg (pIn i n) (rec k (pc + 1) L (.int (f i.toNatClampNeg) :: st) M nx ok)
    | .retAddr 0 :: st => pg (pIn i X.1) (rec k (pc + 1) L (.int (X.2 i.toNatClampNeg) :: st) M nx ok)
    | _ => none)
  | .iastore => pg (len == 1) (pTpI st fun x st => pTpI st fun i st => pRf st fun a st => pAi M 0 a fun n f => pg (pIn i n) (rec k (pc + 1) L st (pSet M a (.inl (0, n, .inl (upd f i.toNatClampNeg x)))) nx ok))
  | .baload => pg (len == 1) (pTpI st fun i st => pRf st fun a st => pAi M 2 a fun n f => pg (pIn i n) (rec k (pc + 1) L (.int (f i.toNatClampNeg) :: st) M nx ok))
  | .bastore => pg (len == 1) (pTpI st fun x st => pTpI st fun i st => pRf st fun a st => pAi M 2 a fun n f => pg (pIn i n && (x == 0 || x == 1)) (rec k (pc + 1) L st (pSet M a (.inl (2, n, .inl (upd f i.toNatClampNeg x)))) nx ok))
  | .laload => pg (len == 1) (pTpI st fun i st => pRf st fun a st => pAl M a fun n f => pg (pIn i n) (rec k (pc + 1) L (.long (f i.toNatClampNeg) :: st) M nx ok))
  | .lastore => pg (len == 1) (pTpL st fun x st => pTpI st fun i st => pRf st fun a st => pAl M a fun n f => pg (pIn i n) (rec k (pc + 1) L st (pSet M a (.inl (1, n, .inr (.inl (vp_updL f i.toNatClampNeg x))))) nx ok))
  | .arraylength => pg (len == 1) (match st with
    | .ref a :: st => pAi M 0 a fun n _ => rec k (pc + 1) L (.int (Int32.ofNat n) :: st) M nx ok
    | .retAddr 0 :: st => rec k (pc + 1) L (.int (Int32.ofNat X.1) :: st) M nx ok
    | _ => none)
  | .newarray t => pg (len == 2 && ok) (pTpI st fun n st => pg (decide (¬ n < 0) && decide (n.toNatClampNeg ≤ 100000)) (match t with
    | .int => pMp 1 n.toNatClampNeg (rec k (pc + 2) L (.ref nx :: st) (pSet M nx (.inl (0, n.toNatClampNeg, .inl (fun _ => 0)))) (nx + 1) ok)
    | .boolean => pMp 1 n.toNatClampNeg (rec k (pc + 2) L (.ref nx :: st) (pSet M nx (.inl (2, n.toNatClampNeg, .inl (fun _ => 0)))) (nx + 1) ok)
    | .long => pMp 1 n.toNatClampNeg (rec k (pc + 2) L (.ref nx :: st) (pSet M nx (.inl (1, n.toNatClampNeg, .inr (.inl (fun _ => 0))))) (nx + 1) ok)
    | _ => none))
  | .new j => pg (len == 3) (match pTh k pc with
    | some ex => pg (decide (pCat st ≤ 8) && decide (6 ≤ pFr k) && decide (90 ≤ pLo k)) (some (.inr ex, M, nx, false, 1, 6))
    | none => pg ok (pFo (pNw (pCl k) j) fun ci => pMp 1 (pSl ci) (rec k (pc + 3) L (.ref nx :: st) (pSet M nx (.inr (ci, pDf ci))) (nx + 1) ok)))
  | .ireturn => pg (len == 1) (match st with
    | [.int v] => pg (pRi k v) (some (.inl (some (.int v)), M, nx, ok, 0, 0))
    | _ => none)
  | .lreturn => pg (len == 1 && decide (pR k = some .long)) (match st with
    | [.long v] => some (.inl (some (.long v)), M, nx, ok, 0, 0)
    | _ => none)
  | .return_ => pg (len == 1 && decide (pR k = none)) (match st with
    | [] => some (.inl none, M, nx, ok, 0, 0)
    | _ => none)
  | .invokestatic j => pg (len == 3) (pFo (pCa (pCl k) j) fun q => pg (q.1 == 0 || q.1 == 4 || q.1 == 5) (pCall rec q k pc L st M nx ok))
  | .invokevirtual j => pg (len == 3) (pFo (pCa (pCl k) j) fun q => pg (q.1 == 1) (pCall rec q k pc L st M nx ok))
  | .invokespecial j => pg (len == 3) (pFo (pCa (pCl k) j) fun q => pg (q.1 == 2 || q.1 == 3 || q.1 == 6) (pCall rec q k pc L st M nx ok))
  | _ => none
def pRun (X : pScr) : Nat → pRec
  | 0 => fun _ _ _ _ _ _ _ => none
  | n + 1 => fun k pc L st M nx ok => pFo (pFetch k pc) fun q => pEx X (pRun X n) q.1 q.2 k pc L st M nx ok
def pW (X : pScr) (k pc : Nat) (L st : List Value) (M : pMem) (nx : Nat) (ok : Bool) (Q : pRes → Prop) : Prop := ∃ n r, pRun X n k pc L st M nx ok = some r ∧ Q r
def pV (X : pScr) (i : Instr) (len k pc : Nat) (L st : List Value) (M : pMem) (nx : Nat) (ok : Bool) (Q : pRes → Prop) : Prop := ∃ n r, pEx X (pRun X n) i len k pc L st M nx ok = some r ∧ Q r
theorem pW_row {X : pScr} {k pc : Nat} {L st : List Value} {M : pMem} {nx : Nat} {ok : Bool} {Q : pRes → Prop} {i : Instr} {len : Nat} (h : decode (pB k) pc = .ok (i, len)) : pW X k pc L st M nx ok Q ↔ pV X i len k pc L st M nx ok Q := by
  have hf : pFetch k pc = some (i, len) := by unfold pFetch; rw [h]
  constructor
  · rintro ⟨n, r, h1, h2⟩
    cases n with
    | zero => cases h1
    | succ n =>
      simp only [pRun, hf, pFo] at h1
      exact ⟨n, r, h1, h2⟩
  · rintro ⟨n, r, h1, h2⟩
    refine ⟨n + 1, r, ?_, h2⟩
    simp only [pRun, hf, pFo]
    exact h1
