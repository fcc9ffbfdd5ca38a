/-! THE JUDGEMENT: from a frame of method k the real machine comes to the end r -/
def jCx (G : jG) (k : Nat) (p : Program) (s : State) (m : MethodId) (meth : Method) (c : Code) : Prop :=
  p.tables.exec = Jvm.exec ∧ c.code = pB k ∧ c.maxLocals = pN k ∧ meth.sig.returnType = pR k ∧ meth.locks = false ∧ s.vm.findClass (pCn (pCl k)) = some m.cls ∧ meth.name = (pY k).name ∧
  c.exceptionTable.toList.map (fun h => (h.startPc, h.endPc, h.handlerPc, h.catchType)) = pHx k ∧ G.s.WarmedH s.vm ∧ jOld G s.heap
/-- how the end r of the pure machine looks in the real one -/
def jOut (G : jG) (r : pRes) (o : Outcome) (t : State) : Prop := match r.1 with
  | .inl v => o = .returned (v.map (jTr G)) ∧ jH G r.2.1 r.2.2.1 r.2.2.2.1 t.heap
  | .inr ex => jH G r.2.1 r.2.2.1 r.2.2.2.1 t.heap ∧ ∃ (a : Addr) (cell : Cell), o = .threw a ∧ t.heap[a]? = some cell ∧ cell.vm.isStatics = false ∧ G.s.vm.findClass (pXn ex) = some cell.cls
def jEnd (G : jG) (below : List Frame) (s : State) (r : pRes) (tc ts : Nat) : State → Prop := fun t =>
  ∃ o, t.status = .running ∧ Ended t below o ∧ jOut G r o t ∧ s.WarmedH t.vm ∧ ∃ Lc, s.sameButNew ({ t with vm := s.vm } : State) Lc tc ts ∧ ∀ q ∈ Lc, jB G ≤ q.base
def jW (G : jG) (k pc : Nat) (L st : List Value) (M : pMem) (nx : Nat) (ok : Bool) (r : pRes) : Prop :=
  ∀ (p : Program) (e : Env) (R : Room) (s : State) (m : MethodId) (args : Array Value) (below : List Frame) (meth : Method) (c : Code) (H : Heap) (locs : List Loc) (cells slots : Nat) (ls : Array Slot) (tc ts : Nat),
    jCx G k p s m meth c → pFr k ≤ R.frames → pLo k ≤ R.locals → cells + r.2.2.2.2.1 ≤ tc → tc ≤ R.cells → slots + r.2.2.2.2.2 ≤ ts → ts ≤ R.slots → jH G M nx ok H → jL G L ls (pN k) → (∀ q ∈ locs, jB G ≤ q.base) →
    W p G.l e R s m args below meth c H locs cells slots (jEnd G below s r tc ts) (F0 m pc ls (st.map (jTr G)))
section JR
variable {G : jG} {k pc : Nat} {L st : List Value} {M : pMem} {nx : Nat} {ok : Bool} {r : pRes}
theorem js_iconst {n : Int}  (hd : decode (pB k) pc = .ok (.iconst n, 1)) (h : jW G k (pc + 1) L (.int (Int32.ofInt n) :: st) M nx ok r) : jW G k pc L (st) M nx ok r :=
  fun p e R s m args below meth c H locs cells slots ls tc ts cx a1 a2 a3 a4 a5 a6 hH hL hl => have hx := cx.1; have hb := cx.2.1; lv_iconst hx hb hd rfl (h p e R s m args below meth c H locs cells slots ls tc ts cx a1 a2 a3 a4 a5 a6 hH hL hl)
theorem js_bipush {n : Int}  (hd : decode (pB k) pc = .ok (.bipush n, 2)) (h : jW G k (pc + 2) L (.int (Int8.ofInt n).toInt32 :: st) M nx ok r) : jW G k pc L (st) M nx ok r :=
  fun p e R s m args below meth c H locs cells slots ls tc ts cx a1 a2 a3 a4 a5 a6 hH hL hl => have hx := cx.1; have hb := cx.2.1; lv_bipush hx hb hd rfl (h p e R s m args below meth c H locs cells slots ls tc ts cx a1 a2 a3 a4 a5 a6 hH hL hl)
theorem js_sipush {n : Int}  (hd : decode (pB k) pc = .ok (.sipush n, 3)) (h : jW G k (pc + 3) L (.int (Int16.ofInt n).toInt32 :: st) M nx ok r) : jW G k pc L (st) M nx ok r :=
  fun p e R s m args below meth c H locs cells slots ls tc ts cx a1 a2 a3 a4 a5 a6 hH hL hl => have hx := cx.1; have hb := cx.2.1; lv_sipush hx hb hd rfl (h p e R s m args below meth c H locs cells slots ls tc ts cx a1 a2 a3 a4 a5 a6 hH hL hl)
theorem js_lconst {n : Fin 2}  (hd : decode (pB k) pc = .ok (.lconst n, 1)) (h : jW G k (pc + 1) L (.long (Int64.ofNat (n : Nat)) :: st) M nx ok r) : jW G k pc L (st) M nx ok r :=
  fun p e R s m args below meth c H locs cells slots ls tc ts cx a1 a2 a3 a4 a5 a6 hH hL hl => have hx := cx.1; have hb := cx.2.1; lv_lconst hx hb hd rfl (h p e R s m args below meth c H locs cells slots ls tc ts cx a1 a2 a3 a4 a5 a6 hH hL hl)
theorem js_iadd  {x y : Int32} (hd : decode (pB k) pc = .ok (.iadd, 1)) (h : jW G k (pc + 1) L (.int (x + y) :: st) M nx ok r) : jW G k pc L (.int y :: .int x :: st) M nx ok r :=
  fun p e R s m args below meth c H locs cells slots ls tc ts cx a1 a2 a3 a4 a5 a6 hH hL hl => have hx := cx.1; have hb := cx.2.1; lv_iadd hx hb hd (h p e R s m args below meth c H locs cells slots ls tc ts cx a1 a2 a3 a4 a5 a6 hH hL hl)
theorem js_isub  {x y : Int32} (hd : decode (pB k) pc = .ok (.isub, 1)) (h : jW G k (pc + 1) L (.int (x - y) :: st) M nx ok r) : jW G k pc L (.int y :: .int x :: st) M nx ok r :=
  fun p e R s m args below meth c H locs cells slots ls tc ts cx a1 a2 a3 a4 a5 a6 hH hL hl => have hx := cx.1; have hb := cx.2.1; lv_isub hx hb hd (h p e R s m args below meth c H locs cells slots ls tc ts cx a1 a2 a3 a4 a5 a6 hH hL hl)
theorem js_imul  {x y : Int32} (hd : decode (pB k) pc = .ok (.imul, 1)) (h : jW G k (pc + 1) L (.int (x * y) :: st) M nx ok r) : jW G k pc L (.int y :: .int x :: st) M nx ok r :=
  fun p e R s m args below meth c H locs cells slots ls tc ts cx a1 a2 a3 a4 a5 a6 hH hL hl => have hx := cx.1; have hb := cx.2.1; lv_imul hx hb hd (h p e R s m args below meth c H locs cells slots ls tc ts cx a1 a2 a3 a4 a5 a6 hH hL hl)
theorem js_iand  {x y : Int32} (hd : decode (pB k) pc = .ok (.iand, 1)) (h : jW G k (pc + 1) L (.int (x &&& y) :: st) M nx ok r) : jW G k pc L (.int y :: .int x :: st) M nx ok r :=
  fun p e R s m args below meth c H locs cells slots ls tc ts cx a1 a2 a3 a4 a5 a6 hH hL hl => have hx := cx.1; have hb := cx.2.1; lv_iand hx hb hd (h p e R s m args below meth c H locs cells slots ls tc ts cx a1 a2 a3 a4 a5 a6 hH hL hl)
theorem js_ior  {x y : Int32} (hd : decode (pB k) pc = .ok (.ior, 1)) (h : jW G k (pc + 1) L (.int (x ||| y) :: st) M nx ok r) : jW G k pc L (.int y :: .int x :: st) M nx ok r :=
  fun p e R s m args below meth c H locs cells slots ls tc ts cx a1 a2 a3 a4 a5 a6 hH hL hl => have hx := cx.1; have hb := cx.2.1; lv_ior hx hb hd (h p e R s m args below meth c H locs cells slots ls tc ts cx a1 a2 a3 a4 a5 a6 hH hL hl)
theorem js_ixor  {x y : Int32} (hd : decode (pB k) pc = .ok (.ixor, 1)) (h : jW G k (pc + 1) L (.int (x ^^^ y) :: st) M nx ok r) : jW G k pc L (.int y :: .int x :: st) M nx ok r :=
  fun p e R s m args below meth c H locs cells slots ls tc ts cx a1 a2 a3 a4 a5 a6 hH hL hl => have hx := cx.1; have hb := cx.2.1; lv_ixor hx hb hd (h p e R s m args below meth c H locs cells slots ls tc ts cx a1 a2 a3 a4 a5 a6 hH hL hl)
theorem js_ishl  {x y : Int32} (hd : decode (pB k) pc = .ok (.ishl, 1)) (h : jW G k (pc + 1) L (.int (x <<< (y &&& 31)) :: st) M nx ok r) : jW G k pc L (.int y :: .int x :: st) M nx ok r :=
  fun p e R s m args below meth c H locs cells slots ls tc ts cx a1 a2 a3 a4 a5 a6 hH hL hl => have hx := cx.1; have hb := cx.2.1; lv_ishl hx hb hd (h p e R s m args below meth c H locs cells slots ls tc ts cx a1 a2 a3 a4 a5 a6 hH hL hl)
theorem js_ishr  {x y : Int32} (hd : decode (pB k) pc = .ok (.ishr, 1)) (h : jW G k (pc + 1) L (.int (x >>> (y &&& 31)) :: st) M nx ok r) : jW G k pc L (.int y :: .int x :: st) M nx ok r :=
  fun p e R s m args below meth c H locs cells slots ls tc ts cx a1 a2 a3 a4 a5 a6 hH hL hl => have hx := cx.1; have hb := cx.2.1; lv_ishr hx hb hd (h p e R s m args below meth c H locs cells slots ls tc ts cx a1 a2 a3 a4 a5 a6 hH hL hl)
theorem js_iushr  {x y : Int32} (hd : decode (pB k) pc = .ok (.iushr, 1)) (h : jW G k (pc + 1) L (.int (x.toUInt32 >>> (y.toUInt32 &&& Int32.toUInt32 31)).toInt32 :: st) M nx ok r) : jW G k pc L (.int y :: .int x :: st) M nx ok r :=
  fun p e R s m args below meth c H locs cells slots ls tc ts cx a1 a2 a3 a4 a5 a6 hH hL hl => have hx := cx.1; have hb := cx.2.1; lv_iushr hx hb hd rfl (h p e R s m args below meth c H locs cells slots ls tc ts cx a1 a2 a3 a4 a5 a6 hH hL hl)
theorem js_ineg  {x : Int32} (hd : decode (pB k) pc = .ok (.ineg, 1)) (h : jW G k (pc + 1) L (.int (-x) :: st) M nx ok r) : jW G k pc L (.int x :: st) M nx ok r :=
  fun p e R s m args below meth c H locs cells slots ls tc ts cx a1 a2 a3 a4 a5 a6 hH hL hl => have hx := cx.1; have hb := cx.2.1; lv_ineg hx hb hd (h p e R s m args below meth c H locs cells slots ls tc ts cx a1 a2 a3 a4 a5 a6 hH hL hl)
theorem js_ladd  {x y : Int64} (hd : decode (pB k) pc = .ok (.ladd, 1)) (h : jW G k (pc + 1) L (.long (x + y) :: st) M nx ok r) : jW G k pc L (.long y :: .long x :: st) M nx ok r :=
  fun p e R s m args below meth c H locs cells slots ls tc ts cx a1 a2 a3 a4 a5 a6 hH hL hl => have hx := cx.1; have hb := cx.2.1; lv_ladd hx hb hd (h p e R s m args below meth c H locs cells slots ls tc ts cx a1 a2 a3 a4 a5 a6 hH hL hl)
theorem js_lsub  {x y : Int64} (hd : decode (pB k) pc = .ok (.lsub, 1)) (h : jW G k (pc + 1) L (.long (x - y) :: st) M nx ok r) : jW G k pc L (.long y :: .long x :: st) M nx ok r :=
  fun p e R s m args below meth c H locs cells slots ls tc ts cx a1 a2 a3 a4 a5 a6 hH hL hl => have hx := cx.1; have hb := cx.2.1; lv_lsub hx hb hd (h p e R s m args below meth c H locs cells slots ls tc ts cx a1 a2 a3 a4 a5 a6 hH hL hl)
theorem js_lmul  {x y : Int64} (hd : decode (pB k) pc = .ok (.lmul, 1)) (h : jW G k (pc + 1) L (.long (x * y) :: st) M nx ok r) : jW G k pc L (.long y :: .long x :: st) M nx ok r :=
  fun p e R s m args below meth c H locs cells slots ls tc ts cx a1 a2 a3 a4 a5 a6 hH hL hl => have hx := cx.1; have hb := cx.2.1; lv_lmul hx hb hd (h p e R s m args below meth c H locs cells slots ls tc ts cx a1 a2 a3 a4 a5 a6 hH hL hl)
theorem js_land  {x y : Int64} (hd : decode (pB k) pc = .ok (.land, 1)) (h : jW G k (pc + 1) L (.long (x &&& y) :: st) M nx ok r) : jW G k pc L (.long y :: .long x :: st) M nx ok r :=
  fun p e R s m args below meth c H locs cells slots ls tc ts cx a1 a2 a3 a4 a5 a6 hH hL hl => have hx := cx.1; have hb := cx.2.1; lv_land hx hb hd (h p e R s m args below meth c H locs cells slots ls tc ts cx a1 a2 a3 a4 a5 a6 hH hL hl)
theorem js_lor  {x y : Int64} (hd : decode (pB k) pc = .ok (.lor, 1)) (h : jW G k (pc + 1) L (.long (x ||| y) :: st) M nx ok r) : jW G k pc L (.long y :: .long x :: st) M nx ok r :=
  fun p e R s m args below meth c H locs cells slots ls tc ts cx a1 a2 a3 a4 a5 a6 hH hL hl => have hx := cx.1; have hb := cx.2.1; lv_lor hx hb hd (h p e R s m args below meth c H locs cells slots ls tc ts cx a1 a2 a3 a4 a5 a6 hH hL hl)
theorem js_lxor  {x y : Int64} (hd : decode (pB k) pc = .ok (.lxor, 1)) (h : jW G k (pc + 1) L (.long (x ^^^ y) :: st) M nx ok r) : jW G k pc L (.long y :: .long x :: st) M nx ok r :=
  fun p e R s m args below meth c H locs cells slots ls tc ts cx a1 a2 a3 a4 a5 a6 hH hL hl => have hx := cx.1; have hb := cx.2.1; lv_lxor hx hb hd (h p e R s m args below meth c H locs cells slots ls tc ts cx a1 a2 a3 a4 a5 a6 hH hL hl)
theorem js_lneg  {x : Int64} (hd : decode (pB k) pc = .ok (.lneg, 1)) (h : jW G k (pc + 1) L (.long (-x) :: st) M nx ok r) : jW G k pc L (.long x :: st) M nx ok r :=
  fun p e R s m args below meth c H locs cells slots ls tc ts cx a1 a2 a3 a4 a5 a6 hH hL hl => have hx := cx.1; have hb := cx.2.1; lv_lneg hx hb hd (h p e R s m args below meth c H locs cells slots ls tc ts cx a1 a2 a3 a4 a5 a6 hH hL hl)
theorem js_lcmp  {x y : Int64} (hd : decode (pB k) pc = .ok (.lcmp, 1)) (h : jW G k (pc + 1) L (.int (lg_cmp x y) :: st) M nx ok r) : jW G k pc L (.long y :: .long x :: st) M nx ok r :=
  fun p e R s m args below meth c H locs cells slots ls tc ts cx a1 a2 a3 a4 a5 a6 hH hL hl => have hx := cx.1; have hb := cx.2.1; W.lcmp hx hb hd (h p e R s m args below meth c H locs cells slots ls tc ts cx a1 a2 a3 a4 a5 a6 hH hL hl)
theorem js_lshl  {x : Int64} {y : Int32} (hd : decode (pB k) pc = .ok (.lshl, 1)) (h : jW G k (pc + 1) L (.long (x <<< (y.toInt64 &&& 63)) :: st) M nx ok r) : jW G k pc L (.int y :: .long x :: st) M nx ok r :=
  fun p e R s m args below meth c H locs cells slots ls tc ts cx a1 a2 a3 a4 a5 a6 hH hL hl => have hx := cx.1; have hb := cx.2.1; lv_lshl hx hb hd rfl (h p e R s m args below meth c H locs cells slots ls tc ts cx a1 a2 a3 a4 a5 a6 hH hL hl)
theorem js_lshr  {x : Int64} {y : Int32} (hd : decode (pB k) pc = .ok (.lshr, 1)) (h : jW G k (pc + 1) L (.long (x >>> (y.toInt64 &&& 63)) :: st) M nx ok r) : jW G k pc L (.int y :: .long x :: st) M nx ok r :=
  fun p e R s m args below meth c H locs cells slots ls tc ts cx a1 a2 a3 a4 a5 a6 hH hL hl => have hx := cx.1; have hb := cx.2.1; lv_lshr hx hb hd rfl (h p e R s m args below meth c H locs cells slots ls tc ts cx a1 a2 a3 a4 a5 a6 hH hL hl)
theorem js_lushr  {x : Int64} {y : Int32} (hd : decode (pB k) pc = .ok (.lushr, 1)) (h : jW G k (pc + 1) L (.long (x.toUInt64 >>> (y.toInt64.toUInt64 &&& Int64.toUInt64 63)).toInt64 :: st) M nx ok r) : jW G k pc L (.int y :: .long x :: st) M nx ok r :=
  fun p e R s m args below meth c H locs cells slots ls tc ts cx a1 a2 a3 a4 a5 a6 hH hL hl => have hx := cx.1; have hb := cx.2.1; lv_lushr hx hb hd rfl (h p e R s m args below meth c H locs cells slots ls tc ts cx a1 a2 a3 a4 a5 a6 hH hL hl)
theorem js_i2l  {x : Int32} (hd : decode (pB k) pc = .ok (.i2l, 1)) (h : jW G k (pc + 1) L (.long x.toInt64 :: st) M nx ok r) : jW G k pc L (.int x :: st) M nx ok r :=
  fun p e R s m args below meth c H locs cells slots ls tc ts cx a1 a2 a3 a4 a5 a6 hH hL hl => have hx := cx.1; have hb := cx.2.1; lv_i2l hx hb hd rfl (h p e R s m args below meth c H locs cells slots ls tc ts cx a1 a2 a3 a4 a5 a6 hH hL hl)
theorem js_i2b  {x : Int32} (hd : decode (pB k) pc = .ok (.i2b, 1)) (h : jW G k (pc + 1) L (.int x.toInt8.toInt32 :: st) M nx ok r) : jW G k pc L (.int x :: st) M nx ok r :=
  fun p e R s m args below meth c H locs cells slots ls tc ts cx a1 a2 a3 a4 a5 a6 hH hL hl => have hx := cx.1; have hb := cx.2.1; lv_i2b hx hb hd rfl (h p e R s m args below meth c H locs cells slots ls tc ts cx a1 a2 a3 a4 a5 a6 hH hL hl)
theorem js_i2s  {x : Int32} (hd : decode (pB k) pc = .ok (.i2s, 1)) (h : jW G k (pc + 1) L (.int x.toInt16.toInt32 :: st) M nx ok r) : jW G k pc L (.int x :: st) M nx ok r :=
  fun p e R s m args below meth c H locs cells slots ls tc ts cx a1 a2 a3 a4 a5 a6 hH hL hl => have hx := cx.1; have hb := cx.2.1; lv_i2s hx hb hd rfl (h p e R s m args below meth c H locs cells slots ls tc ts cx a1 a2 a3 a4 a5 a6 hH hL hl)
theorem js_i2c  {x : Int32} (hd : decode (pB k) pc = .ok (.i2c, 1)) (h : jW G k (pc + 1) L (.int (x.toUInt32 % 65536).toInt32 :: st) M nx ok r) : jW G k pc L (.int x :: st) M nx ok r :=
  fun p e R s m args below meth c H locs cells slots ls tc ts cx a1 a2 a3 a4 a5 a6 hH hL hl => have hx := cx.1; have hb := cx.2.1; lv_i2c hx hb hd rfl (h p e R s m args below meth c H locs cells slots ls tc ts cx a1 a2 a3 a4 a5 a6 hH hL hl)
theorem js_l2i  {x : Int64} (hd : decode (pB k) pc = .ok (.l2i, 1)) (h : jW G k (pc + 1) L (.int x.toInt32 :: st) M nx ok r) : jW G k pc L (.long x :: st) M nx ok r :=
  fun p e R s m args below meth c H locs cells slots ls tc ts cx a1 a2 a3 a4 a5 a6 hH hL hl => have hx := cx.1; have hb := cx.2.1; lv_l2i hx hb hd rfl (h p e R s m args below meth c H locs cells slots ls tc ts cx a1 a2 a3 a4 a5 a6 hH hL hl)

theorem js_idiv {x y : Int32} (hd : decode (pB k) pc = .ok (.idiv, 1)) (hy : ¬ y = 0) (h : jW G k (pc + 1) L (.int (x / y) :: st) M nx ok r) : jW G k pc L (.int y :: .int x :: st) M nx ok r :=
  fun p e R s m args below meth c H locs cells slots ls tc ts cx a1 a2 a3 a4 a5 a6 hH hL hl => lv_idiv cx.1 cx.2.1 hd hy (h p e R s m args below meth c H locs cells slots ls tc ts cx a1 a2 a3 a4 a5 a6 hH hL hl)
theorem js_irem {x y : Int32} (hd : decode (pB k) pc = .ok (.irem, 1)) (hy : ¬ y = 0) (h : jW G k (pc + 1) L (.int (x - x / y * y) :: st) M nx ok r) : jW G k pc L (.int y :: .int x :: st) M nx ok r :=
  fun p e R s m args below meth c H locs cells slots ls tc ts cx a1 a2 a3 a4 a5 a6 hH hL hl => lv_irem cx.1 cx.2.1 hd hy (h p e R s m args below meth c H locs cells slots ls tc ts cx a1 a2 a3 a4 a5 a6 hH hL hl)
theorem js_iload_n {n : Fin 4} {x : Int32} (hd : decode (pB k) pc = .ok (.iload_n n, 1)) (hv : L[(n : Nat)]? = some (.int x)) (h : jW G k (pc + 1) L (.int x :: st) M nx ok r) : jW G k pc L st M nx ok r :=
  fun p e R s m args below meth c H locs cells slots ls tc ts cx a1 a2 a3 a4 a5 a6 hH hL hl => lv_iload_n cx.1 cx.2.1 hd rfl (hL.get hv (by intro z; cases z)) (h p e R s m args below meth c H locs cells slots ls tc ts cx a1 a2 a3 a4 a5 a6 hH hL hl)
theorem js_iload {n : Nat} {x : Int32} (hd : decode (pB k) pc = .ok (.iload n, 2)) (hv : L[n]? = some (.int x)) (h : jW G k (pc + 2) L (.int x :: st) M nx ok r) : jW G k pc L st M nx ok r :=
  fun p e R s m args below meth c H locs cells slots ls tc ts cx a1 a2 a3 a4 a5 a6 hH hL hl => lv_iload cx.1 cx.2.1 hd (hL.get hv (by intro z; cases z)) (h p e R s m args below meth c H locs cells slots ls tc ts cx a1 a2 a3 a4 a5 a6 hH hL hl)
theorem js_lload_n {n : Fin 4} {x : Int64} (hd : decode (pB k) pc = .ok (.lload_n n, 1)) (hv : L[(n : Nat)]? = some (.long x)) (h : jW G k (pc + 1) L (.long x :: st) M nx ok r) : jW G k pc L st M nx ok r :=
  fun p e R s m args below meth c H locs cells slots ls tc ts cx a1 a2 a3 a4 a5 a6 hH hL hl => lv_lload_n cx.1 cx.2.1 hd rfl (hL.get hv (by intro z; cases z)) (h p e R s m args below meth c H locs cells slots ls tc ts cx a1 a2 a3 a4 a5 a6 hH hL hl)
theorem js_lload {n : Nat} {x : Int64} (hd : decode (pB k) pc = .ok (.lload n, 2)) (hv : L[n]? = some (.long x)) (h : jW G k (pc + 2) L (.long x :: st) M nx ok r) : jW G k pc L st M nx ok r :=
  fun p e R s m args below meth c H locs cells slots ls tc ts cx a1 a2 a3 a4 a5 a6 hH hL hl => lv_lload cx.1 cx.2.1 hd (hL.get hv (by intro z; cases z)) (h p e R s m args below meth c H locs cells slots ls tc ts cx a1 a2 a3 a4 a5 a6 hH hL hl)
theorem js_aload_n {n : Fin 4} {v : Value} (hd : decode (pB k) pc = .ok (.aload_n n, 1)) (hv : L[(n : Nat)]? = some v) (hr : (∃ a, v = .ref a) ∨ v = .retAddr 0) (h : jW G k (pc + 1) L (v :: st) M nx ok r) : jW G k pc L st M nx ok r := by
  intro p e R s m args below meth c H locs cells slots ls tc ts cx a1 a2 a3 a4 a5 a6 hH hL hl
  have h1 := h p e R s m args below meth c H locs cells slots ls tc ts cx a1 a2 a3 a4 a5 a6 hH hL hl
  rcases hr with ⟨a, rfl⟩ | rfl
  · exact lv_aload_n cx.1 cx.2.1 hd rfl (hL.get hv (by intro z; cases z)) h1
  · exact lv_aload_n cx.1 cx.2.1 hd rfl (hL.get hv (by intro z; cases z)) h1
theorem js_aload {n : Nat} {v : Value} (hd : decode (pB k) pc = .ok (.aload n, 2)) (hv : L[n]? = some v) (hr : (∃ a, v = .ref a) ∨ v = .retAddr 0) (h : jW G k (pc + 2) L (v :: st) M nx ok r) : jW G k pc L st M nx ok r := by
  intro p e R s m args below meth c H locs cells slots ls tc ts cx a1 a2 a3 a4 a5 a6 hH hL hl
  have h1 := h p e R s m args below meth c H locs cells slots ls tc ts cx a1 a2 a3 a4 a5 a6 hH hL hl
  rcases hr with ⟨a, rfl⟩ | rfl
  · exact lv_aload cx.1 cx.2.1 hd (hL.get hv (by intro z; cases z)) h1
  · exact lv_aload cx.1 cx.2.1 hd (hL.get hv (by intro z; cases z)) h1
theorem js_istore_n {n : Fin 4} {x : Int32} (hd : decode (pB k) pc = .ok (.istore_n n, 1)) (hn : (n : Nat) < pN k) (h : jW G k (pc + 1) (pSt1 L n (.int x)) st M nx ok r) : jW G k pc L (.int x :: st) M nx ok r :=
  fun p e R s m args below meth c H locs cells slots ls tc ts cx a1 a2 a3 a4 a5 a6 hH hL hl => lv_istore_n cx.1 cx.2.1 hd rfl hL hn rfl fun ls' hL' => h p e R s m args below meth c H locs cells slots ls' tc ts cx a1 a2 a3 a4 a5 a6 hH (jL.st1 (v := .int x) hL') hl
theorem js_istore {n : Nat} {x : Int32} (hd : decode (pB k) pc = .ok (.istore n, 2)) (hn : n < pN k) (h : jW G k (pc + 2) (pSt1 L n (.int x)) st M nx ok r) : jW G k pc L (.int x :: st) M nx ok r :=
  fun p e R s m args below meth c H locs cells slots ls tc ts cx a1 a2 a3 a4 a5 a6 hH hL hl => lv_istore cx.1 cx.2.1 hd hL hn rfl fun ls' hL' => h p e R s m args below meth c H locs cells slots ls' tc ts cx a1 a2 a3 a4 a5 a6 hH (jL.st1 (v := .int x) hL') hl
theorem js_lstore_n {n : Fin 4} {x : Int64} (hd : decode (pB k) pc = .ok (.lstore_n n, 1)) (hn : (n : Nat) + 1 < pN k) (h : jW G k (pc + 1) (pSt2 L n (.long x)) st M nx ok r) : jW G k pc L (.long x :: st) M nx ok r :=
  fun p e R s m args below meth c H locs cells slots ls tc ts cx a1 a2 a3 a4 a5 a6 hH hL hl => lv_lstore_n cx.1 cx.2.1 hd rfl hL hn rfl fun ls' hL' => h p e R s m args below meth c H locs cells slots ls' tc ts cx a1 a2 a3 a4 a5 a6 hH (jL.st2 (v := .long x) hL') hl
theorem js_lstore {n : Nat} {x : Int64} (hd : decode (pB k) pc = .ok (.lstore n, 2)) (hn : n + 1 < pN k) (h : jW G k (pc + 2) (pSt2 L n (.long x)) st M nx ok r) : jW G k pc L (.long x :: st) M nx ok r :=
  fun p e R s m args below meth c H locs cells slots ls tc ts cx a1 a2 a3 a4 a5 a6 hH hL hl => lv_lstore cx.1 cx.2.1 hd hL hn rfl fun ls' hL' => h p e R s m args below meth c H locs cells slots ls' tc ts cx a1 a2 a3 a4 a5 a6 hH (jL.st2 (v := .long x) hL') hl
theorem js_astore_n {n : Fin 4} {v : Value} (hd : decode (pB k) pc = .ok (.astore_n n, 1)) (hr : (∃ a, v = .ref a) ∨ v = .retAddr 0) (hn : (n : Nat) < pN k) (h : jW G k (pc + 1) (pSt1 L n v) st M nx ok r) : jW G k pc L (v :: st) M nx ok r := by
  intro p e R s m args below meth c H locs cells slots ls tc ts cx a1 a2 a3 a4 a5 a6 hH hL hl
  rcases hr with ⟨a, rfl⟩ | rfl
  · exact lv_astore_n cx.1 cx.2.1 hd rfl hL hn rfl fun ls' hL' => h p e R s m args below meth c H locs cells slots ls' tc ts cx a1 a2 a3 a4 a5 a6 hH (jL.st1 (v := .ref a) hL') hl
  · exact lv_astore_n cx.1 cx.2.1 hd rfl hL hn rfl fun ls' hL' => h p e R s m args below meth c H locs cells slots ls' tc ts cx a1 a2 a3 a4 a5 a6 hH (jL.st1 (v := .retAddr 0) hL') hl
theorem js_astore {n : Nat} {v : Value} (hd : decode (pB k) pc = .ok (.astore n, 2)) (hr : (∃ a, v = .ref a) ∨ v = .retAddr 0) (hn : n < pN k) (h : jW G k (pc + 2) (pSt1 L n v) st M nx ok r) : jW G k pc L (v :: st) M nx ok r := by
  intro p e R s m args below meth c H locs cells slots ls tc ts cx a1 a2 a3 a4 a5 a6 hH hL hl
  rcases hr with ⟨a, rfl⟩ | rfl
  · exact lv_astore cx.1 cx.2.1 hd hL hn rfl fun ls' hL' => h p e R s m args below meth c H locs cells slots ls' tc ts cx a1 a2 a3 a4 a5 a6 hH (jL.st1 (v := .ref a) hL') hl
  · exact lv_astore cx.1 cx.2.1 hd hL hn rfl fun ls' hL' => h p e R s m args below meth c H locs cells slots ls' tc ts cx a1 a2 a3 a4 a5 a6 hH (jL.st1 (v := .retAddr 0) hL') hl
theorem js_iinc {n : Nat} {j : Int} {x : Int32} (hd : decode (pB k) pc = .ok (.iinc n j, 3)) (hv : L[n]? = some (.int x)) (hn : n < pN k) (h : jW G k (pc + 3) (pSt1 L n (.int (x + Int32.ofInt j))) st M nx ok r) : jW G k pc L st M nx ok r := by
  intro p e R s m args below meth c H locs cells slots ls tc ts cx a1 a2 a3 a4 a5 a6 hH hL hl
  obtain ⟨q, hq⟩ := List.getElem?_of_mem (jLs_mem.mpr ⟨.int x, hv, (by intro z; cases z), rfl⟩ : ((n, Value.int x) : Nat × Value) ∈ jLs G L)
  exact lv_iinc cx.1 cx.2.1 hd hL hq rfl hn rfl fun ls' hL' => h p e R s m args below meth c H locs cells slots ls' tc ts cx a1 a2 a3 a4 a5 a6 hH (jL.st1 (v := .int (x + Int32.ofInt j)) hL') hl
theorem js_dup {v : Value} (hd : decode (pB k) pc = .ok (.dup, 1)) (hc : v.category = 1) (h : jW G k (pc + 1) L (v :: v :: st) M nx ok r) : jW G k pc L (v :: st) M nx ok r :=
  fun p e R s m args below meth c H locs cells slots ls tc ts cx a1 a2 a3 a4 a5 a6 hH hL hl => lv_dup cx.1 cx.2.1 hd (by rw [jTr_cat]; exact hc) (h p e R s m args below meth c H locs cells slots ls tc ts cx a1 a2 a3 a4 a5 a6 hH hL hl)
theorem js_pop {v : Value} (hd : decode (pB k) pc = .ok (.pop, 1)) (hc : v.category = 1) (h : jW G k (pc + 1) L st M nx ok r) : jW G k pc L (v :: st) M nx ok r :=
  fun p e R s m args below meth c H locs cells slots ls tc ts cx a1 a2 a3 a4 a5 a6 hH hL hl => lv_pop cx.1 cx.2.1 hd (by rw [jTr_cat]; exact hc) (h p e R s m args below meth c H locs cells slots ls tc ts cx a1 a2 a3 a4 a5 a6 hH hL hl)
theorem js_dup_x1 {v u : Value} (hd : decode (pB k) pc = .ok (.dup_x1, 1)) (hc : v.category = 1) (hu : u.category = 1) (h : jW G k (pc + 1) L (v :: u :: v :: st) M nx ok r) : jW G k pc L (v :: u :: st) M nx ok r :=
  fun p e R s m args below meth c H locs cells slots ls tc ts cx a1 a2 a3 a4 a5 a6 hH hL hl => lv_dup_x1 cx.1 cx.2.1 hd (by rw [jTr_cat]; exact hc) (by rw [jTr_cat]; exact hu) (h p e R s m args below meth c H locs cells slots ls tc ts cx a1 a2 a3 a4 a5 a6 hH hL hl)
theorem js_dup_x2 {v u w : Value} (hd : decode (pB k) pc = .ok (.dup_x2, 1)) (hc : v.category = 1) (hu : u.category = 1) (hw : w.category = 1) (h : jW G k (pc + 1) L (v :: u :: w :: v :: st) M nx ok r) : jW G k pc L (v :: u :: w :: st) M nx ok r :=
  fun p e R s m args below meth c H locs cells slots ls tc ts cx a1 a2 a3 a4 a5 a6 hH hL hl => lv_dup_x2 cx.1 cx.2.1 hd (by rw [jTr_cat]; exact hc) (by rw [jTr_cat]; exact hu) (by rw [jTr_cat]; exact hw) (h p e R s m args below meth c H locs cells slots ls tc ts cx a1 a2 a3 a4 a5 a6 hH hL hl)
theorem js_dup2 {v u : Value} (hd : decode (pB k) pc = .ok (.dup2, 1)) (hc : v.category = 1) (hu : u.category = 1) (h : jW G k (pc + 1) L (v :: u :: v :: u :: st) M nx ok r) : jW G k pc L (v :: u :: st) M nx ok r :=
  fun p e R s m args below meth c H locs cells slots ls tc ts cx a1 a2 a3 a4 a5 a6 hH hL hl => lv_dup2_11 cx.1 cx.2.1 hd (by rw [jTr_cat]; exact hc) (by rw [jTr_cat]; exact hu) (h p e R s m args below meth c H locs cells slots ls tc ts cx a1 a2 a3 a4 a5 a6 hH hL hl)
theorem js_dup2l {x : Int64} (hd : decode (pB k) pc = .ok (.dup2, 1)) (h : jW G k (pc + 1) L (.long x :: .long x :: st) M nx ok r) : jW G k pc L (.long x :: st) M nx ok r :=
  fun p e R s m args below meth c H locs cells slots ls tc ts cx a1 a2 a3 a4 a5 a6 hH hL hl => lv_dup2_2 cx.1 cx.2.1 hd rfl (h p e R s m args below meth c H locs cells slots ls tc ts cx a1 a2 a3 a4 a5 a6 hH hL hl)
theorem js_if {cd : ClassFile.Cond} {off : Int} {x : Int32} (hd : decode (pB k) pc = .ok (.ifCond cd off, 3)) (h0 : 0 ≤ (pc : Int) + off) (ht : pCmp cd x 0 = true → jW G k (pTo pc off) L st M nx ok r) (hf : pCmp cd x 0 = false → jW G k (pc + 3) L st M nx ok r) : jW G k pc L (.int x :: st) M nx ok r := by
  intro p e R s m args below meth c H locs cells slots ls tc ts cx a1 a2 a3 a4 a5 a6 hH hL hl
  have hto : (pc : Int) + off = ((pTo pc off : Nat) : Int) := (Int.toNat_of_nonneg h0).symm
  have kt := fun q => ht q p e R s m args below meth c H locs cells slots ls tc ts cx a1 a2 a3 a4 a5 a6 hH hL hl
  have kf := fun q => hf q p e R s m args below meth c H locs cells slots ls tc ts cx a1 a2 a3 a4 a5 a6 hH hL hl
  cases cd
  · exact lv_if_eq cx.1 cx.2.1 hd hto (fun z => kt (decide_eq_true z)) (fun z => kf (decide_eq_false z))
  · exact lv_if_ne cx.1 cx.2.1 hd hto (fun z => kt (by simp [pCmp, z])) (fun z => kf (by simp [pCmp, z]))
  · exact lv_if_lt cx.1 cx.2.1 hd hto (fun z => kt (decide_eq_true z)) (fun z => kf (decide_eq_false z))
  · exact lv_if_ge cx.1 cx.2.1 hd hto (fun z => kt (decide_eq_true z)) (fun z => kf (decide_eq_false z))
  · exact lv_if_gt cx.1 cx.2.1 hd hto (fun z => kt (decide_eq_true z)) (fun z => kf (decide_eq_false z))
  · exact lv_if_le cx.1 cx.2.1 hd hto (fun z => kt (decide_eq_true z)) (fun z => kf (decide_eq_false z))
theorem js_icmp {cd : ClassFile.Cond} {off : Int} {x y : Int32} (hd : decode (pB k) pc = .ok (.if_icmp cd off, 3)) (h0 : 0 ≤ (pc : Int) + off) (ht : pCmp cd x y = true → jW G k (pTo pc off) L st M nx ok r) (hf : pCmp cd x y = false → jW G k (pc + 3) L st M nx ok r) : jW G k pc L (.int y :: .int x :: st) M nx ok r := by
  intro p e R s m args below meth c H locs cells slots ls tc ts cx a1 a2 a3 a4 a5 a6 hH hL hl
  have hto : (pc : Int) + off = ((pTo pc off : Nat) : Int) := (Int.toNat_of_nonneg h0).symm
  have kt := fun q => ht q p e R s m args below meth c H locs cells slots ls tc ts cx a1 a2 a3 a4 a5 a6 hH hL hl
  have kf := fun q => hf q p e R s m args below meth c H locs cells slots ls tc ts cx a1 a2 a3 a4 a5 a6 hH hL hl
  cases cd
  · exact lv_icmp_eq cx.1 cx.2.1 hd hto (fun z => kt (decide_eq_true z)) (fun z => kf (decide_eq_false z))
  · exact lv_icmp_ne cx.1 cx.2.1 hd hto (fun z => kt (by simp [pCmp, z])) (fun z => kf (by simp [pCmp, z]))
  · exact lv_icmp_lt cx.1 cx.2.1 hd hto (fun z => kt (decide_eq_true z)) (fun z => kf (decide_eq_false z))
  · exact lv_icmp_ge cx.1 cx.2.1 hd hto (fun z => kt (decide_eq_true z)) (fun z => kf (decide_eq_false z))
  · exact lv_icmp_gt cx.1 cx.2.1 hd hto (fun z => kt (decide_eq_true z)) (fun z => kf (decide_eq_false z))
  · exact lv_icmp_le cx.1 cx.2.1 hd hto (fun z => kt (decide_eq_true z)) (fun z => kf (decide_eq_false z))
theorem js_goto {off : Int} (hd : decode (pB k) pc = .ok (.goto off, 3)) (h0 : 0 ≤ (pc : Int) + off) (h : jW G k (pTo pc off) L st M nx ok r) : jW G k pc L st M nx ok r :=
  fun p e R s m args below meth c H locs cells slots ls tc ts cx a1 a2 a3 a4 a5 a6 hH hL hl => lv_goto cx.1 cx.2.1 hd (Int.toNat_of_nonneg h0).symm (h p e R s m args below meth c H locs cells slots ls tc ts cx a1 a2 a3 a4 a5 a6 hH hL hl)
theorem js_tableOut {df lo hi : Int} {offs : Array Int} {len : Nat} {x : Int32} (hd : decode (pB k) pc = .ok (.tableswitch df lo hi offs, len)) (hx : x.toInt < lo ∨ hi < x.toInt) (h0 : 0 ≤ (pc : Int) + df) (h : jW G k (pTo pc df) L st M nx ok r) : jW G k pc L (.int x :: st) M nx ok r :=
  fun p e R s m args below meth c H locs cells slots ls tc ts cx a1 a2 a3 a4 a5 a6 hH hL hl => lv_tableOut cx.1 cx.2.1 hd hx (Int.toNat_of_nonneg h0).symm (h p e R s m args below meth c H locs cells slots ls tc ts cx a1 a2 a3 a4 a5 a6 hH hL hl)
theorem js_tableIn {df lo hi : Int} {offs : Array Int} {len : Nat} {x : Int32} {off : Int} (hd : decode (pB k) pc = .ok (.tableswitch df lo hi offs, len)) (hx : ¬ (x.toInt < lo ∨ hi < x.toInt)) (ho : offs[(x.toInt - lo).toNat]? = some off) (h0 : 0 ≤ (pc : Int) + off) (h : jW G k (pTo pc off) L st M nx ok r) : jW G k pc L (.int x :: st) M nx ok r :=
  fun p e R s m args below meth c H locs cells slots ls tc ts cx a1 a2 a3 a4 a5 a6 hH hL hl => lv_tableIn cx.1 cx.2.1 hd (fun z => hx (Or.inl z)) (fun z => hx (Or.inr z)) ho (Int.toNat_of_nonneg h0).symm (h p e R s m args below meth c H locs cells slots ls tc ts cx a1 a2 a3 a4 a5 a6 hH hL hl)
theorem js_lookup {df : Int} {ps : Array (Int × Int)} {len : Nat} {x : Int32} (hd : decode (pB k) pc = .ok (.lookupswitch df ps, len)) (hp : (ps.toList.zip (ps.toList.drop 1)).all (fun (a, next) => a.1 < next.1) = true) (h0 : 0 ≤ (pc : Int) + Op.lookupswitch.offset ps.toList df x.toInt) (h : jW G k (pTo pc (Op.lookupswitch.offset ps.toList df x.toInt)) L st M nx ok r) : jW G k pc L (.int x :: st) M nx ok r :=
  fun p e R s m args below meth c H locs cells slots ls tc ts cx a1 a2 a3 a4 a5 a6 hH hL hl => lv_lookup cx.1 cx.2.1 hd hp rfl (Int.toNat_of_nonneg h0).symm (h p e R s m args below meth c H locs cells slots ls tc ts cx a1 a2 a3 a4 a5 a6 hH hL hl)
/-! returns -/
theorem jEnd_of {below : List Frame} {s t : State} {o : Outcome} {r : pRes} {locs : List Loc} {cells slots tc ts : Nat} (h1 : t.status = .running) (h2 : Ended t below o) (h3 : jOut G r o t) (h4 : s.WarmedH t.vm) (h5 : s.sameButNew ({ t with vm := s.vm } : State) locs cells slots) (hc : cells ≤ tc) (hs : slots ≤ ts) (hl : ∀ q ∈ locs, jB G ≤ q.base) : jEnd G below s r tc ts t :=
  ⟨o, h1, h2, h3, h4, locs, h5.mono hc hs, hl⟩
end JR
