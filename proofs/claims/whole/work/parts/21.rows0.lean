/-! THE PURE MACHINE'S ROWS, one for each kind of instruction: what must hold before, for Q to hold at the end -/
section PR
variable {X : pScr} {k pc : Nat} {L st : List Value} {M : pMem} {nx : Nat} {ok : Bool} {Q : pRes → Prop}
theorem ex_pg {b : Bool} {f : Nat → Option pRes} : (∃ n r, pg b (f n) = some r ∧ Q r) ↔ (b = true ∧ ∃ n r, f n = some r ∧ Q r) := by
  cases b with
  | true => exact ⟨fun h => ⟨rfl, h⟩, fun h => h.2⟩
  | false => exact ⟨fun ⟨_, _, h, _⟩ => (nomatch h), fun h => (nomatch h.1)⟩
theorem ex_t {b : Bool} {f : Nat → Option pRes} (hb : b = true) : (∃ n r, pg b (f n) = some r ∧ Q r) ↔ (∃ n r, f n = some r ∧ Q r) := by
  subst hb
  exact Iff.rfl
theorem ex_fo {α : Type} {o : Option α} {x : α} {f : Nat → α → Option pRes} (h : o = some x) : (∃ n r, pFo o (f n) = some r ∧ Q r) ↔ (∃ n r, f n x = some r ∧ Q r) := by
  subst h
  exact Iff.rfl
/-! memory -/
def pGf (M : pMem) (a c i : Nat) (K : Value → Prop) : Prop := ∃ fs v, M a = some (.inr (c, fs)) ∧ fs[i]? = some v ∧ K v
def pPf (M : pMem) (a c i : Nat) (v : Value) (K : pMem → Prop) : Prop := ∃ fs, M a = some (.inr (c, fs)) ∧ fits (pFt c i) v = true ∧ i < fs.length ∧ K (pSet M a (.inr (c, fs.set i v)))
def pGa (M : pMem) (t a : Nat) (i : Int32) (K : Int32 → Prop) : Prop := ∃ n f, M a = some (.inl (t, n, .inl f)) ∧ pIn i n = true ∧ K (f i.toNatClampNeg)
def pPa (M : pMem) (t a : Nat) (i x : Int32) (K : pMem → Prop) : Prop := ∃ n f, M a = some (.inl (t, n, .inl f)) ∧ pIn i n = true ∧ K (pSet M a (.inl (t, n, .inl (upd f i.toNatClampNeg x))))
def pGl (M : pMem) (a : Nat) (i : Int32) (K : Int64 → Prop) : Prop := ∃ n f, M a = some (.inl (1, n, .inr (.inl f))) ∧ pIn i n = true ∧ K (f i.toNatClampNeg)
def pPl (M : pMem) (a : Nat) (i : Int32) (x : Int64) (K : pMem → Prop) : Prop := ∃ n f, M a = some (.inl (1, n, .inr (.inl f))) ∧ pIn i n = true ∧ K (pSet M a (.inl (1, n, .inr (.inl (vp_updL f i.toNatClampNeg x)))))
def pLn (M : pMem) (a : Nat) (K : Int32 → Prop) : Prop := ∃ n f, M a = some (.inl (0, n, .inl f)) ∧ K (Int32.ofNat n)
def pCy (M : pMem) (a0 a : Nat) (sp dp n : Int32) (K : pMem → Prop) : Prop := ∃ n0 f n1 g, M a0 = some (.inl (0, n0, .inl f)) ∧ M a = some (.inl (0, n1, .inl g)) ∧ ¬ sp < 0 ∧ ¬ dp < 0 ∧ ¬ n < 0 ∧ sp.toNatClampNeg + n.toNatClampNeg ≤ n0 ∧ dp.toNatClampNeg + n.toNatClampNeg ≤ n1 ∧ K (pSet M a (.inl (0, n1, .inl (va_cpy f g sp.toNatClampNeg dp.toNatClampNeg n.toNatClampNeg))))
theorem ex_ob {a c i : Nat} {f : Nat → Value → Option pRes} : (∃ n r, pOb M a (fun c' fs => pg (c' == c) (pFo (fs[i]?) (f n))) = some r ∧ Q r) ↔ pGf M a c i fun v => ∃ n r, f n v = some r ∧ Q r := by
  constructor
  · rintro ⟨n, r, h1, h2⟩
    obtain ⟨c', fs, h3, h4⟩ := pOb_some h1
    obtain ⟨h5, h6⟩ := pg_some h4
    obtain ⟨v, h7, h8⟩ := pFo_some h6
    have e : c' = c := by simpa using h5
    subst e
    exact ⟨fs, v, h3, h7, n, r, h8, h2⟩
  · rintro ⟨fs, v, h3, h7, n, r, h8, h2⟩
    refine ⟨n, r, ?_, h2⟩
    simp only [pOb, h3, h7, beq_self_eq_true, pg, pFo]
    exact h8
theorem ex_ai {t a : Nat} {i : Int32} {f : Nat → Int32 → Option pRes} : (∃ n r, pAi M t a (fun m g => pg (pIn i m) (f n (g i.toNatClampNeg))) = some r ∧ Q r) ↔ pGa M t a i fun v => ∃ n r, f n v = some r ∧ Q r := by
  constructor
  · rintro ⟨n, r, h1, h2⟩
    obtain ⟨m, g, h3, h4⟩ := pAi_some h1
    obtain ⟨h5, h6⟩ := pg_some h4
    exact ⟨m, g, h3, h5, n, r, h6, h2⟩
  · rintro ⟨m, g, h3, h5, n, r, h6, h2⟩
    refine ⟨n, r, ?_, h2⟩
    simp only [pAi, h3, h5, beq_self_eq_true, pg]
    exact h6
theorem ex_ap {t a : Nat} {i x : Int32} {f : Nat → pMem → Option pRes} : (∃ n r, pAi M t a (fun m g => pg (pIn i m) (f n (pSet M a (.inl (t, m, .inl (upd g i.toNatClampNeg x)))))) = some r ∧ Q r) ↔ pPa M t a i x fun M' => ∃ n r, f n M' = some r ∧ Q r := by
  constructor
  · rintro ⟨n, r, h1, h2⟩
    obtain ⟨m, g, h3, h4⟩ := pAi_some h1
    obtain ⟨h5, h6⟩ := pg_some h4
    exact ⟨m, g, h3, h5, n, r, h6, h2⟩
  · rintro ⟨m, g, h3, h5, n, r, h6, h2⟩
    refine ⟨n, r, ?_, h2⟩
    simp only [pAi, h3, h5, beq_self_eq_true, pg]
    exact h6
theorem pr_getfield {j a c i : Nat} (hf : pFl (pCl k) j = some (c, i)) : pV X (.getfield j) 3 k pc L (.ref a :: st) M nx ok Q ↔ pGf M a c i fun v => pW X k (pc + 3) L (v :: st) M nx ok Q :=
  (ex_fo (x := (c, i)) (f := fun n (q : Nat × Nat) => pRf (.ref a :: st) fun a st => pOb M a fun c fs => pg (c == q.1) (pFo (fs[q.2]?) fun v => pRun X n k (pc + 3) L (v :: st) M nx ok)) hf).trans (ex_ob (f := fun n v => pRun X n k (pc + 3) L (v :: st) M nx ok))
theorem pr_putfield {j a c i : Nat} {v : Value} (hf : pFl (pCl k) j = some (c, i)) (hw : pFw k c i = true) : pV X (.putfield j) 3 k pc L (v :: .ref a :: st) M nx ok Q ↔ pPf M a c i v fun M' => pW X k (pc + 3) L st M' nx ok Q := by
  refine (ex_fo (f := fun n q => pOb M a fun c fs => pg (c == q.1 && fits (pFt q.1 q.2) v && decide (q.2 < fs.length) && pFw k q.1 q.2) (pRun X n k (pc + 3) L st (pSet M a (.inr (c, fs.set q.2 v))) nx ok)) hf).trans ?_
  constructor
  · rintro ⟨n, r, h1, h2⟩
    obtain ⟨c', fs, h3, h4⟩ := pOb_some h1
    obtain ⟨h5, h6⟩ := pg_some h4
    simp only [Bool.and_eq_true, beq_iff_eq, decide_eq_true_eq] at h5
    obtain ⟨⟨⟨rfl, g2⟩, g3⟩, -⟩ := h5
    exact ⟨fs, h3, g2, g3, n, r, h6, h2⟩
  · rintro ⟨fs, h3, g2, g3, n, r, h6, h2⟩
    refine ⟨n, r, ?_, h2⟩
    simp only [pOb, h3, g2, g3, hw, beq_self_eq_true, decide_true, Bool.and_self, pg]
    exact h6
theorem pr_iaload {a : Nat} {i : Int32} : pV X .iaload 1 k pc L (.int i :: .ref a :: st) M nx ok Q ↔ pGa M 0 a i fun x => pW X k (pc + 1) L (.int x :: st) M nx ok Q := ex_ai (f := fun n x => pRun X n k (pc + 1) L (.int x :: st) M nx ok)
theorem pr_baload {a : Nat} {i : Int32} : pV X .baload 1 k pc L (.int i :: .ref a :: st) M nx ok Q ↔ pGa M 2 a i fun x => pW X k (pc + 1) L (.int x :: st) M nx ok Q := ex_ai (f := fun n x => pRun X n k (pc + 1) L (.int x :: st) M nx ok)
theorem pr_sald {i : Int32} : pV X .iaload 1 k pc L (.int i :: .retAddr 0 :: st) M nx ok Q ↔ (pIn i X.1 = true ∧ pW X k (pc + 1) L (.int (X.2 i.toNatClampNeg) :: st) M nx ok Q) := ex_pg (f := fun n => pRun X n k (pc + 1) L (.int (X.2 i.toNatClampNeg) :: st) M nx ok)
theorem pr_salen : pV X .arraylength 1 k pc L (.retAddr 0 :: st) M nx ok Q ↔ pW X k (pc + 1) L (.int (Int32.ofNat X.1) :: st) M nx ok Q := Iff.rfl
theorem pr_alen {a : Nat} : pV X .arraylength 1 k pc L (.ref a :: st) M nx ok Q ↔ pLn M a fun x => pW X k (pc + 1) L (.int x :: st) M nx ok Q := by
  constructor
  · rintro ⟨n, r, h1, h2⟩
    obtain ⟨m, g, h3, h4⟩ := pAi_some (K := fun m _ => pRun X n k (pc + 1) L (.int (Int32.ofNat m) :: st) M nx ok) h1
    exact ⟨m, g, h3, n, r, h4, h2⟩
  · rintro ⟨m, g, h3, n, r, h6, h2⟩
    refine ⟨n, r, ?_, h2⟩
    show pAi M 0 a (fun m _ => pRun X n k (pc + 1) L (.int (Int32.ofNat m) :: st) M nx ok) = some r
    simp only [pAi, h3, beq_self_eq_true, pg]
    exact h6
theorem pr_iastore {a : Nat} {i x : Int32} : pV X .iastore 1 k pc L (.int x :: .int i :: .ref a :: st) M nx ok Q ↔ pPa M 0 a i x fun M' => pW X k (pc + 1) L st M' nx ok Q := ex_ap (f := fun n M' => pRun X n k (pc + 1) L st M' nx ok)
theorem pr_bastore {a : Nat} {i x : Int32} : pV X .bastore 1 k pc L (.int x :: .int i :: .ref a :: st) M nx ok Q ↔ ((x = 0 ∨ x = 1) ∧ pPa M 2 a i x fun M' => pW X k (pc + 1) L st M' nx ok Q) := by
  constructor
  · rintro ⟨n, r, h1, h2⟩
    obtain ⟨m, g, h3, h4⟩ := pAi_some (K := fun m g => pg (pIn i m && (x == 0 || x == 1)) (pRun X n k (pc + 1) L st (pSet M a (.inl (2, m, .inl (upd g i.toNatClampNeg x)))) nx ok)) h1
    obtain ⟨h5, h6⟩ := pg_some h4
    simp only [Bool.and_eq_true, Bool.or_eq_true, beq_iff_eq] at h5
    exact ⟨h5.2, m, g, h3, h5.1, n, r, h6, h2⟩
  · rintro ⟨h0, m, g, h3, h5, n, r, h6, h2⟩
    refine ⟨n, r, ?_, h2⟩
    show pAi M 2 a (fun m g => pg (pIn i m && (x == 0 || x == 1)) (pRun X n k (pc + 1) L st (pSet M a (.inl (2, m, .inl (upd g i.toNatClampNeg x)))) nx ok)) = some r
    have h7 : (x == 0 || x == 1) = true := by simpa using h0
    simp only [pAi, h3, h5, h7, beq_self_eq_true, Bool.and_self, pg]
    exact h6
theorem pr_laload {a : Nat} {i : Int32} : pV X .laload 1 k pc L (.int i :: .ref a :: st) M nx ok Q ↔ pGl M a i fun x => pW X k (pc + 1) L (.long x :: st) M nx ok Q := by
  constructor
  · rintro ⟨n, r, h1, h2⟩
    obtain ⟨m, g, h3, h4⟩ := pAl_some (K := fun m g => pg (pIn i m) (pRun X n k (pc + 1) L (.long (g i.toNatClampNeg) :: st) M nx ok)) h1
    obtain ⟨h5, h6⟩ := pg_some h4
    exact ⟨m, g, h3, h5, n, r, h6, h2⟩
  · rintro ⟨m, g, h3, h5, n, r, h6, h2⟩
    refine ⟨n, r, ?_, h2⟩
    show pAl M a (fun m g => pg (pIn i m) (pRun X n k (pc + 1) L (.long (g i.toNatClampNeg) :: st) M nx ok)) = some r
    simp only [pAl, h3, h5, pg]
    exact h6
theorem pr_lastore {a : Nat} {i : Int32} {x : Int64} : pV X .lastore 1 k pc L (.long x :: .int i :: .ref a :: st) M nx ok Q ↔ pPl M a i x fun M' => pW X k (pc + 1) L st M' nx ok Q := by
  constructor
  · rintro ⟨n, r, h1, h2⟩
    obtain ⟨m, g, h3, h4⟩ := pAl_some (K := fun m g => pg (pIn i m) (pRun X n k (pc + 1) L st (pSet M a (.inl (1, m, .inr (.inl (vp_updL g i.toNatClampNeg x))))) nx ok)) h1
    obtain ⟨h5, h6⟩ := pg_some h4
    exact ⟨m, g, h3, h5, n, r, h6, h2⟩
  · rintro ⟨m, g, h3, h5, n, r, h6, h2⟩
    refine ⟨n, r, ?_, h2⟩
    show pAl M a (fun m g => pg (pIn i m) (pRun X n k (pc + 1) L st (pSet M a (.inl (1, m, .inr (.inl (vp_updL g i.toNatClampNeg x))))) nx ok)) = some r
    simp only [pAl, h3, h5, pg]
    exact h6
/-! what is plain -/
theorem pr_idiv {x y : Int32} : pV X .idiv 1 k pc L (.int y :: .int x :: st) M nx ok Q ↔ (¬ y = 0 ∧ pW X k (pc + 1) L (.int (x / y) :: st) M nx ok Q) := (ex_pg (f := fun n => pRun X n k (pc + 1) L (.int (x / y) :: st) M nx ok)).trans (by rw [decide_eq_true_eq]; exact Iff.rfl)
theorem pr_irem {x y : Int32} : pV X .irem 1 k pc L (.int y :: .int x :: st) M nx ok Q ↔ (¬ y = 0 ∧ pW X k (pc + 1) L (.int (x - x / y * y) :: st) M nx ok Q) := (ex_pg (f := fun n => pRun X n k (pc + 1) L (.int (x - x / y * y) :: st) M nx ok)).trans (by rw [decide_eq_true_eq]; exact Iff.rfl)
theorem pr_ldc {j : Nat} {v : Int32} (h : pKi (pCl k) j = some v) : pV X (.ldc j) 2 k pc L st M nx ok Q ↔ pW X k (pc + 2) L (.int v :: st) M nx ok Q := ex_fo (f := fun n v => pRun X n k (pc + 2) L (.int v :: st) M nx ok) h
theorem pr_ldcw {j : Nat} {v : Int32} (h : pKi (pCl k) j = some v) : pV X (.ldc_w j) 3 k pc L st M nx ok Q ↔ pW X k (pc + 3) L (.int v :: st) M nx ok Q := ex_fo (f := fun n v => pRun X n k (pc + 3) L (.int v :: st) M nx ok) h
theorem pr_ldc2 {j : Nat} {v : Int64} (h : pKl (pCl k) j = some v) : pV X (.ldc2_w j) 3 k pc L st M nx ok Q ↔ pW X k (pc + 3) L (.long v :: st) M nx ok Q := ex_fo (f := fun n v => pRun X n k (pc + 3) L (.long v :: st) M nx ok) h
theorem pr_istore_n {n : Fin 4} {x : Int32} (hn : (n : Nat) < pN k) : pV X (.istore_n n) 1 k pc L (.int x :: st) M nx ok Q ↔ pW X k (pc + 1) (pSt1 L n (.int x)) st M nx ok Q := ex_t (f := fun m => pRun X m k (pc + 1) (pSt1 L n (.int x)) st M nx ok) (b := 1 == 1 && decide ((n : Nat) < pN k)) (by simp [hn])
theorem pr_istore {n : Nat} {x : Int32} (hn : n < pN k) : pV X (.istore n) 2 k pc L (.int x :: st) M nx ok Q ↔ pW X k (pc + 2) (pSt1 L n (.int x)) st M nx ok Q := ex_t (f := fun m => pRun X m k (pc + 2) (pSt1 L n (.int x)) st M nx ok) (b := 2 == 2 && decide (n < pN k)) (by simp [hn])
theorem pr_lstore_n {n : Fin 4} {x : Int64} (hn : (n : Nat) + 1 < pN k) : pV X (.lstore_n n) 1 k pc L (.long x :: st) M nx ok Q ↔ pW X k (pc + 1) (pSt2 L n (.long x)) st M nx ok Q := ex_t (f := fun m => pRun X m k (pc + 1) (pSt2 L n (.long x)) st M nx ok) (b := 1 == 1 && decide ((n : Nat) + 1 < pN k)) (by simp [hn])
theorem pr_lstore {n : Nat} {x : Int64} (hn : n + 1 < pN k) : pV X (.lstore n) 2 k pc L (.long x :: st) M nx ok Q ↔ pW X k (pc + 2) (pSt2 L n (.long x)) st M nx ok Q := ex_t (f := fun m => pRun X m k (pc + 2) (pSt2 L n (.long x)) st M nx ok) (b := 2 == 2 && decide (n + 1 < pN k)) (by simp [hn])
theorem pr_astore_n {n : Fin 4} {a : Nat} (hn : (n : Nat) < pN k) : pV X (.astore_n n) 1 k pc L (.ref a :: st) M nx ok Q ↔ pW X k (pc + 1) (pSt1 L n (.ref a)) st M nx ok Q := ex_t (f := fun m => pRun X m k (pc + 1) (pSt1 L n (.ref a)) st M nx ok) (b := 1 == 1 && decide ((n : Nat) < pN k)) (by simp [hn])
theorem pr_astore {n : Nat} {a : Nat} (hn : n < pN k) : pV X (.astore n) 2 k pc L (.ref a :: st) M nx ok Q ↔ pW X k (pc + 2) (pSt1 L n (.ref a)) st M nx ok Q := ex_t (f := fun m => pRun X m k (pc + 2) (pSt1 L n (.ref a)) st M nx ok) (b := 2 == 2 && decide (n < pN k)) (by simp [hn])
theorem pr_iinc {n : Nat} {j : Int} {x : Int32} (hv : L[n]? = some (.int x)) (hn : n < pN k) : pV X (.iinc n j) 3 k pc L st M nx ok Q ↔ pW X k (pc + 3) (pSt1 L n (.int (x + Int32.ofInt j))) st M nx ok Q := by
  refine (ex_t (f := fun m => pLdI (L[n]?) fun x => pRun X m k (pc + 3) (pSt1 L n (.int (x + Int32.ofInt j))) st M nx ok) (b := 3 == 3 && decide (n < pN k)) (by simp [hn])).trans ?_
  rw [hv]
  exact Iff.rfl
theorem ex_br {c : Bool} {f g : Nat → Option pRes} : (∃ n r, pBr c (f n) (g n) = some r ∧ Q r) ↔ (if c = true then (∃ n r, f n = some r ∧ Q r) else (∃ n r, g n = some r ∧ Q r)) := by
  cases c with
  | true => exact Iff.rfl
  | false => exact Iff.rfl
theorem pr_if {c : ClassFile.Cond} {off : Int} {x : Int32} (h0 : 0 ≤ (pc : Int) + off) : pV X (.ifCond c off) 3 k pc L (.int x :: st) M nx ok Q ↔ (if pCmp c x 0 = true then pW X k (pTo pc off) L st M nx ok Q else pW X k (pc + 3) L st M nx ok Q) :=
  (ex_t (f := fun n => pBr (pCmp c x 0) (pRun X n k (pTo pc off) L st M nx ok) (pRun X n k (pc + 3) L st M nx ok)) (b := 3 == 3 && decide (0 ≤ (pc : Int) + off)) (by simp [h0])).trans ex_br
theorem pr_icmp {c : ClassFile.Cond} {off : Int} {x y : Int32} (h0 : 0 ≤ (pc : Int) + off) : pV X (.if_icmp c off) 3 k pc L (.int y :: .int x :: st) M nx ok Q ↔ (if pCmp c x y = true then pW X k (pTo pc off) L st M nx ok Q else pW X k (pc + 3) L st M nx ok Q) :=
  (ex_t (f := fun n => pBr (pCmp c x y) (pRun X n k (pTo pc off) L st M nx ok) (pRun X n k (pc + 3) L st M nx ok)) (b := 3 == 3 && decide (0 ≤ (pc : Int) + off)) (by simp [h0])).trans ex_br
theorem pr_goto {off : Int} (h0 : 0 ≤ (pc : Int) + off) : pV X (.goto off) 3 k pc L st M nx ok Q ↔ pW X k (pTo pc off) L st M nx ok Q := ex_t (f := fun n => pRun X n k (pTo pc off) L st M nx ok) (decide_eq_true h0)
theorem pi_eq {x y : Int32} {A B : Prop} : (if pCmp .eq x y = true then A else B) ↔ (if x = y then A else B) := by simp only [pCmp, decide_eq_true_eq]
theorem pi_ne {x y : Int32} {A B : Prop} : (if pCmp .ne x y = true then A else B) ↔ (if x = y then B else A) := by
  by_cases h : x = y <;> simp [pCmp, h]
theorem pi_lt {x y : Int32} {A B : Prop} : (if pCmp .lt x y = true then A else B) ↔ (if x < y then A else B) := by simp only [pCmp, decide_eq_true_eq]
theorem pi_ge {x y : Int32} {A B : Prop} : (if pCmp .ge x y = true then A else B) ↔ (if x < y then B else A) := by
  by_cases h : x < y
  · have h1 : ¬ y ≤ x := Int32.not_le.mpr h
    simp [pCmp, h, h1]
  · have h1 : y ≤ x := Int32.not_lt.mp h
    simp [pCmp, h, h1]
theorem pi_gt {x y : Int32} {A B : Prop} : (if pCmp .gt x y = true then A else B) ↔ (if y < x then A else B) := by simp only [pCmp, decide_eq_true_eq]
theorem pi_le {x y : Int32} {A B : Prop} : (if pCmp .le x y = true then A else B) ↔ (if y < x then B else A) := by
  by_cases h : y < x
  · have h1 : ¬ x ≤ y := Int32.not_le.mpr h
    simp [pCmp, h, h1]
  · have h1 : x ≤ y := Int32.not_lt.mp h
    simp [pCmp, h, h1]
/-- where a switch goes -/
def pTb (X : pScr) (k pc : Nat) (L st : List Value) (M : pMem) (nx : Nat) (ok : Bool) (Q : pRes → Prop) (o : Option Int) : Prop := ∃ off, o = some off ∧ 0 ≤ (pc : Int) + off ∧ pW X k (pTo pc off) L st M nx ok Q
theorem pTb_t {o : Option Int} {off : Int} (h : o = some off) (h0 : 0 ≤ (pc : Int) + off) : pTb X k pc L st M nx ok Q o ↔ pW X k (pTo pc off) L st M nx ok Q :=
  ⟨fun ⟨_, h1, _, h3⟩ => (by cases h.symm.trans h1; exact h3), fun h3 => ⟨off, h, h0, h3⟩⟩
theorem tb_step {A B C : Prop} {x c : Int32} (f : x = c → (C ↔ A)) (g : ¬ x = c → (C ↔ B)) : C ↔ (if x = c then A else B) := by
  by_cases h : x = c
  · rw [if_pos h]
    exact f h
  · rw [if_neg h]
    exact g h
theorem pr_table {df lo hi : Int} {offs : Array Int} {len : Nat} {x : Int32} : pV X (.tableswitch df lo hi offs) len k pc L (.int x :: st) M nx ok Q ↔ pTb X k pc L st M nx ok Q (if x.toInt < lo ∨ hi < x.toInt then some df else offs[(x.toInt - lo).toNat]?) := by
  refine (ex_br (c := decide (x.toInt < lo ∨ hi < x.toInt)) (f := fun n => pJ (pRun X n) k pc df L st M nx ok) (g := fun n => pFo (offs[(x.toInt - lo).toNat]?) fun off => pJ (pRun X n) k pc off L st M nx ok)).trans ?_
  by_cases h : x.toInt < lo ∨ hi < x.toInt
  · rw [if_pos (decide_eq_true h), if_pos h]
    refine (ex_pg (f := fun n => pRun X n k (pTo pc df) L st M nx ok)).trans ?_
    rw [decide_eq_true_eq]
    exact ⟨fun h1 => ⟨df, rfl, h1.1, h1.2⟩, fun ⟨o, h1, h2, h3⟩ => (by cases h1; exact ⟨h2, h3⟩)⟩
  · rw [if_neg (by simpa using h), if_neg h]
    constructor
    · rintro ⟨n, r, h1, h2⟩
      obtain ⟨off, h3, h4⟩ := pFo_some h1
      obtain ⟨h5, h6⟩ := pg_some h4
      exact ⟨off, h3, of_decide_eq_true h5, n, r, h6, h2⟩
    · rintro ⟨off, h3, h5, n, r, h6, h2⟩
      refine ⟨n, r, ?_, h2⟩
      show pFo (offs[(x.toInt - lo).toNat]?) (fun off => pJ (pRun X n) k pc off L st M nx ok) = some r
      rw [h3]
      show pg (decide (0 ≤ (pc : Int) + off)) _ = some r
      rw [decide_eq_true h5]
      exact h6
/-! ends -/
theorem ex_done {r0 : pRes} : (∃ (n : Nat) (r : pRes), (fun _ : Nat => some r0) n = some r ∧ Q r) ↔ Q r0 := ⟨fun ⟨_, _, h, h2⟩ => Option.some.inj h ▸ h2, fun h => ⟨0, r0, rfl, h⟩⟩
theorem pr_ireturn {v : Int32} (h : pR k = some .int) : pV X .ireturn 1 k pc L [.int v] M nx ok Q ↔ Q (.inl (some (.int v)), M, nx, ok, 0, 0) := (ex_t (f := fun _ => some (.inl (some (.int v)), M, nx, ok, 0, 0)) (show pRi k v = true by unfold pRi; rw [h])).trans ex_done
theorem pr_zreturn {v : Int32} (h : pR k = some .boolean) : pV X .ireturn 1 k pc L [.int v] M nx ok Q ↔ ((v = 0 ∨ v = 1) ∧ Q (.inl (some (.int v)), M, nx, ok, 0, 0)) := by
  have e : pRi k v = (v == 0 || v == 1) := by unfold pRi; rw [h]
  refine (ex_pg (f := fun _ => some (.inl (some (.int v)), M, nx, ok, 0, 0)) (b := pRi k v)).trans ?_
  rw [ex_done, e]
  simp
theorem pr_lreturn {v : Int64} (h : pR k = some .long) : pV X .lreturn 1 k pc L [.long v] M nx ok Q ↔ Q (.inl (some (.long v)), M, nx, ok, 0, 0) := (ex_t (f := fun _ => some (.inl (some (.long v)), M, nx, ok, 0, 0)) (b := 1 == 1 && decide (pR k = some .long)) (by simp [h])).trans ex_done
theorem pr_return (h : pR k = none) : pV X .return_ 1 k pc L [] M nx ok Q ↔ Q (.inl none, M, nx, ok, 0, 0) := (ex_t (f := fun _ => some (.inl none, M, nx, ok, 0, 0)) (b := 1 == 1 && decide (pR k = none)) (by simp [h])).trans ex_done
theorem pr_throw {j ex : Nat} (h : pTh k pc = some ex) (hc : pCat st ≤ 8) (hf : 6 ≤ pFr k) (hl : 90 ≤ pLo k) : pV X (.new j) 3 k pc L st M nx ok Q ↔ Q (.inr ex, M, nx, false, 1, 6) := by
  show (∃ n r, (match pTh k pc with
    | some ex => pg (decide (pCat st ≤ 8) && decide (6 ≤ pFr k) && decide (90 ≤ pLo k)) (some (.inr ex, M, nx, false, 1, 6))
    | none => pg ok (pFo (pNw (pCl k) j) fun ci => pMp 1 (pSl ci) (pRun X n k (pc + 3) L (.ref nx :: st) (pSet M nx (.inr (ci, pDf ci))) (nx + 1) ok))) = some r ∧ Q r) ↔ _
  rw [h]
  exact (ex_t (f := fun _ => some (.inr ex, M, nx, false, 1, 6)) (by simp [hc, hf, hl])).trans ex_done
theorem pr_new {j ci : Nat} (h : pTh k pc = none) (hj : pNw (pCl k) j = some ci) : pV X (.new j) 3 k pc L st M nx ok Q ↔ (ok = true ∧ pW X k (pc + 3) L (.ref nx :: st) (pSet M nx (.inr (ci, pDf ci))) (nx + 1) ok (fun r => Q (pAdd 1 (pSl ci) r))) := by
  show (∃ n r, (match pTh k pc with
    | some ex => pg (decide (pCat st ≤ 8) && decide (6 ≤ pFr k) && decide (90 ≤ pLo k)) (some (.inr ex, M, nx, false, 1, 6))
    | none => pg ok (pFo (pNw (pCl k) j) fun ci => pMp 1 (pSl ci) (pRun X n k (pc + 3) L (.ref nx :: st) (pSet M nx (.inr (ci, pDf ci))) (nx + 1) ok))) = some r ∧ Q r) ↔ _
  rw [h, hj]
  exact (ex_pg (f := fun n => pMp 1 (pSl ci) (pRun X n k (pc + 3) L (.ref nx :: st) (pSet M nx (.inr (ci, pDf ci))) (nx + 1) ok))).trans (and_congr_right fun _ => pv_mp)
theorem pr_newI {n : Int32} : pV X (.newarray .int) 2 k pc L (.int n :: st) M nx true Q ↔ ((¬ n < 0 ∧ n.toNatClampNeg ≤ 100000) ∧ pW X k (pc + 2) L (.ref nx :: st) (pSet M nx (.inl (0, n.toNatClampNeg, .inl (fun _ => 0)))) (nx + 1) true (fun r => Q (pAdd 1 n.toNatClampNeg r))) :=
  (ex_pg (f := fun m => pMp 1 n.toNatClampNeg (pRun X m k (pc + 2) L (.ref nx :: st) (pSet M nx (.inl (0, n.toNatClampNeg, .inl (fun _ => 0)))) (nx + 1) true))).trans (and_congr (by rw [Bool.and_eq_true, decide_eq_true_eq, decide_eq_true_eq]) pv_mp)
theorem pr_newZ {n : Int32} : pV X (.newarray .boolean) 2 k pc L (.int n :: st) M nx true Q ↔ ((¬ n < 0 ∧ n.toNatClampNeg ≤ 100000) ∧ pW X k (pc + 2) L (.ref nx :: st) (pSet M nx (.inl (2, n.toNatClampNeg, .inl (fun _ => 0)))) (nx + 1) true (fun r => Q (pAdd 1 n.toNatClampNeg r))) :=
  (ex_pg (f := fun m => pMp 1 n.toNatClampNeg (pRun X m k (pc + 2) L (.ref nx :: st) (pSet M nx (.inl (2, n.toNatClampNeg, .inl (fun _ => 0)))) (nx + 1) true))).trans (and_congr (by rw [Bool.and_eq_true, decide_eq_true_eq, decide_eq_true_eq]) pv_mp)
theorem pr_newJ {n : Int32} : pV X (.newarray .long) 2 k pc L (.int n :: st) M nx true Q ↔ ((¬ n < 0 ∧ n.toNatClampNeg ≤ 100000) ∧ pW X k (pc + 2) L (.ref nx :: st) (pSet M nx (.inl (1, n.toNatClampNeg, .inr (.inl (fun _ => 0))))) (nx + 1) true (fun r => Q (pAdd 1 n.toNatClampNeg r))) :=
  (ex_pg (f := fun m => pMp 1 n.toNatClampNeg (pRun X m k (pc + 2) L (.ref nx :: st) (pSet M nx (.inl (1, n.toNatClampNeg, .inr (.inl (fun _ => 0))))) (nx + 1) true))).trans (and_congr (by rw [Bool.and_eq_true, decide_eq_true_eq, decide_eq_true_eq]) pv_mp)
/-! calls -/
theorem pr_static {j k2 n ci : Nat} {av rest : List Value} (hj : pCa (pCl k) j = some (0, k2, n, ci)) (ht : (st.take n).reverse = av) (hd : st.drop n = rest) (hn : n ≤ st.length) (h8 : pCat rest ≤ 8) (hl : (pArgs av).length ≤ pN k2) (hf : pFr k2 + 1 ≤ pFr k) (hlo : 8 + (pN k2 + 11) + pLo k2 ≤ pLo k) :
    pV X (.invokestatic j) 3 k pc L st M nx ok Q ↔ pW X k2 0 (pEnt k2 av) [] M nx ok (pK X k pc L rest Q) := by
  refine (ex_fo (f := fun m q => pg (q.1 == 0 || q.1 == 4 || q.1 == 5) (pCall (pRun X m) q k pc L st M nx ok)) hj).trans ?_
  refine (ex_t (f := fun m => pCall (pRun X m) (0, k2, n, ci) k pc L st M nx ok) rfl).trans ?_
  refine (ex_t (f := fun m => pGo (pRun X m) k pc k2 L (st.take n).reverse (st.drop n) M nx ok) (decide_eq_true hn)).trans ?_
  rw [ht, hd]
  exact pv_go h8 hl hf hlo
theorem pr_virtual {j k2 n ci : Nat} {av rest : List Value} (hj : pCa (pCl k) j = some (1, k2, n, ci)) (ht : (st.take n).reverse = av) (hd : st.drop n = rest) (hn : n ≤ st.length) (h8 : pCat rest ≤ 8) (hl : (pArgs av).length ≤ pN k2) (hf : pFr k2 + 1 ≤ pFr k) (hlo : 8 + (pN k2 + 11) + pLo k2 ≤ pLo k) :
    pV X (.invokevirtual j) 3 k pc L st M nx ok Q ↔ (pIs av M ci = true ∧ pW X k2 0 (pEnt k2 av) [] M nx ok (pK X k pc L rest Q)) := by
  refine (ex_fo (f := fun m q => pg (q.1 == 1) (pCall (pRun X m) q k pc L st M nx ok)) hj).trans ?_
  refine (ex_t (f := fun m => pCall (pRun X m) (1, k2, n, ci) k pc L st M nx ok) rfl).trans ?_
  refine (ex_pg (f := fun m => pGo (pRun X m) k pc k2 L (st.take n).reverse (st.drop n) M nx ok)).trans ?_
  rw [ht, hd]
  refine and_congr (by simp [hn]) (pv_go h8 hl hf hlo)
theorem pr_ctor {j k2 n ci : Nat} {av rest : List Value} (hj : pCa (pCl k) j = some (2, k2, n, ci)) (ht : (st.take n).reverse = av) (hd : st.drop n = rest) (hn : n ≤ st.length) (h8 : pCat rest ≤ 8) (hl : (pArgs av).length ≤ pN k2) (hf : pFr k2 + 1 ≤ pFr k) (hlo : 8 + (pN k2 + 11) + pLo k2 ≤ pLo k) :
    pV X (.invokespecial j) 3 k pc L st M nx ok Q ↔ (pIs av M ci = true ∧ pW X k2 0 (pEnt k2 av) [] M nx ok (pK X k pc L rest Q)) := by
  refine (ex_fo (f := fun m q => pg (q.1 == 2 || q.1 == 3 || q.1 == 6) (pCall (pRun X m) q k pc L st M nx ok)) hj).trans ?_
  refine (ex_t (f := fun m => pCall (pRun X m) (2, k2, n, ci) k pc L st M nx ok) rfl).trans ?_
  refine (ex_pg (f := fun m => pGo (pRun X m) k pc k2 L (st.take n).reverse (st.drop n) M nx ok)).trans ?_
  rw [ht, hd]
  refine and_congr (by simp [hn]) (pv_go h8 hl hf hlo)
theorem pr_ctorN {j k2 n ci : Nat} {av rest : List Value} (hj : pCa (pCl k) j = some (6, k2, n, ci)) (ht : (st.take n).reverse = av) (hd : st.drop n = rest) (hn : n ≤ st.length) (h8 : pCat rest ≤ 8) (hl : (pArgs av).length ≤ pN k2) (hf : pFr k2 + 1 ≤ pFr k) (hlo : 8 + (pN k2 + 11) + pLo k2 ≤ pLo k) :
    pV X (.invokespecial j) 3 k pc L st M nx ok Q ↔ (pIs av M ci = true ∧ pW X k2 0 (pEnt k2 av) [] M nx ok (pK X k pc L rest Q)) := by
  refine (ex_fo (f := fun m q => pg (q.1 == 2 || q.1 == 3 || q.1 == 6) (pCall (pRun X m) q k pc L st M nx ok)) hj).trans ?_
  refine (ex_t (f := fun m => pCall (pRun X m) (6, k2, n, ci) k pc L st M nx ok) rfl).trans ?_
  refine (ex_pg (f := fun m => pGo (pRun X m) k pc k2 L (st.take n).reverse (st.drop n) M nx ok)).trans ?_
  rw [ht, hd]
  refine and_congr (by simp [hn]) (pv_go h8 hl hf hlo)
theorem pr_objInit {j a : Nat} {q : Nat × Nat × Nat} (hj : pCa (pCl k) j = some (3, q)) (hc : pCat st ≤ 8) (hf : 1 ≤ pFr k) (hl : 20 ≤ pLo k) : pV X (.invokespecial j) 3 k pc L (.ref a :: st) M nx ok Q ↔ pW X k (pc + 3) L st M nx ok Q := by
  refine (ex_fo (f := fun m q => pg (q.1 == 2 || q.1 == 3 || q.1 == 6) (pCall (pRun X m) q k pc L (.ref a :: st) M nx ok)) hj).trans ?_
  refine (ex_t (f := fun m => pCall (pRun X m) (3, q) k pc L (.ref a :: st) M nx ok) rfl).trans ?_
  exact ex_t (f := fun m => pRun X m k (pc + 3) L st M nx ok) (by simp [hc, hf, hl])
theorem pr_max {j : Nat} {x y : Int32} {q : Nat × Nat × Nat} (hj : pCa (pCl k) j = some (5, q)) (hc : pCat st ≤ 8) (hf : 1 ≤ pFr k) (hl : 21 ≤ pLo k) : pV X (.invokestatic j) 3 k pc L (.int y :: .int x :: st) M nx ok Q ↔ pW X k (pc + 3) L (.int (if x < y then y else x) :: st) M nx ok Q := by
  refine (ex_fo (f := fun m q => pg (q.1 == 0 || q.1 == 4 || q.1 == 5) (pCall (pRun X m) q k pc L (.int y :: .int x :: st) M nx ok)) hj).trans ?_
  refine (ex_t (f := fun m => pCall (pRun X m) (5, q) k pc L (.int y :: .int x :: st) M nx ok) rfl).trans ?_
  refine (ex_t (f := fun m => p2i (fun x y => .int (if x < y then y else x)) (fun st => pg (decide (pCat st ≤ 9)) (pRun X m k (pc + 3) L st M nx ok)) (.int y :: .int x :: st)) (by simp [hf, hl])).trans ?_
  have h9 : pCat (Value.int (if x < y then y else x) :: st) ≤ 9 := by
    show 1 + pCat st ≤ 9
    omega
  exact ex_t (f := fun m => pRun X m k (pc + 3) L (.int (if x < y then y else x) :: st) M nx ok) (decide_eq_true h9)
theorem pr_copy {j a a0 : Nat} {sp dp n : Int32} {q : Nat × Nat × Nat} (hj : pCa (pCl k) j = some (4, q)) (hc : pCat st ≤ 8) (hf : 1 ≤ pFr k) (hl : 59 ≤ pLo k) : pV X (.invokestatic j) 3 k pc L (.int n :: .int dp :: .ref a :: .int sp :: .ref a0 :: st) M nx ok Q ↔ pCy M a0 a sp dp n fun M' => pW X k (pc + 3) L st M' nx ok Q := by
  refine (ex_fo (f := fun m q => pg (q.1 == 0 || q.1 == 4 || q.1 == 5) (pCall (pRun X m) q k pc L (.int n :: .int dp :: .ref a :: .int sp :: .ref a0 :: st) M nx ok)) hj).trans ?_
  refine (ex_t (f := fun m => pCall (pRun X m) (4, q) k pc L (.int n :: .int dp :: .ref a :: .int sp :: .ref a0 :: st) M nx ok) rfl).trans ?_
  refine (ex_t (f := fun m => pCp (.int n :: .int dp :: .ref a :: .int sp :: .ref a0 :: st) M fun st M => pRun X m k (pc + 3) L st M nx ok) (by simp [hf, hl])).trans ?_
  constructor
  · rintro ⟨m, r, h1, h2⟩
    obtain ⟨n', dp', a', sp', a0', st1, n0, f, n1, g, e, c0, c1, d1, d2, d3, d4, d5, d6, h3⟩ := pCp_some h1
    cases e
    exact ⟨n0, f, n1, g, c0, c1, d1, d2, d3, d4, d5, m, r, h3, h2⟩
  · rintro ⟨n0, f, n1, g, c0, c1, d1, d2, d3, d4, d5, m, r, h3, h2⟩
    refine ⟨m, r, ?_, h2⟩
    simp only [pCp, pAi, c0, c1, beq_self_eq_true, pg, d1, d2, d3, d4, d5, hc, not_false_eq_true, decide_true, Bool.and_self]
    exact h3
theorem pAdd_0 (r : pRes) : pAdd 0 0 r = r := by
  obtain ⟨o, M, n, b, kc, ks⟩ := r
  simp [pAdd]
theorem pAdd_add (a b c d : Nat) (r : pRes) : pAdd a b (pAdd c d r) = pAdd (a + c) (b + d) r := by
  obtain ⟨o, M, n, b, kc, ks⟩ := r
  simp [pAdd, Nat.add_assoc]
theorem pK_v {rest : List Value} {v : Value} {kc ks : Nat} : pK X k pc L rest Q (.inl (some v), M, nx, ok, kc, ks) ↔ pW X k (pc + 3) L (v :: rest) M nx ok (fun r2 => Q (pAdd kc ks r2)) := Iff.rfl
theorem pK_n {rest : List Value} {kc ks : Nat} : pK X k pc L rest Q (.inl none, M, nx, ok, kc, ks) ↔ pW X k (pc + 3) L rest M nx ok (fun r2 => Q (pAdd kc ks r2)) := Iff.rfl
theorem pK_x {rest : List Value} {ex kc ks : Nat} (h : pHx k = []) : pK X k pc L rest Q (.inr ex, M, nx, ok, kc, ks) ↔ Q (.inr ex, M, nx, ok, kc, ks) := by
  show (match pHx k with
    | [] => Q (.inr ex, M, nx, ok, kc, ks)
    | _ :: _ => ∃ q, pHd k pc ex = some q ∧ pW X k q.1 (pSt1 L q.2 pDum) [] M nx ok (fun r2 => Q (pAdd kc ks r2))) ↔ _
  rw [h]
theorem pK_c {rest : List Value} {ex kc ks : Nat} {q : Nat × Nat} (h : pHx k ≠ []) (hq : pHd k pc ex = some q) : pK X k pc L rest Q (.inr ex, M, nx, ok, kc, ks) ↔ pW X k q.1 (pSt1 L q.2 pDum) [] M nx ok (fun r2 => Q (pAdd kc ks r2)) := by
  show (match pHx k with
    | [] => Q (.inr ex, M, nx, ok, kc, ks)
    | _ :: _ => ∃ q, pHd k pc ex = some q ∧ pW X k q.1 (pSt1 L q.2 pDum) [] M nx ok (fun r2 => Q (pAdd kc ks r2))) ↔ _
  cases e : pHx k with
  | nil => exact absurd e h
  | cons a t => exact ⟨fun ⟨q', h1, h2⟩ => (by cases h1.symm.trans hq; exact h2), fun h2 => ⟨q, hq, h2⟩⟩
end PR
