/-! EVALUATION: the pure machine's rows, and that more fuel changes nothing -/
def pLe (x y : Option pRes) : Prop := ∀ r, x = some r → y = some r
theorem pl_rf {x : Option pRes} : pLe x x := fun _ h => h
theorem pl_nn {y : Option pRes} : pLe none y := fun _ h => by cases h
theorem pl_pg {b : Bool} {x y : Option pRes} (h : pLe x y) : pLe (pg b x) (pg b y) := by
  cases b with
  | true => exact h
  | false => exact pl_nn
theorem pl_fo {α : Type} {o : Option α} {K K' : α → Option pRes} (h : ∀ x, pLe (K x) (K' x)) : pLe (pFo o K) (pFo o K') := by
  cases o with
  | none => exact pl_nn
  | some x => exact h x
theorem pl_bi {α : Type} {o o' : Option pRes} {K K' : pRes → Option pRes} (ho : pLe o o') (h : ∀ x, pLe (K x) (K' x)) : pLe (pFo o K) (pFo o' K') := by
  intro r hr
  obtain ⟨x, h1, h2⟩ := pFo_some hr
  rw [ho x h1]
  exact h x r h2
theorem pl_mp {kc ks : Nat} {x y : Option pRes} (h : pLe x y) : pLe (pMp kc ks x) (pMp kc ks y) := by
  intro r hr
  obtain ⟨r1, h1, h2⟩ := pMp_some hr
  rw [h r1 h1, h2]
  rfl
theorem pl_br {b : Bool} {x y x' y' : Option pRes} (h : pLe x x') (h' : pLe y y') : pLe (pBr b x y) (pBr b x' y') := by
  cases b with
  | true => exact h
  | false => exact h'
theorem pl_ldi {o : Option Value} {K K2 : Int32 → Option pRes} (h : ∀ a, pLe (K a) (K2 a)) : pLe (pLdI o K) (pLdI o K2) := by
  intro r hr
  unfold pLdI at hr ⊢
  split at hr
  all_goals first
    | exact h _ _ hr
    | exact h _ hr
    | exact h _ _ _ hr
    | cases hr
    | exact pl_pg (h _ _) r hr
theorem pl_ldl {o : Option Value} {K K2 : Int64 → Option pRes} (h : ∀ a, pLe (K a) (K2 a)) : pLe (pLdL o K) (pLdL o K2) := by
  intro r hr
  unfold pLdL at hr ⊢
  split at hr
  all_goals first
    | exact h _ _ hr
    | exact h _ hr
    | exact h _ _ _ hr
    | cases hr
    | exact pl_pg (h _ _) r hr
theorem pl_lda {o : Option Value} {K K2 : Value → Option pRes} (h : ∀ a, pLe (K a) (K2 a)) : pLe (pLdA o K) (pLdA o K2) := by
  intro r hr
  unfold pLdA at hr ⊢
  split at hr
  all_goals first
    | exact h _ _ hr
    | exact h _ hr
    | exact h _ _ _ hr
    | cases hr
    | exact pl_pg (h _ _) r hr
theorem pl_tpi {st : List Value} {K K2 : Int32 → List Value → Option pRes} (h : ∀ a b, pLe (K a b) (K2 a b)) : pLe (pTpI st K) (pTpI st K2) := by
  intro r hr
  unfold pTpI at hr ⊢
  split at hr
  all_goals first
    | exact h _ _ hr
    | exact h _ hr
    | exact h _ _ _ hr
    | cases hr
    | exact pl_pg (h _ _) r hr
theorem pl_tpl {st : List Value} {K K2 : Int64 → List Value → Option pRes} (h : ∀ a b, pLe (K a b) (K2 a b)) : pLe (pTpL st K) (pTpL st K2) := by
  intro r hr
  unfold pTpL at hr ⊢
  split at hr
  all_goals first
    | exact h _ _ hr
    | exact h _ hr
    | exact h _ _ _ hr
    | cases hr
    | exact pl_pg (h _ _) r hr
theorem pl_tpa {st : List Value} {K K2 : Value → List Value → Option pRes} (h : ∀ a b, pLe (K a b) (K2 a b)) : pLe (pTpA st K) (pTpA st K2) := by
  intro r hr
  unfold pTpA at hr ⊢
  split at hr
  all_goals first
    | exact h _ _ hr
    | exact h _ hr
    | exact h _ _ _ hr
    | cases hr
    | exact pl_pg (h _ _) r hr
theorem pl_tp1 {st : List Value} {K K2 : Value → List Value → Option pRes} (h : ∀ a b, pLe (K a b) (K2 a b)) : pLe (pTp1 st K) (pTp1 st K2) := by
  intro r hr
  unfold pTp1 at hr ⊢
  split at hr
  all_goals first
    | exact h _ _ hr
    | exact h _ hr
    | exact h _ _ _ hr
    | cases hr
    | exact pl_pg (h _ _) r hr
theorem pl_ob {M : pMem} {a : Nat} {K K2 : Nat → List Value → Option pRes} (h : ∀ c b, pLe (K c b) (K2 c b)) : pLe (pOb M a K) (pOb M a K2) := by
  intro r hr
  unfold pOb at hr ⊢
  split at hr
  all_goals first
    | exact h _ _ hr
    | exact h _ hr
    | exact h _ _ _ hr
    | cases hr
    | exact pl_pg (h _ _) r hr
theorem pl_ai {M : pMem} {t a : Nat} {K K2 : Nat → (Nat → Int32) → Option pRes} (h : ∀ c b, pLe (K c b) (K2 c b)) : pLe (pAi M t a K) (pAi M t a K2) := by
  intro r hr
  unfold pAi at hr ⊢
  split at hr
  all_goals first
    | exact h _ _ hr
    | exact h _ hr
    | exact h _ _ _ hr
    | cases hr
    | exact pl_pg (h _ _) r hr
theorem pl_al {M : pMem} {a : Nat} {K K2 : Nat → (Nat → Int64) → Option pRes} (h : ∀ c b, pLe (K c b) (K2 c b)) : pLe (pAl M a K) (pAl M a K2) := by
  intro r hr
  unfold pAl at hr ⊢
  split at hr
  all_goals first
    | exact h _ _ hr
    | exact h _ hr
    | exact h _ _ _ hr
    | cases hr
    | exact pl_pg (h _ _) r hr
theorem pl_rf1 {st : List Value} {K K2 : Nat → List Value → Option pRes} (h : ∀ a b, pLe (K a b) (K2 a b)) : pLe (pRf st K) (pRf st K2) := by
  intro r hr
  unfold pRf at hr ⊢
  split at hr
  all_goals first
    | exact h _ _ hr
    | exact h _ hr
    | exact h _ _ _ hr
    | cases hr
    | exact pl_pg (h _ _) r hr
theorem pl_2i {f : Int32 → Int32 → Value} {K K2 : pKo} {st : List Value} (h : ∀ a, pLe (K a) (K2 a)) : pLe (p2i f K st) (p2i f K2 st) := by
  intro r hr
  unfold p2i at hr ⊢
  split at hr
  · exact h _ r hr
  · cases hr
theorem pl_1i {f : Int32 → Value} {K K2 : pKo} {st : List Value} (h : ∀ a, pLe (K a) (K2 a)) : pLe (p1i f K st) (p1i f K2 st) := by
  intro r hr
  unfold p1i at hr ⊢
  split at hr
  · exact h _ r hr
  · cases hr
theorem pl_2l {f : Int64 → Int64 → Value} {K K2 : pKo} {st : List Value} (h : ∀ a, pLe (K a) (K2 a)) : pLe (p2l f K st) (p2l f K2 st) := by
  intro r hr
  unfold p2l at hr ⊢
  split at hr
  · exact h _ r hr
  · cases hr
theorem pl_1l {f : Int64 → Value} {K K2 : pKo} {st : List Value} (h : ∀ a, pLe (K a) (K2 a)) : pLe (p1l f K st) (p1l f K2 st) := by
  intro r hr
  unfold p1l at hr ⊢
  split at hr
  · exact h _ r hr
  · cases hr
theorem pl_li {f : Int64 → Int32 → Value} {K K2 : pKo} {st : List Value} (h : ∀ a, pLe (K a) (K2 a)) : pLe (pli f K st) (pli f K2 st) := by
  intro r hr
  unfold pli at hr ⊢
  split at hr
  · exact h _ r hr
  · cases hr
def pRle (f g : pRec) : Prop := ∀ k pc L st M nx ok, pLe (f k pc L st M nx ok) (g k pc L st M nx ok)
theorem pl_j {f g : pRec} (h : pRle f g) {k pc : Nat} {off : Int} {L st : List Value} {M : pMem} {nx : Nat} {ok : Bool} : pLe (pJ f k pc off L st M nx ok) (pJ g k pc off L st M nx ok) := pl_pg (h _ _ _ _ _ _ _)
theorem pl_aft {f g : pRec} (h : pRle f g) {k pc : Nat} {L rest : List Value} {r : pRes} : pLe (pAft f k pc L rest r) (pAft g k pc L rest r) := by
  unfold pAft
  split
  · exact pl_mp (h _ _ _ _ _ _ _)
  · split
    · exact pl_rf
    · exact pl_fo fun q => pl_mp (h _ _ _ _ _ _ _)
theorem pl_go {f g : pRec} (h : pRle f g) {k pc k2 : Nat} {L av rest : List Value} {M : pMem} {nx : Nat} {ok : Bool} : pLe (pGo f k pc k2 L av rest M nx ok) (pGo g k pc k2 L av rest M nx ok) := pl_pg (pl_bi (α := Nat) (h _ _ _ _ _ _ _) fun r => pl_aft h)
theorem pl_cp {st : List Value} {M : pMem} {K K2 : List Value → pMem → Option pRes} (h : ∀ a b, pLe (K a b) (K2 a b)) : pLe (pCp st M K) (pCp st M K2) := by
  unfold pCp
  split
  · exact pl_ai fun _ _ => pl_ai fun _ _ => pl_pg (h _ _)
  · exact pl_nn
theorem pl_call {f g : pRec} (h : pRle f g) {q : Nat × Nat × Nat × Nat} {k pc : Nat} {L st : List Value} {M : pMem} {nx : Nat} {ok : Bool} : pLe (pCall f q k pc L st M nx ok) (pCall g q k pc L st M nx ok) := by
  unfold pCall
  split
  · exact pl_pg (pl_go h)
  · exact pl_rf1 fun _ _ => pl_pg (h _ _ _ _ _ _ _)
  · exact pl_pg (pl_cp fun _ _ => h _ _ _ _ _ _ _)
  · exact pl_pg (pl_2i fun _ => pl_pg (h _ _ _ _ _ _ _))
  · exact pl_pg (pl_go h)
set_option maxHeartbeats 4000000 in
theorem pl_ex {X : pScr} {f g : pRec} (h : pRle f g) {i : Instr} {len k pc : Nat} {L st : List Value} {M : pMem} {nx : Nat} {ok : Bool} : pLe (pEx X f i len k pc L st M nx ok) (pEx X g i len k pc L st M nx ok) := by
  cases i <;> simp only [pEx] <;> repeat (first
    | exact pl_nn
    | exact pl_rf
    | exact h _ _ _ _ _ _ _
    | exact pl_j h
    | exact pl_call h
    | refine pl_pg ?_
    | refine pl_mp ?_
    | refine pl_br ?_ ?_
    | refine pl_fo fun _ => ?_
    | refine pl_2i fun _ => ?_
    | refine pl_1i fun _ => ?_
    | refine pl_2l fun _ => ?_
    | refine pl_1l fun _ => ?_
    | refine pl_li fun _ => ?_
    | refine pl_ldi fun _ => ?_
    | refine pl_ldl fun _ => ?_
    | refine pl_lda fun _ => ?_
    | refine pl_tpi fun _ _ => ?_
    | refine pl_tpl fun _ _ => ?_
    | refine pl_tpa fun _ _ => ?_
    | refine pl_tp1 fun _ _ => ?_
    | refine pl_ob fun _ _ => ?_
    | refine pl_ai fun _ _ => ?_
    | refine pl_al fun _ _ => ?_
    | refine pl_rf1 fun _ _ => ?_
    | split)
theorem pl_run {X : pScr} (n : Nat) : pRle (pRun X n) (pRun X (n + 1)) := by
  induction n with
  | zero => intro k pc L st M nx ok r h; cases h
  | succ n ih => intro k pc L st M nx ok; exact pl_fo fun _ => pl_ex ih
theorem pRun_le {X : pScr} {n m : Nat} (h : n ≤ m) {k pc : Nat} {L st : List Value} {M : pMem} {nx : Nat} {ok : Bool} {r : pRes} (hr : pRun X n k pc L st M nx ok = some r) : pRun X m k pc L st M nx ok = some r := by
  induction h with
  | refl => exact hr
  | step _ ih => exact pl_run _ _ _ _ _ _ _ _ r ih
section PV
variable {X : pScr} {k pc : Nat} {L st : List Value} {M : pMem} {nx : Nat} {ok : Bool} {Q : pRes → Prop}
theorem pv_iconst {n : Int}  : pV X (.iconst n) 1 k pc L (st) M nx ok Q ↔ pW X k (pc + 1) L (.int (Int32.ofInt n) :: st) M nx ok Q := Iff.rfl
theorem pv_bipush {n : Int}  : pV X (.bipush n) 2 k pc L (st) M nx ok Q ↔ pW X k (pc + 2) L (.int (Int8.ofInt n).toInt32 :: st) M nx ok Q := Iff.rfl
theorem pv_sipush {n : Int}  : pV X (.sipush n) 3 k pc L (st) M nx ok Q ↔ pW X k (pc + 3) L (.int (Int16.ofInt n).toInt32 :: st) M nx ok Q := Iff.rfl
theorem pv_lconst {n : Fin 2}  : pV X (.lconst n) 1 k pc L (st) M nx ok Q ↔ pW X k (pc + 1) L (.long (Int64.ofNat (n : Nat)) :: st) M nx ok Q := Iff.rfl
theorem pv_iadd  {x y : Int32} : pV X (.iadd) 1 k pc L (.int y :: .int x :: st) M nx ok Q ↔ pW X k (pc + 1) L (.int (x + y) :: st) M nx ok Q := Iff.rfl
theorem pv_isub  {x y : Int32} : pV X (.isub) 1 k pc L (.int y :: .int x :: st) M nx ok Q ↔ pW X k (pc + 1) L (.int (x - y) :: st) M nx ok Q := Iff.rfl
theorem pv_imul  {x y : Int32} : pV X (.imul) 1 k pc L (.int y :: .int x :: st) M nx ok Q ↔ pW X k (pc + 1) L (.int (x * y) :: st) M nx ok Q := Iff.rfl
theorem pv_iand  {x y : Int32} : pV X (.iand) 1 k pc L (.int y :: .int x :: st) M nx ok Q ↔ pW X k (pc + 1) L (.int (x &&& y) :: st) M nx ok Q := Iff.rfl
theorem pv_ior  {x y : Int32} : pV X (.ior) 1 k pc L (.int y :: .int x :: st) M nx ok Q ↔ pW X k (pc + 1) L (.int (x ||| y) :: st) M nx ok Q := Iff.rfl
theorem pv_ixor  {x y : Int32} : pV X (.ixor) 1 k pc L (.int y :: .int x :: st) M nx ok Q ↔ pW X k (pc + 1) L (.int (x ^^^ y) :: st) M nx ok Q := Iff.rfl
theorem pv_ishl  {x y : Int32} : pV X (.ishl) 1 k pc L (.int y :: .int x :: st) M nx ok Q ↔ pW X k (pc + 1) L (.int (x <<< (y &&& 31)) :: st) M nx ok Q := Iff.rfl
theorem pv_ishr  {x y : Int32} : pV X (.ishr) 1 k pc L (.int y :: .int x :: st) M nx ok Q ↔ pW X k (pc + 1) L (.int (x >>> (y &&& 31)) :: st) M nx ok Q := Iff.rfl
theorem pv_iushr  {x y : Int32} : pV X (.iushr) 1 k pc L (.int y :: .int x :: st) M nx ok Q ↔ pW X k (pc + 1) L (.int (x.toUInt32 >>> (y.toUInt32 &&& Int32.toUInt32 31)).toInt32 :: st) M nx ok Q := Iff.rfl
theorem pv_ineg  {x : Int32} : pV X (.ineg) 1 k pc L (.int x :: st) M nx ok Q ↔ pW X k (pc + 1) L (.int (-x) :: st) M nx ok Q := Iff.rfl
theorem pv_ladd  {x y : Int64} : pV X (.ladd) 1 k pc L (.long y :: .long x :: st) M nx ok Q ↔ pW X k (pc + 1) L (.long (x + y) :: st) M nx ok Q := Iff.rfl
theorem pv_lsub  {x y : Int64} : pV X (.lsub) 1 k pc L (.long y :: .long x :: st) M nx ok Q ↔ pW X k (pc + 1) L (.long (x - y) :: st) M nx ok Q := Iff.rfl
theorem pv_lmul  {x y : Int64} : pV X (.lmul) 1 k pc L (.long y :: .long x :: st) M nx ok Q ↔ pW X k (pc + 1) L (.long (x * y) :: st) M nx ok Q := Iff.rfl
theorem pv_land  {x y : Int64} : pV X (.land) 1 k pc L (.long y :: .long x :: st) M nx ok Q ↔ pW X k (pc + 1) L (.long (x &&& y) :: st) M nx ok Q := Iff.rfl
theorem pv_lor  {x y : Int64} : pV X (.lor) 1 k pc L (.long y :: .long x :: st) M nx ok Q ↔ pW X k (pc + 1) L (.long (x ||| y) :: st) M nx ok Q := Iff.rfl
theorem pv_lxor  {x y : Int64} : pV X (.lxor) 1 k pc L (.long y :: .long x :: st) M nx ok Q ↔ pW X k (pc + 1) L (.long (x ^^^ y) :: st) M nx ok Q := Iff.rfl
theorem pv_lneg  {x : Int64} : pV X (.lneg) 1 k pc L (.long x :: st) M nx ok Q ↔ pW X k (pc + 1) L (.long (-x) :: st) M nx ok Q := Iff.rfl
theorem pv_lcmp  {x y : Int64} : pV X (.lcmp) 1 k pc L (.long y :: .long x :: st) M nx ok Q ↔ pW X k (pc + 1) L (.int (lg_cmp x y) :: st) M nx ok Q := Iff.rfl
theorem pv_lshl  {x : Int64} {y : Int32} : pV X (.lshl) 1 k pc L (.int y :: .long x :: st) M nx ok Q ↔ pW X k (pc + 1) L (.long (x <<< (y.toInt64 &&& 63)) :: st) M nx ok Q := Iff.rfl
theorem pv_lshr  {x : Int64} {y : Int32} : pV X (.lshr) 1 k pc L (.int y :: .long x :: st) M nx ok Q ↔ pW X k (pc + 1) L (.long (x >>> (y.toInt64 &&& 63)) :: st) M nx ok Q := Iff.rfl
theorem pv_lushr  {x : Int64} {y : Int32} : pV X (.lushr) 1 k pc L (.int y :: .long x :: st) M nx ok Q ↔ pW X k (pc + 1) L (.long (x.toUInt64 >>> (y.toInt64.toUInt64 &&& Int64.toUInt64 63)).toInt64 :: st) M nx ok Q := Iff.rfl
theorem pv_i2l  {x : Int32} : pV X (.i2l) 1 k pc L (.int x :: st) M nx ok Q ↔ pW X k (pc + 1) L (.long x.toInt64 :: st) M nx ok Q := Iff.rfl
theorem pv_i2b  {x : Int32} : pV X (.i2b) 1 k pc L (.int x :: st) M nx ok Q ↔ pW X k (pc + 1) L (.int x.toInt8.toInt32 :: st) M nx ok Q := Iff.rfl
theorem pv_i2s  {x : Int32} : pV X (.i2s) 1 k pc L (.int x :: st) M nx ok Q ↔ pW X k (pc + 1) L (.int x.toInt16.toInt32 :: st) M nx ok Q := Iff.rfl
theorem pv_i2c  {x : Int32} : pV X (.i2c) 1 k pc L (.int x :: st) M nx ok Q ↔ pW X k (pc + 1) L (.int (x.toUInt32 % 65536).toInt32 :: st) M nx ok Q := Iff.rfl
theorem pv_l2i  {x : Int64} : pV X (.l2i) 1 k pc L (.long x :: st) M nx ok Q ↔ pW X k (pc + 1) L (.int x.toInt32 :: st) M nx ok Q := Iff.rfl

/-- what is to hold behind a call -/
def pK (X : pScr) (k pc : Nat) (L rest : List Value) (Q : pRes → Prop) (r : pRes) : Prop := match r.1 with
  | .inl v => pW X k (pc + 3) L (v.toList ++ rest) r.2.1 r.2.2.1 r.2.2.2.1 (fun r2 => Q (pAdd r.2.2.2.2.1 r.2.2.2.2.2 r2))
  | .inr ex => match pHx k with
    | [] => Q r
    | _ :: _ => ∃ q, pHd k pc ex = some q ∧ pW X k q.1 (pSt1 L q.2 pDum) [] r.2.1 r.2.2.1 r.2.2.2.1 (fun r2 => Q (pAdd r.2.2.2.2.1 r.2.2.2.2.2 r2))
theorem pv_mp {f : Nat → Option pRes} {kc ks : Nat} : (∃ n r, pMp kc ks (f n) = some r ∧ Q r) ↔ ∃ n r, f n = some r ∧ Q (pAdd kc ks r) := by
  constructor
  · rintro ⟨n, r, h1, h2⟩
    obtain ⟨r1, h3, h4⟩ := pMp_some h1
    exact ⟨n, r1, h3, h4 ▸ h2⟩
  · rintro ⟨n, r, h1, h2⟩
    exact ⟨n, _, by rw [h1]; rfl, h2⟩
theorem pv_aft {rest : List Value} {r : pRes} : (∃ n r2, pAft (pRun X n) k pc L rest r = some r2 ∧ Q r2) ↔ pK X k pc L rest Q r := by
  obtain ⟨o, M1, n1, b1, kc, ks⟩ := r
  cases o with
  | inl v => exact pv_mp
  | inr ex =>
    cases hx : pHx k with
    | nil =>
      simp only [pAft, pK, hx]
      constructor
      · rintro ⟨n, r2, h1, h2⟩
        cases h1
        exact h2
      · intro h
        exact ⟨0, _, rfl, h⟩
    | cons z zs =>
      simp only [pAft, pK, hx]
      constructor
      · rintro ⟨n, r2, h1, h2⟩
        obtain ⟨q, h3, h4⟩ := pFo_some h1
        exact ⟨q, h3, pv_mp.mp ⟨n, r2, h4, h2⟩⟩
      · rintro ⟨q, h3, h4⟩
        obtain ⟨n, r2, h5, h6⟩ := pv_mp.mpr h4
        refine ⟨n, r2, ?_, h6⟩
        rw [h3]
        exact h5
theorem pv_go {k2 : Nat} {av rest : List Value} (h8 : pCat rest ≤ 8) (hn : (pArgs av).length ≤ pN k2) (hf : pFr k2 + 1 ≤ pFr k) (hl : 8 + (pN k2 + 11) + pLo k2 ≤ pLo k) : (∃ n r, pGo (pRun X n) k pc k2 L av rest M nx ok = some r ∧ Q r) ↔ pW X k2 0 (pEnt k2 av) [] M nx ok (pK X k pc L rest Q) := by
  constructor
  · rintro ⟨n, r, h1, h2⟩
    obtain ⟨-, h3⟩ := pg_some h1
    obtain ⟨r1, h4, h5⟩ := pFo_some h3
    exact ⟨n, r1, h4, pv_aft.mp ⟨n, r, h5, h2⟩⟩
  · rintro ⟨n, r1, h1, h2⟩
    obtain ⟨n2, r, h3, h4⟩ := pv_aft.mpr h2
    refine ⟨max n n2, r, ?_, h4⟩
    have e1 : pRun X (max n n2) k2 0 (pEnt k2 av) [] M nx ok = some r1 := pRun_le (Nat.le_max_left _ _) h1
    have e2 : pAft (pRun X (max n n2)) k pc L rest r1 = some r := pl_aft (fun _ _ _ _ _ _ _ _ h => pRun_le (Nat.le_max_right _ _) h) r h3
    unfold pGo
    rw [e1]
    simp only [h8, hn, hf, hl, decide_true, Bool.and_self, pg, pFo]
    exact e2
end PV
