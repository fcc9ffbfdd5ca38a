/-! THE TWO STATES BETWEEN CALLS, AND THE CALLS OF FILES AS WHOLES -/
/-- mounted is 0 or 1 -/
def mBit (e : rS1) : Prop := ∃ m, m < 2 ∧ e.2.2.2.2.1 = nI m
theorem mBit_hap {e : rS1} (h : mBit e) : mBit (rHap e).2 := by
  unfold rHap
  by_cases g : e.2.2.2.2.2.1 = nI 0
  · rw [if_pos g]
    by_cases g2 : e.2.2.2.2.2.2.1 = nI 0
    · rw [if_pos g2]
      exact ⟨0, by omega, rfl⟩
    · rw [if_neg g2]
      show mBit (rSp e)
      unfold rSp
      by_cases g3 : nI 0 < e.2.2.2.2.2.2.1
      · rw [if_pos g3]
        exact h
      · rw [if_neg g3]
        exact h
  · rw [if_neg g]
    exact h
theorem mBit_put {e : rS1} {b a : Nat} {f : Nat → Int32} (h : mBit e) : mBit (rPut b a f e) := by
  unfold rPut
  split
  · exact mBit_hap h
  · exact mBit_hap h
theorem mBit_fl {e : rS1} (h : mBit e) : mBit (rFl e) := by
  unfold rFl
  split
  · exact mBit_hap h
  · exact mBit_hap h
theorem mZ_hap {e : rS1} (h : e.2.2.2.2.1 = nI 0) : (rHap e).2.2.2.2.2.1 = nI 0 := by
  unfold rHap
  by_cases g : e.2.2.2.2.2.1 = nI 0
  · rw [if_pos g]
    by_cases g2 : e.2.2.2.2.2.2.1 = nI 0
    · rw [if_pos g2]
      rfl
    · rw [if_neg g2]
      show (rSp e).2.2.2.2.1 = nI 0
      unfold rSp
      by_cases g3 : nI 0 < e.2.2.2.2.2.2.1
      · rw [if_pos g3]
        exact h
      · rw [if_neg g3]
        exact h
  · rw [if_neg g]
    exact h
theorem mZ_put {e : rS1} {b a : Nat} {f : Nat → Int32} (h : e.2.2.2.2.1 = nI 0) : (rPut b a f e).2.2.2.2.1 = nI 0 := by
  unfold rPut
  split
  · exact mZ_hap h
  · exact mZ_hap h
theorem mZ_fl {e : rS1} (h : e.2.2.2.2.1 = nI 0) : (rFl e).2.2.2.2.1 = nI 0 := by
  unfold rFl
  split
  · exact mZ_hap h
  · exact mZ_hap h
theorem mBit_puts {P : Nat → Bool} {f : Nat → Int32} : ∀ m b e, mBit e → mBit (rputsF P f m b e) := by
  intro m
  induction m with
  | zero => intro b e h; exact h
  | succ m ih =>
    intro b e h
    show mBit (rputsF P f m (b + 1) (if P b = true then rPut b (8 * b) f e else e))
    refine ih _ _ ?_
    split
    · exact mBit_put h
    · exact h
theorem mBit_tr {P : Nat → Bool} {f : Nat → Int32} : ∀ m b a s e l, mBit e → mBit (rtrF P f m b a s e l).1 := by
  intro m
  induction m with
  | zero => intro b a s e l h; exact h
  | succ m ih =>
    intro b a s e l h
    rw [rtrF_s]
    split
    · exact ih _ _ _ _ _ (mBit_put h)
    · exact ih _ _ _ _ _ h
theorem mBit_swE {e : rS1} {j : rS3} (h : mBit e) : mBit (swE e j) := by
  unfold swE swD
  refine mBit_fl (mBit_put ?_)
  split
  · exact mBit_fl (mBit_puts _ _ _ h)
  · exact mBit_puts _ _ _ h
theorem mBit_cmL {e1 : rS1} {e2 : rS2} {e3 : rS3} {x n : Nat} (h : mBit e1) : mBit (cmL e1 e2 e3 x n).1 := by
  have h1 : mBit (cmE e1 e2 e3 x n) := mBit_fl (mBit_put (mBit_fl (mBit_tr _ _ _ _ _ _ (mBit_put h))))
  unfold cmL
  split
  · split
    · exact h1
    · exact mBit_swE h1
  · exact h1
theorem mBit_commit {e1 : rS1} {e2 : rS2} {e3 : rS3} {x : Nat} (h : mBit e1) : mBit (rcommit e1 e2 e3 x).1 := by
  have h1 : mBit (cmA e1 e2) := by
    unfold cmA
    split
    · exact mBit_fl (mBit_puts _ _ _ h)
    · exact h
  unfold rcommit
  split
  · exact h1
  · split
    · split
      · exact mBit_cmL (mBit_swE h1)
      · exact mBit_cmL h1
    · exact h1
/-- behind the image's end -/
def oEq (d4 : cS4) (e2 : rS2) : Prop := ∀ q, 384 ≤ q → d4.1 q = e2.1 q
theorem oEq_t {d4 : cS4} {e2 e2' : rS2} (h : oEq d4 e2) (he : e2'.1 = e2.1) : oEq d4 e2' := fun q hq => by rw [he]; exact h q hq
theorem oEq_G {d4 : cS4} {e2 : rS2} (h : GI d4 e2) : oEq d4 e2 := fun q _ => by rw [h.1.1]
theorem rc_mem {e1 : rS1} {e2 : rS2} {e3 : rS3} {x : Nat} : (rcommit e1 e2 e3 x).2.1.1 = e2.1 := by
  have hL : ∀ (e1 : rS1) (e3 : rS3) (n : Nat), (cmL e1 (cm0 e2) e3 x n).2.1.1 = e2.1 := by
    intro e1 e3 n
    unfold cmL
    split
    · split <;> rfl
    · rfl
  unfold rcommit
  split
  · rfl
  · split
    · split
      · exact hL _ _ _
      · exact hL _ _ _
    · rfl
/-- the two states agree -/
def RS (d1 : cS1) (d4 : cS4) (d6 : cS6) (e1 : rS1) (e2 : rS2) (e3 : rS3) : Prop := RDg d1 e1 0 ∧ jnW d6 e3 ∧ oEq d4 e2 ∧ ∃ m, m < 2 ∧ e1.2.2.2.2.1 = nI m ∧ (m = 1 → (∃ x u, jnR d6 e3 x u) ∧ e1.1 1 = nI 2 ∧ GI d4 e2 ∧ nCh e2 ≤ 6)
/-- what may be thrown; tau: the reference's number for what is thrown, 0 for what is never thrown -/
def tOK (tau : Nat → Nat) (t : Nat) : Prop := t < 6 ∧ (t = 0 ∨ ¬ tau t = 0)
def tR (t : Nat) : Nat := if t < 5 then t else 0
def tI (t : Nat) : Nat := if t = 1 then 1 else 0
def tT (t : Nat) : Nat := if t = 1 then 1 else if t = 2 then 2 else 0
def tZ (_ : Nat) : Nat := 0
/-- a call answers alike in both -/
def OpR (tau : Nat → Nat) (cm : Nat) (cA : List Value) (rm : Nat) (rA : List Value) (d1 : cS1) (d4 : cS4) (d6 : cS6) (d9 : cS9) (e1 : rS1) (e2 : rS2) (e3 : rS3) (e4 : rS4) : Prop :=
  ∃ t v d1' d4' d6' d9', (tOK tau t ∧ (t = 0 → vT cm v)) ∧ (∀ (X : pScr) (nx : Nat) (ok : Bool) (Q : pRes → Prop) (R : pMem), (pW X cm 0 cA [] (cSW d1 d4 d6 d9 R) nx ok Q ↔ Q (cOut t v (cSW d1' d4' d6' d9' R) nx ok))) ∧
    (∀ (X : pScr) (nx : Nat) (ok : Bool) (Q : pRes → Prop) (R : pMem), ∃ v' e1' e2' e3' e4', (pW X rm 0 rA [] (rSW e1 e2 e3 e4 R) nx ok Q ↔ Q (.inl v', rSW e1' e2' e3' e4' R, nx, ok, 0, 0)) ∧ e4'.2.2 = nI (tau t) ∧ ((t = 0 → v' = v) ∧ vT rm v') ∧ RS d1' d4' d6' e1' e2' e3')
theorem RDg_live {d : cS1} {e : rS1} {n : Nat} (h : RDg d e n) : RDg d (rLive e) n := h
theorem RDg_ok {d : cS1} {e : rS1} (h : RDg d e 0) : rOk (rLive e) 0 := ⟨0, Nat.le_refl 0, h.1, fun w hw => absurd hw (Nat.not_lt_zero w), fun _ => rfl⟩
theorem RS_live {d1 : cS1} {d4 : cS4} {d6 : cS6} {e1 : rS1} {e2 : rS2} {e3 : rS3} (h : RS d1 d4 d6 e1 e2 e3) : RS d1 d4 d6 (rLive e1) e2 e3 := h
/-- the memories behind a commit -/
theorem GI_end {d4 : cS4} {e2 e2' : rS2} (h : GI d4 e2) (he : emptied e2 e2' (nCh e2)) : GI (endM d4) e2' ∧ nCh e2' = 0 := by
  obtain ⟨⟨m1, m2, m3, m4, s, s1, s2, s3⟩, ⟨i1, i2, i3, i4⟩, K, L, S, N, E, hf⟩ := h
  obtain ⟨h1, h2, h3, h4, h5⟩ := he
  have z0 : ∀ g : Nat → Int32, (∀ b, b < 48 → mb g b = false) → setR 0 g := fun g hg => ⟨fun b hb => by rw [hg b hb]; exact lb_0 b, fun b _ => lb_0 b⟩
  have hw : (∀ b, b < 48 → mb e2'.2.2.2.1 b = false) ∧ e2'.2.2.2.2 = nI 0 := by
    by_cases c : nCh e2 = 0
    · obtain ⟨w1, w2⟩ := h5 c
      have n1 : ¬ mb e2.2.1 1 = true := fun q => by
        have t0 : d4.2.1 = 0 := (set_0 m2).mpr c
        have := m2.1 1 (by omega)
        rw [t0, lb_0, q] at this
        cases this
      refine ⟨fun b hb => ?_, ?_⟩
      · rw [w1]
        by_cases q : mb e2.2.2.2.1 b = true
        · exact absurd (i3 b hb q) n1
        · simpa using q
      · rw [w2]
        by_cases q : e2.2.2.2.2 = nI 0
        · exact q
        · exact absurd (i4 q) n1
    · exact h4 c
  have hn : nCh e2' = 0 := cnt_none 48 0 0 (fun b _ hb => h2 b (by omega))
  refine ⟨⟨⟨?_, z0 _ h2, z0 _ h3, z0 _ hw.1, 0, by omega, rfl, hw.2⟩, ⟨?_, ?_, ?_, ?_⟩, K, L, S, N, E, ?_⟩, hn⟩
  · rw [h1]
    exact m1
  · intro b hb q
    rw [h2 b hb] at q
    cases q
  · intro b hb q
    rw [h3 b hb] at q
    cases q
  · intro b hb q
    rw [hw.1 b hb] at q
    cases q
  · intro q
    exact absurd hw.2 q
  · rw [h1]
    exact hf
/-- a commit in both -/
theorem RS_commit {d1 : cS1} {d4 : cS4} {d6 : cS6} {e1 : rS1} {e2 : rS2} {e3 : rS3} {x u : Nat} (hr : RDg d1 e1 0) (hj : jnR d6 e3 x u) (h1 : e1.1 1 = nI 2) (hG : GI d4 e2) (hn : nCh e2 ≤ 6) :
    RBJ (commitF d4 (nCh e2) x d1 d6) (rcommit (rLive e1) e2 e3 x).1 0 ∧ jnW (commitF d4 (nCh e2) x d1 d6).2.2 (rcommit (rLive e1) e2 e3 x).2.2 ∧ ((commitF d4 (nCh e2) x d1 d6).1 = true → (GI (endM d4) (rcommit (rLive e1) e2 e3 x).2.1 ∧ nCh (rcommit (rLive e1) e2 e3 x).2.1 = 0) ∧ (∃ x' u', jnR (commitF d4 (nCh e2) x d1 d6).2.2 (rcommit (rLive e1) e2 e3 x).2.2 x' u') ∧ (rcommit (rLive e1) e2 e3 x).1.1 1 = nI 2) := by
  have hG2 := hG
  obtain ⟨⟨m1, m2, m3, m4, s, s1, s2, s3⟩, ⟨i1, i2, i3, i4⟩, -⟩ := hG
  obtain ⟨c1, c2, c3⟩ := R_commit (RDg_live hr) rfl hj h1 m2 i1 m3 i2 m1 rfl hn s2 s3 s1
  refine ⟨c1, c2, fun h => ?_⟩
  obtain ⟨g1, x', u', g2, g3⟩ := c3 h
  exact ⟨GI_end hG2 g1, ⟨x', u', g2⟩, g3⟩
