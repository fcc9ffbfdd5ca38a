/-! A COMMIT: device and journal together -/
abbrev DJ : Type := Bool × cS1 × cS6
/-- how a step ends: with v, or power is gone -/
def pFin (r : DJ) (v : Option Value) (d4 : cS4) (d9 : cS9) (R : pMem) (nx : Nat) (ok : Bool) (Q : pRes → Prop) : Prop := if r.1 = true then Q (.inl v, cSW r.2.1 d4 r.2.2 d9 R, nx, ok, 0, 0) else Q (.inr 4, cSW r.2.1 d4 r.2.2 d9 R, nx, false, 1, 6)
def bindF (r : DJ) (g : cS1 → cS6 → DJ) : DJ := if r.1 = true then g r.2.1 r.2.2 else r
/-- checkpoint -/
def ckptF (d : cS1) (j : cS6) : DJ := if (ckF j d).1 = true then (if (firstF j 2 (ckF j d).2).1 = true then (true, (firstF j 2 (ckF j d).2).2, ckJ j) else (false, (firstF j 2 (ckF j d).2).2, (j.1, jFb j 2, j.2.2))) else (false, (ckF j d).2, j)
def looseJ (m : cS4) (d : cS1) (j : cS6) : DJ := ((looseF m d).1, (looseF m d).2, j)
def headF (m : cS4) (n ff : Nat) (d : cS1) (j : cS6) : DJ := ((putF (10 + (ff + 0) % 8) 0 (jHead j m.2.1 (nI n)) d).1, (putF (10 + (ff + 0) % 8) 0 (jHead j m.2.1 (nI n)) d).2, (j.1, jHead j m.2.1 (nI n), j.2.2))
/-- the transaction's blocks and a flush -/
def transF (m : cS4) (ff : Nat) (d : cS1) (j : cS6) : DJ := if (trF m.2.1 m.1 ff 48 0 1 0 d j.1).1 = true then ((flF (trF m.2.1 m.1 ff 48 0 1 0 d j.1).2.1).1, (flF (trF m.2.1 m.1 ff 48 0 1 0 d j.1).2.1).2, ((trF m.2.1 m.1 ff 48 0 1 0 d j.1).2.2.1, j.2)) else (false, (trF m.2.1 m.1 ff 48 0 1 0 d j.1).2.1, ((trF m.2.1 m.1 ff 48 0 1 0 d j.1).2.2.1, j.2))
def transS (m : cS4) (ff : Nat) (d : cS1) (j : cS6) : Int32 := (trF m.2.1 m.1 ff 48 0 1 0 d j.1).2.2.2.2
def sealJ (ff n : Nat) (s : Int32) (d : cS1) (j : cS6) : DJ := ((sealF j ff n s d).1, (sealF j ff n s d).2, (j.1, jSeal j s, j.2.2))
section RUN
variable {X : pScr} {nx : Nat} {ok : Bool} {Q : pRes → Prop} {d1 : cS1} {d4 : cS4} {d6 : cS6} {d9 : cS9} {R : pMem} {M : pMem}
theorem z_ckpt : pW X 57 0 [.ref 6, pDum] [] (cSW d1 d4 d6 d9 R) nx ok Q ↔ pFin (ckptF d1 d6) none d4 d9 R nx ok Q := by
  rw [q_ckpt]
  unfold pFin ckptF
  by_cases h : (ckF d6 d1).1 = true
  · by_cases h2 : (firstF d6 2 (ckF d6 d1).2).1 = true
    · simp only [h, h2, if_true]
    · simp only [h, h2, if_true, if_false, Bool.false_eq_true]
  · simp only [h, if_false, Bool.false_eq_true]
theorem z_loose : pW X 60 0 [.ref 6, pDum] [] (cSW d1 d4 d6 d9 R) nx ok Q ↔ pFin (looseJ d4 d1 d6) none d4 d9 R nx ok Q := q_loose
theorem z_head {ff n : Nat} (hf : d6.2.2.2.1 = nI ff) (hff : ff < 8) : pW X 61 0 [.ref 6, .int (nI n), pDum, pDum] [] (cSW d1 d4 d6 d9 R) nx ok Q ↔ pFin (headF d4 n ff d1 d6) none d4 d9 R nx ok Q := q_head hf hff
theorem z_trans {ff : Nat} (hf : d6.2.2.2.1 = nI ff) (hff : ff < 8) : pW X 62 0 [.ref 6, pDum, pDum, pDum] [] (cSW d1 d4 d6 d9 R) nx ok Q ↔ pFin (transF d4 ff d1 d6) (some (.int (transS d4 ff d1 d6))) d4 d9 R nx ok Q := by
  rw [q_trans hff hf]
  unfold pFin transF transS
  by_cases h : (trF d4.2.1 d4.1 ff 48 0 1 0 d1 d6.1).1 = true
  · simp only [h, if_true]
  · simp only [h, if_false, Bool.false_eq_true]
theorem z_seal {ff n : Nat} {s : Int32} (hf : d6.2.2.2.1 = nI ff) (hk : ff + (n + 1) < 1000) : pW X 63 0 [.ref 6, .int (nI n), .int s] [] (cSW d1 d4 d6 d9 R) nx ok Q ↔ pFin (sealJ ff n s d1 d6) none d4 d9 R nx ok Q := q_seal hf hk
theorem ckptF_ff (d : cS1) (j : cS6) : (ckptF d j).2.2.2.2.2.1 = j.2.2.2.1 := by
  unfold ckptF
  split
  · split <;> rfl
  · rfl
theorem transF_ff (m : cS4) (ff : Nat) (d : cS1) (j : cS6) : (transF m ff d j).2.2.2.2.2.1 = j.2.2.2.1 := by
  unfold transF
  split <;> rfl
/-- header, blocks, seal -/
def logF (m : cS4) (n ff : Nat) (d : cS1) (j : cS6) : DJ := bindF (headF m n ff d j) fun d j => bindF (transF m ff d j) fun d' j' => sealJ ff n (transS m ff d j) d' j'
/-- behind the log: places used, counted -/
def doneJ (m : cS4) (n ff : Nat) (j : cS6) : cS6 := let k := useJ j ff (n + 2); (k.1, k.2.1, k.2.2.1 ||| m.2.1, k.2.2.2.1, k.2.2.2.2.1, k.2.2.2.2.2.1, k.2.2.2.2.2.2.1 + 1, k.2.2.2.2.2.2.2)
def logAll (m : cS4) (n ff : Nat) (d : cS1) (j : cS6) : DJ := bindF (logF m n ff d j) fun d j => if m.2.2.2.2 = 0 then (true, d, doneJ m n ff j) else ckptF d (doneJ m n ff j)
/-- the whole commit -/
def commitF (m : cS4) (n ff : Nat) (d : cS1) (j : cS6) : DJ := bindF (looseJ m d j) fun d j => if m.2.1 = 0 then (true, d, j) else bindF (if 8 - j.2.2.2.2.1 < nI n + 2 then ckptF d j else (true, d, j)) (logAll m n ff)
end RUN
