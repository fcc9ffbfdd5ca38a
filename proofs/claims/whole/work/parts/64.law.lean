/-! THE LAW: its world, its helpers -/
/-- the answers -/
def aW (g : Nat → Int64) : pMem := fun q => if q = 26 then some (.inl (1, 1, .inr (.inl g))) else none
theorem sw_cr {d1 : cS1} {d4 : cS4} {d6 : cS6} {d9 : cS9} {e1 : rS1} {e2 : rS2} {e3 : rS3} {e4 : rS4} {A : pMem} : cSW d1 d4 d6 d9 (rSW e1 e2 e3 e4 A) = rSW e1 e2 e3 e4 (cSW d1 d4 d6 d9 A) := by
  funext q
  match q with
  | 0 => rfl
  | 1 => rfl
  | 2 => rfl
  | 3 => rfl
  | 4 => rfl
  | 5 => rfl
  | 6 => rfl
  | 7 => rfl
  | 8 => rfl
  | 9 => rfl
  | 10 => rfl
  | 11 => rfl
  | 12 => rfl
  | 13 => rfl
  | 14 => rfl
  | 15 => rfl
  | 16 => rfl
  | 17 => rfl
  | 18 => rfl
  | 19 => rfl
  | 20 => rfl
  | 21 => rfl
  | 22 => rfl
  | 23 => rfl
  | 24 => rfl
  | 25 => rfl
  | q + 26 => rfl
theorem aS_p {d1 : cS1} {d4 : cS4} {d6 : cS6} {d9 : cS9} {e1 : rS1} {e2 : rS2} {e3 : rS3} {e4 : rS4} {g : Nat → Int64} {x : Int64} {K : pMem → Prop} : pPl (cSW d1 d4 d6 d9 (rSW e1 e2 e3 e4 (aW g))) 26 0 x K ↔ K (cSW d1 d4 d6 d9 (rSW e1 e2 e3 e4 (aW (vp_updL g 0 x)))) := by
  refine (pPl_of (n := 1) (f := g) rfl).trans ?_
  have e : pSet (cSW d1 d4 d6 d9 (rSW e1 e2 e3 e4 (aW g))) 26 (.inl (1, 1, .inr (.inl (vp_updL g (Int32.toNatClampNeg 0) x)))) = cSW d1 d4 d6 d9 (rSW e1 e2 e3 e4 (aW (vp_updL g 0 x))) := by
    refine pSet_to rfl (fun q hq => ?_)
    have ea : aW (vp_updL g 0 x) q = aW g q := by
      unfold aW
      rw [if_neg hq, if_neg hq]
    match q, hq, ea with
    | 0, _, _ => rfl
    | 1, _, _ => rfl
    | 2, _, _ => rfl
    | 3, _, _ => rfl
    | 4, _, _ => rfl
    | 5, _, _ => rfl
    | 6, _, _ => rfl
    | 7, _, _ => rfl
    | 8, _, _ => rfl
    | 9, _, _ => rfl
    | 10, _, _ => rfl
    | 11, _, _ => rfl
    | 12, _, _ => rfl
    | 13, _, _ => rfl
    | 14, _, _ => rfl
    | 15, _, _ => rfl
    | 16, _, _ => rfl
    | 17, _, _ => rfl
    | 18, _, _ => rfl
    | 19, _, _ => rfl
    | 20, _, _ => rfl
    | 21, _, _ => rfl
    | 22, _, _ => rfl
    | 23, _, _ => rfl
    | 24, _, _ => rfl
    | 25, _, _ => rfl
    | q + 26, _, ea => exact ea
  rw [e]
  exact ⟨fun h => h.2, fun h => ⟨by decide, h⟩⟩
theorem aS_g {d1 : cS1} {d4 : cS4} {d6 : cS6} {d9 : cS9} {e1 : rS1} {e2 : rS2} {e3 : rS3} {e4 : rS4} {g : Nat → Int64} {K : Int64 → Prop} : pGl (rSW e1 e2 e3 e4 (cSW d1 d4 d6 d9 (aW g))) 26 (nI 0) K ↔ K (g 0) := (pGl_of (n := 1) (f := g) rfl).trans ⟨fun h => h.2, fun h => ⟨by decide, h⟩⟩
def kF (t : Nat) : Nat := if t = 0 then 0 else 1
def okF (t : Nat) (ok : Bool) : Bool := if t = 0 then ok else false
def vL (v : Option Value) : Int64 := match v with
  | some (.int x) => x.toInt64
  | _ => 0
def gF (t : Nat) (v : Option Value) (g : Nat → Int64) : Nat → Int64 := if t = 0 then vp_updL g 0 (vL v) else g
theorem vT_no {k : Nat} {v : Option Value} (h : pR k = none) (hv : vT k v) : v = none := by
  unfold vT at hv
  rw [if_pos h] at hv
  exact hv
theorem vT_ye {k : Nat} {v : Option Value} (h : ¬ pR k = none) (hv : vT k v) : ∃ x, v = some (.int x) := by
  unfold vT at hv
  rw [if_neg h] at hv
  exact hv
theorem cO1 {v : Option Value} {M : pMem} {nx : Nat} {ok : Bool} : cOut 1 v M nx ok = (.inr 0, M, nx, false, 1, 6) := rfl
theorem cO2 {v : Option Value} {M : pMem} {nx : Nat} {ok : Bool} : cOut 2 v M nx ok = (.inr 1, M, nx, false, 1, 6) := rfl
theorem cO3 {v : Option Value} {M : pMem} {nx : Nat} {ok : Bool} : cOut 3 v M nx ok = (.inr 2, M, nx, false, 1, 6) := rfl
theorem cO4 {v : Option Value} {M : pMem} {nx : Nat} {ok : Bool} : cOut 4 v M nx ok = (.inr 3, M, nx, false, 1, 6) := rfl
theorem cO5 {v : Option Value} {M : pMem} {nx : Nat} {ok : Bool} : cOut 5 v M nx ok = (.inr 4, M, nx, false, 1, 6) := rfl
theorem L_fmt {X : pScr} {nx : Nat} {ok : Bool} {Q : pRes → Prop} {d1 d1' : cS1} {d4 d4' : cS4} {d6 d6' : cS6} {d9 d9' : cS9} {e1 : rS1} {e2 : rS2} {e3 : rS3} {e4 : rS4} {g : Nat → Int64} {t : Nat} {v : Option Value} (ht : tOK tS t) (hv : t = 0 → vT 1 v) (hC : ∀ (X : pScr) (nx : Nat) (ok : Bool) (Q : pRes → Prop) (R : pMem), (pW X 1 0 [.ref 0, pDum] [] (cSW d1 d4 d6 d9 R) nx ok Q ↔ Q (cOut t v (cSW d1' d4' d6' d9' R) nx ok))) :
    pW X 180 0 [.ref 0, pDum] [] (cSW d1 d4 d6 d9 (rSW e1 e2 e3 e4 (aW g))) nx ok Q ↔ Q (.inl (some (.int (nI (tS t)))), cSW d1' d4' d6' d9' (rSW e1 e2 e3 e4 (aW g)), nx, okF t ok, kF t, 6 * kF t) := by
  obtain ⟨h6, hz⟩ := ht
  have hx : pHx 180 ≠ [] := by decide +kernel
  have hc : t = 0 ∨ t = 1 ∨ t = 2 ∨ t = 3 ∨ t = 4 ∨ t = 5 := by omega
  rcases hc with rfl | rfl | rfl | rfl | rfl | rfl
  · have hv' := vT_no (by decide +kernel) (hv rfl)
    subst hv'
    simp only [w180_0, w180_1, w180_4, w180_8, w180_9, w180_11, w180_12, w180_13, w180_14, cS_i0, true_and, hC, cOut_0, pK_n, pAdd_0, Nat.reduceAdd]
    first | done | exact Iff.rfl
  · exact absurd rfl (hz.resolve_left (by decide))
  · simp only [w180_0, w180_1, w180_4, w180_8, w180_9, w180_11, w180_12, w180_13, w180_14, cS_i0, true_and, hC, cO2, pK_c hx (show pHd 180 1 1 = some (8, 1) by decide +kernel), pAdd, Nat.reduceAdd]
    first | done | exact Iff.rfl
  · exact absurd rfl (hz.resolve_left (by decide))
  · exact absurd rfl (hz.resolve_left (by decide))
  · simp only [w180_0, w180_1, w180_4, w180_8, w180_9, w180_11, w180_12, w180_13, w180_14, cS_i0, true_and, hC, cO5, pK_c hx (show pHd 180 1 4 = some (11, 1) by decide +kernel), pAdd, Nat.reduceAdd]
    first | done | exact Iff.rfl
theorem L_mount {X : pScr} {nx : Nat} {ok : Bool} {Q : pRes → Prop} {d1 d1' : cS1} {d4 d4' : cS4} {d6 d6' : cS6} {d9 d9' : cS9} {e1 : rS1} {e2 : rS2} {e3 : rS3} {e4 : rS4} {g : Nat → Int64} {t : Nat} {v : Option Value} (ht : tOK tM t) (hv : t = 0 → vT 2 v) (hC : ∀ (X : pScr) (nx : Nat) (ok : Bool) (Q : pRes → Prop) (R : pMem), (pW X 2 0 [.ref 0, pDum, pDum] [] (cSW d1 d4 d6 d9 R) nx ok Q ↔ Q (cOut t v (cSW d1' d4' d6' d9' R) nx ok))) :
    pW X 181 0 [.ref 0, .ref 26, pDum] [] (cSW d1 d4 d6 d9 (rSW e1 e2 e3 e4 (aW g))) nx ok Q ↔ Q (.inl (some (.int (nI (tM t)))), cSW d1' d4' d6' d9' (rSW e1 e2 e3 e4 (aW (gF t v g))), nx, okF t ok, kF t, 6 * kF t) := by
  obtain ⟨h6, hz⟩ := ht
  have hx : pHx 181 ≠ [] := by decide +kernel
  have hc : t = 0 ∨ t = 1 ∨ t = 2 ∨ t = 3 ∨ t = 4 ∨ t = 5 := by omega
  rcases hc with rfl | rfl | rfl | rfl | rfl | rfl
  · obtain ⟨x, rfl⟩ := vT_ye (by decide +kernel) (hv rfl)
    simp only [w181_0, w181_1, w181_2, w181_3, w181_6, w181_7, w181_8, w181_12, w181_13, w181_15, w181_16, w181_18, w181_19, w181_20, w181_21, cS_i0, true_and, hC, cOut_0, pK_v, pAdd_0, aS_p, Nat.reduceAdd]
    first | done | exact Iff.rfl
  · exact absurd rfl (hz.resolve_left (by decide))
  · simp only [w181_0, w181_1, w181_2, w181_3, w181_6, w181_7, w181_8, w181_12, w181_13, w181_15, w181_16, w181_18, w181_19, w181_20, w181_21, cS_i0, true_and, hC, cO2, pK_c hx (show pHd 181 3 1 = some (12, 2) by decide +kernel), pAdd, Nat.reduceAdd]
    first | done | exact Iff.rfl
  · exact absurd rfl (hz.resolve_left (by decide))
  · simp only [w181_0, w181_1, w181_2, w181_3, w181_6, w181_7, w181_8, w181_12, w181_13, w181_15, w181_16, w181_18, w181_19, w181_20, w181_21, cS_i0, true_and, hC, cO4, pK_c hx (show pHd 181 3 3 = some (15, 2) by decide +kernel), pAdd, Nat.reduceAdd]
    first | done | exact Iff.rfl
  · simp only [w181_0, w181_1, w181_2, w181_3, w181_6, w181_7, w181_8, w181_12, w181_13, w181_15, w181_16, w181_18, w181_19, w181_20, w181_21, cS_i0, true_and, hC, cO5, pK_c hx (show pHd 181 3 4 = some (18, 2) by decide +kernel), pAdd, Nat.reduceAdd]
    first | done | exact Iff.rfl
theorem L_umt {X : pScr} {nx : Nat} {ok : Bool} {Q : pRes → Prop} {d1 d1' : cS1} {d4 d4' : cS4} {d6 d6' : cS6} {d9 d9' : cS9} {e1 : rS1} {e2 : rS2} {e3 : rS3} {e4 : rS4} {g : Nat → Int64} {t : Nat} {v : Option Value} (ht : tOK tS t) (hv : t = 0 → vT 3 v) (hC : ∀ (X : pScr) (nx : Nat) (ok : Bool) (Q : pRes → Prop) (R : pMem), (pW X 3 0 [.ref 0] [] (cSW d1 d4 d6 d9 R) nx ok Q ↔ Q (cOut t v (cSW d1' d4' d6' d9' R) nx ok))) :
    pW X 182 0 [.ref 0, pDum] [] (cSW d1 d4 d6 d9 (rSW e1 e2 e3 e4 (aW g))) nx ok Q ↔ Q (.inl (some (.int (nI (tS t)))), cSW d1' d4' d6' d9' (rSW e1 e2 e3 e4 (aW g)), nx, okF t ok, kF t, 6 * kF t) := by
  obtain ⟨h6, hz⟩ := ht
  have hx : pHx 182 ≠ [] := by decide +kernel
  have hc : t = 0 ∨ t = 1 ∨ t = 2 ∨ t = 3 ∨ t = 4 ∨ t = 5 := by omega
  rcases hc with rfl | rfl | rfl | rfl | rfl | rfl
  · have hv' := vT_no (by decide +kernel) (hv rfl)
    subst hv'
    simp only [w182_0, w182_1, w182_4, w182_8, w182_9, w182_11, w182_12, w182_13, w182_14, cS_i0, true_and, hC, cOut_0, pK_n, pAdd_0, Nat.reduceAdd]
    first | done | exact Iff.rfl
  · exact absurd rfl (hz.resolve_left (by decide))
  · simp only [w182_0, w182_1, w182_4, w182_8, w182_9, w182_11, w182_12, w182_13, w182_14, cS_i0, true_and, hC, cO2, pK_c hx (show pHd 182 1 1 = some (8, 1) by decide +kernel), pAdd, Nat.reduceAdd]
    first | done | exact Iff.rfl
  · exact absurd rfl (hz.resolve_left (by decide))
  · exact absurd rfl (hz.resolve_left (by decide))
  · simp only [w182_0, w182_1, w182_4, w182_8, w182_9, w182_11, w182_12, w182_13, w182_14, cS_i0, true_and, hC, cO5, pK_c hx (show pHd 182 1 4 = some (11, 1) by decide +kernel), pAdd, Nat.reduceAdd]
    first | done | exact Iff.rfl
theorem L_fuse {X : pScr} {nx : Nat} {ok : Bool} {Q : pRes → Prop} {d1 d1' : cS1} {d4 d4' : cS4} {d6 d6' : cS6} {d9 d9' : cS9} {e1 : rS1} {e2 : rS2} {e3 : rS3} {e4 : rS4} {g : Nat → Int64} {t : Nat} {v : Option Value} {a b : Int32} (ht : tOK tI t) (hv : t = 0 → vT 4 v) (hC : ∀ (X : pScr) (nx : Nat) (ok : Bool) (Q : pRes → Prop) (R : pMem), (pW X 4 0 [.ref 0, .int a, .int b] [] (cSW d1 d4 d6 d9 R) nx ok Q ↔ Q (cOut t v (cSW d1' d4' d6' d9' R) nx ok))) :
    pW X 183 0 [.ref 0, .int a, .int b, pDum] [] (cSW d1 d4 d6 d9 (rSW e1 e2 e3 e4 (aW g))) nx ok Q ↔ Q (.inl (some (.int (nI (tI t)))), cSW d1' d4' d6' d9' (rSW e1 e2 e3 e4 (aW g)), nx, okF t ok, kF t, 6 * kF t) := by
  obtain ⟨h6, hz⟩ := ht
  have hx : pHx 183 ≠ [] := by decide +kernel
  have hc : t = 0 ∨ t = 1 ∨ t = 2 ∨ t = 3 ∨ t = 4 ∨ t = 5 := by omega
  rcases hc with rfl | rfl | rfl | rfl | rfl | rfl
  · have hv' := vT_no (by decide +kernel) (hv rfl)
    subst hv'
    simp only [w183_0, w183_1, w183_2, w183_3, w183_6, w183_10, w183_11, w183_12, w183_13, cS_i0, true_and, hC, cOut_0, pK_n, pAdd_0, Nat.reduceAdd]
    first | done | exact Iff.rfl
  · simp only [w183_0, w183_1, w183_2, w183_3, w183_6, w183_10, w183_11, w183_12, w183_13, cS_i0, true_and, hC, cO1, pK_c hx (show pHd 183 3 0 = some (10, 3) by decide +kernel), pAdd, Nat.reduceAdd]
    first | done | exact Iff.rfl
  · exact absurd rfl (hz.resolve_left (by decide))
  · exact absurd rfl (hz.resolve_left (by decide))
  · exact absurd rfl (hz.resolve_left (by decide))
  · exact absurd rfl (hz.resolve_left (by decide))
theorem L_sync {X : pScr} {nx : Nat} {ok : Bool} {Q : pRes → Prop} {d1 d1' : cS1} {d4 d4' : cS4} {d6 d6' : cS6} {d9 d9' : cS9} {e1 : rS1} {e2 : rS2} {e3 : rS3} {e4 : rS4} {g : Nat → Int64} {t : Nat} {v : Option Value} (ht : tOK tS t) (hv : t = 0 → vT 6 v) (hC : ∀ (X : pScr) (nx : Nat) (ok : Bool) (Q : pRes → Prop) (R : pMem), (pW X 6 0 [.ref 0] [] (cSW d1 d4 d6 d9 R) nx ok Q ↔ Q (cOut t v (cSW d1' d4' d6' d9' R) nx ok))) :
    pW X 184 0 [.ref 0, .ref 26, pDum] [] (cSW d1 d4 d6 d9 (rSW e1 e2 e3 e4 (aW g))) nx ok Q ↔ Q (.inl (some (.int (nI (tS t)))), cSW d1' d4' d6' d9' (rSW e1 e2 e3 e4 (aW (gF t v g))), nx, okF t ok, kF t, 6 * kF t) := by
  obtain ⟨h6, hz⟩ := ht
  have hx : pHx 184 ≠ [] := by decide +kernel
  have hc : t = 0 ∨ t = 1 ∨ t = 2 ∨ t = 3 ∨ t = 4 ∨ t = 5 := by omega
  rcases hc with rfl | rfl | rfl | rfl | rfl | rfl
  · obtain ⟨x, rfl⟩ := vT_ye (by decide +kernel) (hv rfl)
    simp only [w184_0, w184_1, w184_2, w184_3, w184_6, w184_7, w184_8, w184_12, w184_13, w184_15, w184_16, w184_17, w184_18, cS_i0, true_and, hC, cOut_0, pK_v, pAdd_0, aS_p, Nat.reduceAdd]
    first | done | exact Iff.rfl
  · exact absurd rfl (hz.resolve_left (by decide))
  · simp only [w184_0, w184_1, w184_2, w184_3, w184_6, w184_7, w184_8, w184_12, w184_13, w184_15, w184_16, w184_17, w184_18, cS_i0, true_and, hC, cO2, pK_c hx (show pHd 184 3 1 = some (12, 2) by decide +kernel), pAdd, Nat.reduceAdd]
    first | done | exact Iff.rfl
  · exact absurd rfl (hz.resolve_left (by decide))
  · exact absurd rfl (hz.resolve_left (by decide))
  · simp only [w184_0, w184_1, w184_2, w184_3, w184_6, w184_7, w184_8, w184_12, w184_13, w184_15, w184_16, w184_17, w184_18, cS_i0, true_and, hC, cO5, pK_c hx (show pHd 184 3 4 = some (15, 2) by decide +kernel), pAdd, Nat.reduceAdd]
    first | done | exact Iff.rfl
theorem L_ckpt {X : pScr} {nx : Nat} {ok : Bool} {Q : pRes → Prop} {d1 d1' : cS1} {d4 d4' : cS4} {d6 d6' : cS6} {d9 d9' : cS9} {e1 : rS1} {e2 : rS2} {e3 : rS3} {e4 : rS4} {g : Nat → Int64} {t : Nat} {v : Option Value} (ht : tOK tS t) (hv : t = 0 → vT 7 v) (hC : ∀ (X : pScr) (nx : Nat) (ok : Bool) (Q : pRes → Prop) (R : pMem), (pW X 7 0 [.ref 0] [] (cSW d1 d4 d6 d9 R) nx ok Q ↔ Q (cOut t v (cSW d1' d4' d6' d9' R) nx ok))) :
    pW X 185 0 [.ref 0, pDum] [] (cSW d1 d4 d6 d9 (rSW e1 e2 e3 e4 (aW g))) nx ok Q ↔ Q (.inl (some (.int (nI (tS t)))), cSW d1' d4' d6' d9' (rSW e1 e2 e3 e4 (aW g)), nx, okF t ok, kF t, 6 * kF t) := by
  obtain ⟨h6, hz⟩ := ht
  have hx : pHx 185 ≠ [] := by decide +kernel
  have hc : t = 0 ∨ t = 1 ∨ t = 2 ∨ t = 3 ∨ t = 4 ∨ t = 5 := by omega
  rcases hc with rfl | rfl | rfl | rfl | rfl | rfl
  · have hv' := vT_no (by decide +kernel) (hv rfl)
    subst hv'
    simp only [w185_0, w185_1, w185_4, w185_8, w185_9, w185_11, w185_12, w185_13, w185_14, cS_i0, true_and, hC, cOut_0, pK_n, pAdd_0, Nat.reduceAdd]
    first | done | exact Iff.rfl
  · exact absurd rfl (hz.resolve_left (by decide))
  · simp only [w185_0, w185_1, w185_4, w185_8, w185_9, w185_11, w185_12, w185_13, w185_14, cS_i0, true_and, hC, cO2, pK_c hx (show pHd 185 1 1 = some (8, 1) by decide +kernel), pAdd, Nat.reduceAdd]
    first | done | exact Iff.rfl
  · exact absurd rfl (hz.resolve_left (by decide))
  · exact absurd rfl (hz.resolve_left (by decide))
  · simp only [w185_0, w185_1, w185_4, w185_8, w185_9, w185_11, w185_12, w185_13, w185_14, cS_i0, true_and, hC, cO5, pK_c hx (show pHd 185 1 4 = some (11, 1) by decide +kernel), pAdd, Nat.reduceAdd]
    first | done | exact Iff.rfl
theorem L_create {X : pScr} {nx : Nat} {ok : Bool} {Q : pRes → Prop} {d1 d1' : cS1} {d4 d4' : cS4} {d6 d6' : cS6} {d9 d9' : cS9} {e1 : rS1} {e2 : rS2} {e3 : rS3} {e4 : rS4} {g : Nat → Int64} {t : Nat} {v : Option Value} {a b : Int32} {dir : Bool} (ht : tOK id t) (hv : t = 0 → vT 8 v) (hC : ∀ (X : pScr) (nx : Nat) (ok : Bool) (Q : pRes → Prop) (R : pMem), (pW X 8 0 [.ref 0, .int a, .int b, .int (bI dir), pDum] [] (cSW d1 d4 d6 d9 R) nx ok Q ↔ Q (cOut t v (cSW d1' d4' d6' d9' R) nx ok))) :
    pW X 186 0 [.ref 0, .int a, .int b, .int (bI dir), .ref 26, pDum] [] (cSW d1 d4 d6 d9 (rSW e1 e2 e3 e4 (aW g))) nx ok Q ↔ Q (.inl (some (.int (nI (id t)))), cSW d1' d4' d6' d9' (rSW e1 e2 e3 e4 (aW (gF t v g))), nx, okF t ok, kF t, 6 * kF t) := by
  obtain ⟨h6, hz⟩ := ht
  have hx : pHx 186 ≠ [] := by decide +kernel
  have hc : t = 0 ∨ t = 1 ∨ t = 2 ∨ t = 3 ∨ t = 4 ∨ t = 5 := by omega
  rcases hc with rfl | rfl | rfl | rfl | rfl | rfl
  · obtain ⟨x, rfl⟩ := vT_ye (by decide +kernel) (hv rfl)
    simp only [w186_0, w186_2, w186_3, w186_4, w186_5, w186_6, w186_7, w186_10, w186_11, w186_12, w186_17, w186_18, w186_21, w186_22, w186_25, w186_26, w186_29, w186_30, w186_33, w186_34, w186_35, w186_36, cS_i0, true_and, hC, cOut_0, pK_v, pAdd_0, aS_p, Nat.reduceAdd]
    first | done | exact Iff.rfl
  · simp only [w186_0, w186_2, w186_3, w186_4, w186_5, w186_6, w186_7, w186_10, w186_11, w186_12, w186_17, w186_18, w186_21, w186_22, w186_25, w186_26, w186_29, w186_30, w186_33, w186_34, w186_35, w186_36, cS_i0, true_and, hC, cO1, pK_c hx (show pHd 186 7 0 = some (17, 5) by decide +kernel), pAdd, Nat.reduceAdd]
    first | done | exact Iff.rfl
  · simp only [w186_0, w186_2, w186_3, w186_4, w186_5, w186_6, w186_7, w186_10, w186_11, w186_12, w186_17, w186_18, w186_21, w186_22, w186_25, w186_26, w186_29, w186_30, w186_33, w186_34, w186_35, w186_36, cS_i0, true_and, hC, cO2, pK_c hx (show pHd 186 7 1 = some (21, 5) by decide +kernel), pAdd, Nat.reduceAdd]
    first | done | exact Iff.rfl
  · simp only [w186_0, w186_2, w186_3, w186_4, w186_5, w186_6, w186_7, w186_10, w186_11, w186_12, w186_17, w186_18, w186_21, w186_22, w186_25, w186_26, w186_29, w186_30, w186_33, w186_34, w186_35, w186_36, cS_i0, true_and, hC, cO3, pK_c hx (show pHd 186 7 2 = some (25, 5) by decide +kernel), pAdd, Nat.reduceAdd]
    first | done | exact Iff.rfl
  · simp only [w186_0, w186_2, w186_3, w186_4, w186_5, w186_6, w186_7, w186_10, w186_11, w186_12, w186_17, w186_18, w186_21, w186_22, w186_25, w186_26, w186_29, w186_30, w186_33, w186_34, w186_35, w186_36, cS_i0, true_and, hC, cO4, pK_c hx (show pHd 186 7 3 = some (29, 5) by decide +kernel), pAdd, Nat.reduceAdd]
    first | done | exact Iff.rfl
  · simp only [w186_0, w186_2, w186_3, w186_4, w186_5, w186_6, w186_7, w186_10, w186_11, w186_12, w186_17, w186_18, w186_21, w186_22, w186_25, w186_26, w186_29, w186_30, w186_33, w186_34, w186_35, w186_36, cS_i0, true_and, hC, cO5, pK_c hx (show pHd 186 7 4 = some (33, 5) by decide +kernel), pAdd, Nat.reduceAdd]
    first | done | exact Iff.rfl
theorem L_link {X : pScr} {nx : Nat} {ok : Bool} {Q : pRes → Prop} {d1 d1' : cS1} {d4 d4' : cS4} {d6 d6' : cS6} {d9 d9' : cS9} {e1 : rS1} {e2 : rS2} {e3 : rS3} {e4 : rS4} {g : Nat → Int64} {t : Nat} {v : Option Value} {a b c : Int32} (ht : tOK id t) (hv : t = 0 → vT 9 v) (hC : ∀ (X : pScr) (nx : Nat) (ok : Bool) (Q : pRes → Prop) (R : pMem), (pW X 9 0 [.ref 0, .int a, .int b, .int c] [] (cSW d1 d4 d6 d9 R) nx ok Q ↔ Q (cOut t v (cSW d1' d4' d6' d9' R) nx ok))) :
    pW X 187 0 [.ref 0, .int a, .int b, .int c, pDum] [] (cSW d1 d4 d6 d9 (rSW e1 e2 e3 e4 (aW g))) nx ok Q ↔ Q (.inl (some (.int (nI (id t)))), cSW d1' d4' d6' d9' (rSW e1 e2 e3 e4 (aW g)), nx, okF t ok, kF t, 6 * kF t) := by
  obtain ⟨h6, hz⟩ := ht
  have hx : pHx 187 ≠ [] := by decide +kernel
  have hc : t = 0 ∨ t = 1 ∨ t = 2 ∨ t = 3 ∨ t = 4 ∨ t = 5 := by omega
  rcases hc with rfl | rfl | rfl | rfl | rfl | rfl
  · have hv' := vT_no (by decide +kernel) (hv rfl)
    subst hv'
    simp only [w187_0, w187_1, w187_2, w187_3, w187_4, w187_7, w187_12, w187_13, w187_16, w187_17, w187_20, w187_21, w187_24, w187_25, w187_28, w187_29, w187_30, w187_31, cS_i0, true_and, hC, cOut_0, pK_n, pAdd_0, Nat.reduceAdd]
    first | done | exact Iff.rfl
  · simp only [w187_0, w187_1, w187_2, w187_3, w187_4, w187_7, w187_12, w187_13, w187_16, w187_17, w187_20, w187_21, w187_24, w187_25, w187_28, w187_29, w187_30, w187_31, cS_i0, true_and, hC, cO1, pK_c hx (show pHd 187 4 0 = some (12, 4) by decide +kernel), pAdd, Nat.reduceAdd]
    first | done | exact Iff.rfl
  · simp only [w187_0, w187_1, w187_2, w187_3, w187_4, w187_7, w187_12, w187_13, w187_16, w187_17, w187_20, w187_21, w187_24, w187_25, w187_28, w187_29, w187_30, w187_31, cS_i0, true_and, hC, cO2, pK_c hx (show pHd 187 4 1 = some (16, 4) by decide +kernel), pAdd, Nat.reduceAdd]
    first | done | exact Iff.rfl
  · simp only [w187_0, w187_1, w187_2, w187_3, w187_4, w187_7, w187_12, w187_13, w187_16, w187_17, w187_20, w187_21, w187_24, w187_25, w187_28, w187_29, w187_30, w187_31, cS_i0, true_and, hC, cO3, pK_c hx (show pHd 187 4 2 = some (20, 4) by decide +kernel), pAdd, Nat.reduceAdd]
    first | done | exact Iff.rfl
  · simp only [w187_0, w187_1, w187_2, w187_3, w187_4, w187_7, w187_12, w187_13, w187_16, w187_17, w187_20, w187_21, w187_24, w187_25, w187_28, w187_29, w187_30, w187_31, cS_i0, true_and, hC, cO4, pK_c hx (show pHd 187 4 3 = some (24, 4) by decide +kernel), pAdd, Nat.reduceAdd]
    first | done | exact Iff.rfl
  · simp only [w187_0, w187_1, w187_2, w187_3, w187_4, w187_7, w187_12, w187_13, w187_16, w187_17, w187_20, w187_21, w187_24, w187_25, w187_28, w187_29, w187_30, w187_31, cS_i0, true_and, hC, cO5, pK_c hx (show pHd 187 4 4 = some (28, 4) by decide +kernel), pAdd, Nat.reduceAdd]
    first | done | exact Iff.rfl
theorem L_unlink {X : pScr} {nx : Nat} {ok : Bool} {Q : pRes → Prop} {d1 d1' : cS1} {d4 d4' : cS4} {d6 d6' : cS6} {d9 d9' : cS9} {e1 : rS1} {e2 : rS2} {e3 : rS3} {e4 : rS4} {g : Nat → Int64} {t : Nat} {v : Option Value} {a b : Int32} (ht : tOK id t) (hv : t = 0 → vT 10 v) (hC : ∀ (X : pScr) (nx : Nat) (ok : Bool) (Q : pRes → Prop) (R : pMem), (pW X 10 0 [.ref 0, .int a, .int b, pDum, pDum] [] (cSW d1 d4 d6 d9 R) nx ok Q ↔ Q (cOut t v (cSW d1' d4' d6' d9' R) nx ok))) :
    pW X 188 0 [.ref 0, .int a, .int b, pDum] [] (cSW d1 d4 d6 d9 (rSW e1 e2 e3 e4 (aW g))) nx ok Q ↔ Q (.inl (some (.int (nI (id t)))), cSW d1' d4' d6' d9' (rSW e1 e2 e3 e4 (aW g)), nx, okF t ok, kF t, 6 * kF t) := by
  obtain ⟨h6, hz⟩ := ht
  have hx : pHx 188 ≠ [] := by decide +kernel
  have hc : t = 0 ∨ t = 1 ∨ t = 2 ∨ t = 3 ∨ t = 4 ∨ t = 5 := by omega
  rcases hc with rfl | rfl | rfl | rfl | rfl | rfl
  · have hv' := vT_no (by decide +kernel) (hv rfl)
    subst hv'
    simp only [w188_0, w188_1, w188_2, w188_3, w188_6, w188_10, w188_11, w188_13, w188_14, w188_16, w188_17, w188_19, w188_20, w188_22, w188_23, w188_24, w188_25, cS_i0, true_and, hC, cOut_0, pK_n, pAdd_0, Nat.reduceAdd]
    first | done | exact Iff.rfl
  · simp only [w188_0, w188_1, w188_2, w188_3, w188_6, w188_10, w188_11, w188_13, w188_14, w188_16, w188_17, w188_19, w188_20, w188_22, w188_23, w188_24, w188_25, cS_i0, true_and, hC, cO1, pK_c hx (show pHd 188 3 0 = some (10, 3) by decide +kernel), pAdd, Nat.reduceAdd]
    first | done | exact Iff.rfl
  · simp only [w188_0, w188_1, w188_2, w188_3, w188_6, w188_10, w188_11, w188_13, w188_14, w188_16, w188_17, w188_19, w188_20, w188_22, w188_23, w188_24, w188_25, cS_i0, true_and, hC, cO2, pK_c hx (show pHd 188 3 1 = some (13, 3) by decide +kernel), pAdd, Nat.reduceAdd]
    first | done | exact Iff.rfl
  · simp only [w188_0, w188_1, w188_2, w188_3, w188_6, w188_10, w188_11, w188_13, w188_14, w188_16, w188_17, w188_19, w188_20, w188_22, w188_23, w188_24, w188_25, cS_i0, true_and, hC, cO3, pK_c hx (show pHd 188 3 2 = some (16, 3) by decide +kernel), pAdd, Nat.reduceAdd]
    first | done | exact Iff.rfl
  · simp only [w188_0, w188_1, w188_2, w188_3, w188_6, w188_10, w188_11, w188_13, w188_14, w188_16, w188_17, w188_19, w188_20, w188_22, w188_23, w188_24, w188_25, cS_i0, true_and, hC, cO4, pK_c hx (show pHd 188 3 3 = some (19, 3) by decide +kernel), pAdd, Nat.reduceAdd]
    first | done | exact Iff.rfl
  · simp only [w188_0, w188_1, w188_2, w188_3, w188_6, w188_10, w188_11, w188_13, w188_14, w188_16, w188_17, w188_19, w188_20, w188_22, w188_23, w188_24, w188_25, cS_i0, true_and, hC, cO5, pK_c hx (show pHd 188 3 4 = some (22, 3) by decide +kernel), pAdd, Nat.reduceAdd]
    first | done | exact Iff.rfl
theorem L_rename {X : pScr} {nx : Nat} {ok : Bool} {Q : pRes → Prop} {d1 d1' : cS1} {d4 d4' : cS4} {d6 d6' : cS6} {d9 d9' : cS9} {e1 : rS1} {e2 : rS2} {e3 : rS3} {e4 : rS4} {g : Nat → Int64} {t : Nat} {v : Option Value} {a b c d : Int32} (ht : tOK id t) (hv : t = 0 → vT 11 v) (hC : ∀ (X : pScr) (nx : Nat) (ok : Bool) (Q : pRes → Prop) (R : pMem), (pW X 11 0 [.ref 0, .int a, .int b, .int c, .int d, pDum, pDum] [] (cSW d1 d4 d6 d9 R) nx ok Q ↔ Q (cOut t v (cSW d1' d4' d6' d9' R) nx ok))) :
    pW X 189 0 [.ref 0, .int a, .int b, .int c, .int d, pDum] [] (cSW d1 d4 d6 d9 (rSW e1 e2 e3 e4 (aW g))) nx ok Q ↔ Q (.inl (some (.int (nI (id t)))), cSW d1' d4' d6' d9' (rSW e1 e2 e3 e4 (aW g)), nx, okF t ok, kF t, 6 * kF t) := by
  obtain ⟨h6, hz⟩ := ht
  have hx : pHx 189 ≠ [] := by decide +kernel
  have hc : t = 0 ∨ t = 1 ∨ t = 2 ∨ t = 3 ∨ t = 4 ∨ t = 5 := by omega
  rcases hc with rfl | rfl | rfl | rfl | rfl | rfl
  · have hv' := vT_no (by decide +kernel) (hv rfl)
    subst hv'
    simp only [w189_0, w189_1, w189_2, w189_3, w189_4, w189_6, w189_9, w189_14, w189_15, w189_18, w189_19, w189_22, w189_23, w189_26, w189_27, w189_30, w189_31, w189_32, w189_33, cS_i0, true_and, hC, cOut_0, pK_n, pAdd_0, Nat.reduceAdd]
    first | done | exact Iff.rfl
  · simp only [w189_0, w189_1, w189_2, w189_3, w189_4, w189_6, w189_9, w189_14, w189_15, w189_18, w189_19, w189_22, w189_23, w189_26, w189_27, w189_30, w189_31, w189_32, w189_33, cS_i0, true_and, hC, cO1, pK_c hx (show pHd 189 6 0 = some (14, 5) by decide +kernel), pAdd, Nat.reduceAdd]
    first | done | exact Iff.rfl
  · simp only [w189_0, w189_1, w189_2, w189_3, w189_4, w189_6, w189_9, w189_14, w189_15, w189_18, w189_19, w189_22, w189_23, w189_26, w189_27, w189_30, w189_31, w189_32, w189_33, cS_i0, true_and, hC, cO2, pK_c hx (show pHd 189 6 1 = some (18, 5) by decide +kernel), pAdd, Nat.reduceAdd]
    first | done | exact Iff.rfl
  · simp only [w189_0, w189_1, w189_2, w189_3, w189_4, w189_6, w189_9, w189_14, w189_15, w189_18, w189_19, w189_22, w189_23, w189_26, w189_27, w189_30, w189_31, w189_32, w189_33, cS_i0, true_and, hC, cO3, pK_c hx (show pHd 189 6 2 = some (22, 5) by decide +kernel), pAdd, Nat.reduceAdd]
    first | done | exact Iff.rfl
  · simp only [w189_0, w189_1, w189_2, w189_3, w189_4, w189_6, w189_9, w189_14, w189_15, w189_18, w189_19, w189_22, w189_23, w189_26, w189_27, w189_30, w189_31, w189_32, w189_33, cS_i0, true_and, hC, cO4, pK_c hx (show pHd 189 6 3 = some (26, 5) by decide +kernel), pAdd, Nat.reduceAdd]
    first | done | exact Iff.rfl
  · simp only [w189_0, w189_1, w189_2, w189_3, w189_4, w189_6, w189_9, w189_14, w189_15, w189_18, w189_19, w189_22, w189_23, w189_26, w189_27, w189_30, w189_31, w189_32, w189_33, cS_i0, true_and, hC, cO5, pK_c hx (show pHd 189 6 4 = some (30, 5) by decide +kernel), pAdd, Nat.reduceAdd]
    first | done | exact Iff.rfl
theorem L_write {X : pScr} {nx : Nat} {ok : Bool} {Q : pRes → Prop} {d1 d1' : cS1} {d4 d4' : cS4} {d6 d6' : cS6} {d9 d9' : cS9} {e1 : rS1} {e2 : rS2} {e3 : rS3} {e4 : rS4} {g : Nat → Int64} {t : Nat} {v : Option Value} {a b c : Int32} (ht : tOK id t) (hv : t = 0 → vT 12 v) (hC : ∀ (X : pScr) (nx : Nat) (ok : Bool) (Q : pRes → Prop) (R : pMem), (pW X 12 0 [.ref 0, .int a, .int b, .int c] [] (cSW d1 d4 d6 d9 R) nx ok Q ↔ Q (cOut t v (cSW d1' d4' d6' d9' R) nx ok))) :
    pW X 190 0 [.ref 0, .int a, .int b, .int c, pDum] [] (cSW d1 d4 d6 d9 (rSW e1 e2 e3 e4 (aW g))) nx ok Q ↔ Q (.inl (some (.int (nI (id t)))), cSW d1' d4' d6' d9' (rSW e1 e2 e3 e4 (aW g)), nx, okF t ok, kF t, 6 * kF t) := by
  obtain ⟨h6, hz⟩ := ht
  have hx : pHx 190 ≠ [] := by decide +kernel
  have hc : t = 0 ∨ t = 1 ∨ t = 2 ∨ t = 3 ∨ t = 4 ∨ t = 5 := by omega
  rcases hc with rfl | rfl | rfl | rfl | rfl | rfl
  · have hv' := vT_no (by decide +kernel) (hv rfl)
    subst hv'
    simp only [w190_0, w190_1, w190_2, w190_3, w190_4, w190_7, w190_12, w190_13, w190_16, w190_17, w190_20, w190_21, w190_24, w190_25, w190_28, w190_29, w190_30, w190_31, cS_i0, true_and, hC, cOut_0, pK_n, pAdd_0, Nat.reduceAdd]
    first | done | exact Iff.rfl
  · simp only [w190_0, w190_1, w190_2, w190_3, w190_4, w190_7, w190_12, w190_13, w190_16, w190_17, w190_20, w190_21, w190_24, w190_25, w190_28, w190_29, w190_30, w190_31, cS_i0, true_and, hC, cO1, pK_c hx (show pHd 190 4 0 = some (12, 4) by decide +kernel), pAdd, Nat.reduceAdd]
    first | done | exact Iff.rfl
  · simp only [w190_0, w190_1, w190_2, w190_3, w190_4, w190_7, w190_12, w190_13, w190_16, w190_17, w190_20, w190_21, w190_24, w190_25, w190_28, w190_29, w190_30, w190_31, cS_i0, true_and, hC, cO2, pK_c hx (show pHd 190 4 1 = some (16, 4) by decide +kernel), pAdd, Nat.reduceAdd]
    first | done | exact Iff.rfl
  · simp only [w190_0, w190_1, w190_2, w190_3, w190_4, w190_7, w190_12, w190_13, w190_16, w190_17, w190_20, w190_21, w190_24, w190_25, w190_28, w190_29, w190_30, w190_31, cS_i0, true_and, hC, cO3, pK_c hx (show pHd 190 4 2 = some (20, 4) by decide +kernel), pAdd, Nat.reduceAdd]
    first | done | exact Iff.rfl
  · simp only [w190_0, w190_1, w190_2, w190_3, w190_4, w190_7, w190_12, w190_13, w190_16, w190_17, w190_20, w190_21, w190_24, w190_25, w190_28, w190_29, w190_30, w190_31, cS_i0, true_and, hC, cO4, pK_c hx (show pHd 190 4 3 = some (24, 4) by decide +kernel), pAdd, Nat.reduceAdd]
    first | done | exact Iff.rfl
  · simp only [w190_0, w190_1, w190_2, w190_3, w190_4, w190_7, w190_12, w190_13, w190_16, w190_17, w190_20, w190_21, w190_24, w190_25, w190_28, w190_29, w190_30, w190_31, cS_i0, true_and, hC, cO5, pK_c hx (show pHd 190 4 4 = some (28, 4) by decide +kernel), pAdd, Nat.reduceAdd]
    first | done | exact Iff.rfl
theorem L_trunc {X : pScr} {nx : Nat} {ok : Bool} {Q : pRes → Prop} {d1 d1' : cS1} {d4 d4' : cS4} {d6 d6' : cS6} {d9 d9' : cS9} {e1 : rS1} {e2 : rS2} {e3 : rS3} {e4 : rS4} {g : Nat → Int64} {t : Nat} {v : Option Value} {a b : Int32} (ht : tOK id t) (hv : t = 0 → vT 13 v) (hC : ∀ (X : pScr) (nx : Nat) (ok : Bool) (Q : pRes → Prop) (R : pMem), (pW X 13 0 [.ref 0, .int a, .int b] [] (cSW d1 d4 d6 d9 R) nx ok Q ↔ Q (cOut t v (cSW d1' d4' d6' d9' R) nx ok))) :
    pW X 191 0 [.ref 0, .int a, .int b, pDum] [] (cSW d1 d4 d6 d9 (rSW e1 e2 e3 e4 (aW g))) nx ok Q ↔ Q (.inl (some (.int (nI (id t)))), cSW d1' d4' d6' d9' (rSW e1 e2 e3 e4 (aW g)), nx, okF t ok, kF t, 6 * kF t) := by
  obtain ⟨h6, hz⟩ := ht
  have hx : pHx 191 ≠ [] := by decide +kernel
  have hc : t = 0 ∨ t = 1 ∨ t = 2 ∨ t = 3 ∨ t = 4 ∨ t = 5 := by omega
  rcases hc with rfl | rfl | rfl | rfl | rfl | rfl
  · have hv' := vT_no (by decide +kernel) (hv rfl)
    subst hv'
    simp only [w191_0, w191_1, w191_2, w191_3, w191_6, w191_10, w191_11, w191_13, w191_14, w191_16, w191_17, w191_19, w191_20, w191_22, w191_23, w191_24, w191_25, cS_i0, true_and, hC, cOut_0, pK_n, pAdd_0, Nat.reduceAdd]
    first | done | exact Iff.rfl
  · simp only [w191_0, w191_1, w191_2, w191_3, w191_6, w191_10, w191_11, w191_13, w191_14, w191_16, w191_17, w191_19, w191_20, w191_22, w191_23, w191_24, w191_25, cS_i0, true_and, hC, cO1, pK_c hx (show pHd 191 3 0 = some (10, 3) by decide +kernel), pAdd, Nat.reduceAdd]
    first | done | exact Iff.rfl
  · simp only [w191_0, w191_1, w191_2, w191_3, w191_6, w191_10, w191_11, w191_13, w191_14, w191_16, w191_17, w191_19, w191_20, w191_22, w191_23, w191_24, w191_25, cS_i0, true_and, hC, cO2, pK_c hx (show pHd 191 3 1 = some (13, 3) by decide +kernel), pAdd, Nat.reduceAdd]
    first | done | exact Iff.rfl
  · simp only [w191_0, w191_1, w191_2, w191_3, w191_6, w191_10, w191_11, w191_13, w191_14, w191_16, w191_17, w191_19, w191_20, w191_22, w191_23, w191_24, w191_25, cS_i0, true_and, hC, cO3, pK_c hx (show pHd 191 3 2 = some (16, 3) by decide +kernel), pAdd, Nat.reduceAdd]
    first | done | exact Iff.rfl
  · simp only [w191_0, w191_1, w191_2, w191_3, w191_6, w191_10, w191_11, w191_13, w191_14, w191_16, w191_17, w191_19, w191_20, w191_22, w191_23, w191_24, w191_25, cS_i0, true_and, hC, cO4, pK_c hx (show pHd 191 3 3 = some (19, 3) by decide +kernel), pAdd, Nat.reduceAdd]
    first | done | exact Iff.rfl
  · simp only [w191_0, w191_1, w191_2, w191_3, w191_6, w191_10, w191_11, w191_13, w191_14, w191_16, w191_17, w191_19, w191_20, w191_22, w191_23, w191_24, w191_25, cS_i0, true_and, hC, cO5, pK_c hx (show pHd 191 3 4 = some (22, 3) by decide +kernel), pAdd, Nat.reduceAdd]
    first | done | exact Iff.rfl
theorem L_read {X : pScr} {nx : Nat} {ok : Bool} {Q : pRes → Prop} {d1 d1' : cS1} {d4 d4' : cS4} {d6 d6' : cS6} {d9 d9' : cS9} {e1 : rS1} {e2 : rS2} {e3 : rS3} {e4 : rS4} {g : Nat → Int64} {t : Nat} {v : Option Value} {a b : Int32} (ht : tOK tR t) (hv : t = 0 → vT 14 v) (hC : ∀ (X : pScr) (nx : Nat) (ok : Bool) (Q : pRes → Prop) (R : pMem), (pW X 14 0 [.ref 0, .int a, .int b] [] (cSW d1 d4 d6 d9 R) nx ok Q ↔ Q (cOut t v (cSW d1' d4' d6' d9' R) nx ok))) :
    pW X 192 0 [.ref 0, .int a, .int b, .ref 26, pDum] [] (cSW d1 d4 d6 d9 (rSW e1 e2 e3 e4 (aW g))) nx ok Q ↔ Q (.inl (some (.int (nI (tR t)))), cSW d1' d4' d6' d9' (rSW e1 e2 e3 e4 (aW (gF t v g))), nx, okF t ok, kF t, 6 * kF t) := by
  obtain ⟨h6, hz⟩ := ht
  have hx : pHx 192 ≠ [] := by decide +kernel
  have hc : t = 0 ∨ t = 1 ∨ t = 2 ∨ t = 3 ∨ t = 4 ∨ t = 5 := by omega
  rcases hc with rfl | rfl | rfl | rfl | rfl | rfl
  · obtain ⟨x, rfl⟩ := vT_ye (by decide +kernel) (hv rfl)
    simp only [w192_0, w192_1, w192_2, w192_3, w192_4, w192_5, w192_8, w192_9, w192_10, w192_15, w192_16, w192_19, w192_20, w192_23, w192_24, w192_27, w192_28, w192_29, w192_30, cS_i0, true_and, hC, cOut_0, pK_v, pAdd_0, aS_p, Nat.reduceAdd]
    first | done | exact Iff.rfl
  · simp only [w192_0, w192_1, w192_2, w192_3, w192_4, w192_5, w192_8, w192_9, w192_10, w192_15, w192_16, w192_19, w192_20, w192_23, w192_24, w192_27, w192_28, w192_29, w192_30, cS_i0, true_and, hC, cO1, pK_c hx (show pHd 192 5 0 = some (15, 4) by decide +kernel), pAdd, Nat.reduceAdd]
    first | done | exact Iff.rfl
  · simp only [w192_0, w192_1, w192_2, w192_3, w192_4, w192_5, w192_8, w192_9, w192_10, w192_15, w192_16, w192_19, w192_20, w192_23, w192_24, w192_27, w192_28, w192_29, w192_30, cS_i0, true_and, hC, cO2, pK_c hx (show pHd 192 5 1 = some (19, 4) by decide +kernel), pAdd, Nat.reduceAdd]
    first | done | exact Iff.rfl
  · simp only [w192_0, w192_1, w192_2, w192_3, w192_4, w192_5, w192_8, w192_9, w192_10, w192_15, w192_16, w192_19, w192_20, w192_23, w192_24, w192_27, w192_28, w192_29, w192_30, cS_i0, true_and, hC, cO3, pK_c hx (show pHd 192 5 2 = some (23, 4) by decide +kernel), pAdd, Nat.reduceAdd]
    first | done | exact Iff.rfl
  · simp only [w192_0, w192_1, w192_2, w192_3, w192_4, w192_5, w192_8, w192_9, w192_10, w192_15, w192_16, w192_19, w192_20, w192_23, w192_24, w192_27, w192_28, w192_29, w192_30, cS_i0, true_and, hC, cO4, pK_c hx (show pHd 192 5 3 = some (27, 4) by decide +kernel), pAdd, Nat.reduceAdd]
    first | done | exact Iff.rfl
  · exact absurd rfl (hz.resolve_left (by decide))
theorem L_look {X : pScr} {nx : Nat} {ok : Bool} {Q : pRes → Prop} {d1 d1' : cS1} {d4 d4' : cS4} {d6 d6' : cS6} {d9 d9' : cS9} {e1 : rS1} {e2 : rS2} {e3 : rS3} {e4 : rS4} {g : Nat → Int64} {t : Nat} {v : Option Value} {a b : Int32} (ht : tOK tR t) (hv : t = 0 → vT 15 v) (hC : ∀ (X : pScr) (nx : Nat) (ok : Bool) (Q : pRes → Prop) (R : pMem), (pW X 15 0 [.ref 0, .int a, .int b] [] (cSW d1 d4 d6 d9 R) nx ok Q ↔ Q (cOut t v (cSW d1' d4' d6' d9' R) nx ok))) :
    pW X 193 0 [.ref 0, .int a, .int b, .ref 26, pDum] [] (cSW d1 d4 d6 d9 (rSW e1 e2 e3 e4 (aW g))) nx ok Q ↔ Q (.inl (some (.int (nI (tR t)))), cSW d1' d4' d6' d9' (rSW e1 e2 e3 e4 (aW (gF t v g))), nx, okF t ok, kF t, 6 * kF t) := by
  obtain ⟨h6, hz⟩ := ht
  have hx : pHx 193 ≠ [] := by decide +kernel
  have hc : t = 0 ∨ t = 1 ∨ t = 2 ∨ t = 3 ∨ t = 4 ∨ t = 5 := by omega
  rcases hc with rfl | rfl | rfl | rfl | rfl | rfl
  · obtain ⟨x, rfl⟩ := vT_ye (by decide +kernel) (hv rfl)
    simp only [w193_0, w193_1, w193_2, w193_3, w193_4, w193_5, w193_8, w193_9, w193_10, w193_15, w193_16, w193_19, w193_20, w193_23, w193_24, w193_27, w193_28, w193_29, w193_30, cS_i0, true_and, hC, cOut_0, pK_v, pAdd_0, aS_p, Nat.reduceAdd]
    first | done | exact Iff.rfl
  · simp only [w193_0, w193_1, w193_2, w193_3, w193_4, w193_5, w193_8, w193_9, w193_10, w193_15, w193_16, w193_19, w193_20, w193_23, w193_24, w193_27, w193_28, w193_29, w193_30, cS_i0, true_and, hC, cO1, pK_c hx (show pHd 193 5 0 = some (15, 4) by decide +kernel), pAdd, Nat.reduceAdd]
    first | done | exact Iff.rfl
  · simp only [w193_0, w193_1, w193_2, w193_3, w193_4, w193_5, w193_8, w193_9, w193_10, w193_15, w193_16, w193_19, w193_20, w193_23, w193_24, w193_27, w193_28, w193_29, w193_30, cS_i0, true_and, hC, cO2, pK_c hx (show pHd 193 5 1 = some (19, 4) by decide +kernel), pAdd, Nat.reduceAdd]
    first | done | exact Iff.rfl
  · simp only [w193_0, w193_1, w193_2, w193_3, w193_4, w193_5, w193_8, w193_9, w193_10, w193_15, w193_16, w193_19, w193_20, w193_23, w193_24, w193_27, w193_28, w193_29, w193_30, cS_i0, true_and, hC, cO3, pK_c hx (show pHd 193 5 2 = some (23, 4) by decide +kernel), pAdd, Nat.reduceAdd]
    first | done | exact Iff.rfl
  · simp only [w193_0, w193_1, w193_2, w193_3, w193_4, w193_5, w193_8, w193_9, w193_10, w193_15, w193_16, w193_19, w193_20, w193_23, w193_24, w193_27, w193_28, w193_29, w193_30, cS_i0, true_and, hC, cO4, pK_c hx (show pHd 193 5 3 = some (27, 4) by decide +kernel), pAdd, Nat.reduceAdd]
    first | done | exact Iff.rfl
  · exact absurd rfl (hz.resolve_left (by decide))
theorem L_raw {X : pScr} {nx : Nat} {ok : Bool} {Q : pRes → Prop} {d1 d1' : cS1} {d4 d4' : cS4} {d6 d6' : cS6} {d9 d9' : cS9} {e1 : rS1} {e2 : rS2} {e3 : rS3} {e4 : rS4} {g : Nat → Int64} {t : Nat} {v : Option Value} {a b : Int32} (ht : tOK tI t) (hv : t = 0 → vT 16 v) (hC : ∀ (X : pScr) (nx : Nat) (ok : Bool) (Q : pRes → Prop) (R : pMem), (pW X 16 0 [.ref 0, .int a, .int b] [] (cSW d1 d4 d6 d9 R) nx ok Q ↔ Q (cOut t v (cSW d1' d4' d6' d9' R) nx ok))) :
    pW X 194 0 [.ref 0, .int a, .int b, .ref 26, pDum] [] (cSW d1 d4 d6 d9 (rSW e1 e2 e3 e4 (aW g))) nx ok Q ↔ Q (.inl (some (.int (nI (tI t)))), cSW d1' d4' d6' d9' (rSW e1 e2 e3 e4 (aW (gF t v g))), nx, okF t ok, kF t, 6 * kF t) := by
  obtain ⟨h6, hz⟩ := ht
  have hx : pHx 194 ≠ [] := by decide +kernel
  have hc : t = 0 ∨ t = 1 ∨ t = 2 ∨ t = 3 ∨ t = 4 ∨ t = 5 := by omega
  rcases hc with rfl | rfl | rfl | rfl | rfl | rfl
  · obtain ⟨x, rfl⟩ := vT_ye (by decide +kernel) (hv rfl)
    simp only [w194_0, w194_1, w194_2, w194_3, w194_4, w194_5, w194_8, w194_9, w194_10, w194_15, w194_16, w194_17, w194_18, cS_i0, true_and, hC, cOut_0, pK_v, pAdd_0, aS_p, Nat.reduceAdd]
    first | done | exact Iff.rfl
  · simp only [w194_0, w194_1, w194_2, w194_3, w194_4, w194_5, w194_8, w194_9, w194_10, w194_15, w194_16, w194_17, w194_18, cS_i0, true_and, hC, cO1, pK_c hx (show pHd 194 5 0 = some (15, 4) by decide +kernel), pAdd, Nat.reduceAdd]
    first | done | exact Iff.rfl
  · exact absurd rfl (hz.resolve_left (by decide))
  · exact absurd rfl (hz.resolve_left (by decide))
  · exact absurd rfl (hz.resolve_left (by decide))
  · exact absurd rfl (hz.resolve_left (by decide))
theorem L_tamper {X : pScr} {nx : Nat} {ok : Bool} {Q : pRes → Prop} {d1 d1' : cS1} {d4 d4' : cS4} {d6 d6' : cS6} {d9 d9' : cS9} {e1 : rS1} {e2 : rS2} {e3 : rS3} {e4 : rS4} {g : Nat → Int64} {t : Nat} {v : Option Value} {a b c : Int32} (ht : tOK tT t) (hv : t = 0 → vT 17 v) (hC : ∀ (X : pScr) (nx : Nat) (ok : Bool) (Q : pRes → Prop) (R : pMem), (pW X 17 0 [.ref 0, .int a, .int b, .int c] [] (cSW d1 d4 d6 d9 R) nx ok Q ↔ Q (cOut t v (cSW d1' d4' d6' d9' R) nx ok))) :
    pW X 195 0 [.ref 0, .int a, .int b, .int c, pDum] [] (cSW d1 d4 d6 d9 (rSW e1 e2 e3 e4 (aW g))) nx ok Q ↔ Q (.inl (some (.int (nI (tT t)))), cSW d1' d4' d6' d9' (rSW e1 e2 e3 e4 (aW g)), nx, okF t ok, kF t, 6 * kF t) := by
  obtain ⟨h6, hz⟩ := ht
  have hx : pHx 195 ≠ [] := by decide +kernel
  have hc : t = 0 ∨ t = 1 ∨ t = 2 ∨ t = 3 ∨ t = 4 ∨ t = 5 := by omega
  rcases hc with rfl | rfl | rfl | rfl | rfl | rfl
  · have hv' := vT_no (by decide +kernel) (hv rfl)
    subst hv'
    simp only [w195_0, w195_1, w195_2, w195_3, w195_4, w195_7, w195_12, w195_13, w195_16, w195_17, w195_18, w195_19, cS_i0, true_and, hC, cOut_0, pK_n, pAdd_0, Nat.reduceAdd]
    first | done | exact Iff.rfl
  · simp only [w195_0, w195_1, w195_2, w195_3, w195_4, w195_7, w195_12, w195_13, w195_16, w195_17, w195_18, w195_19, cS_i0, true_and, hC, cO1, pK_c hx (show pHd 195 4 0 = some (12, 4) by decide +kernel), pAdd, Nat.reduceAdd]
    first | done | exact Iff.rfl
  · simp only [w195_0, w195_1, w195_2, w195_3, w195_4, w195_7, w195_12, w195_13, w195_16, w195_17, w195_18, w195_19, cS_i0, true_and, hC, cO2, pK_c hx (show pHd 195 4 1 = some (16, 4) by decide +kernel), pAdd, Nat.reduceAdd]
    first | done | exact Iff.rfl
  · exact absurd rfl (hz.resolve_left (by decide))
  · exact absurd rfl (hz.resolve_left (by decide))
  · exact absurd rfl (hz.resolve_left (by decide))
theorem L_check {X : pScr} {nx : Nat} {ok : Bool} {Q : pRes → Prop} {d1 d1' : cS1} {d4 d4' : cS4} {d6 d6' : cS6} {d9 d9' : cS9} {e1 : rS1} {e2 : rS2} {e3 : rS3} {e4 : rS4} {g : Nat → Int64} {t : Nat} {v : Option Value} {a : Int32} (ht : tOK tT t) (hv : t = 0 → vT 18 v) (hC : ∀ (X : pScr) (nx : Nat) (ok : Bool) (Q : pRes → Prop) (R : pMem), (pW X 18 0 [.ref 0, .int a] [] (cSW d1 d4 d6 d9 R) nx ok Q ↔ Q (cOut t v (cSW d1' d4' d6' d9' R) nx ok))) :
    pW X 196 0 [.ref 0, .int a, .ref 26, pDum] [] (cSW d1 d4 d6 d9 (rSW e1 e2 e3 e4 (aW g))) nx ok Q ↔ Q (.inl (some (.int (nI (tT t)))), cSW d1' d4' d6' d9' (rSW e1 e2 e3 e4 (aW (gF t v g))), nx, okF t ok, kF t, 6 * kF t) := by
  obtain ⟨h6, hz⟩ := ht
  have hx : pHx 196 ≠ [] := by decide +kernel
  have hc : t = 0 ∨ t = 1 ∨ t = 2 ∨ t = 3 ∨ t = 4 ∨ t = 5 := by omega
  rcases hc with rfl | rfl | rfl | rfl | rfl | rfl
  · obtain ⟨x, rfl⟩ := vT_ye (by decide +kernel) (hv rfl)
    simp only [w196_0, w196_1, w196_2, w196_3, w196_4, w196_7, w196_8, w196_9, w196_13, w196_14, w196_16, w196_17, w196_18, w196_19, cS_i0, true_and, hC, cOut_0, pK_v, pAdd_0, aS_p, Nat.reduceAdd]
    first | done | exact Iff.rfl
  · simp only [w196_0, w196_1, w196_2, w196_3, w196_4, w196_7, w196_8, w196_9, w196_13, w196_14, w196_16, w196_17, w196_18, w196_19, cS_i0, true_and, hC, cO1, pK_c hx (show pHd 196 4 0 = some (13, 3) by decide +kernel), pAdd, Nat.reduceAdd]
    first | done | exact Iff.rfl
  · simp only [w196_0, w196_1, w196_2, w196_3, w196_4, w196_7, w196_8, w196_9, w196_13, w196_14, w196_16, w196_17, w196_18, w196_19, cS_i0, true_and, hC, cO2, pK_c hx (show pHd 196 4 1 = some (16, 3) by decide +kernel), pAdd, Nat.reduceAdd]
    first | done | exact Iff.rfl
  · exact absurd rfl (hz.resolve_left (by decide))
  · exact absurd rfl (hz.resolve_left (by decide))
  · exact absurd rfl (hz.resolve_left (by decide))
