/-- both go on behind their beginnings -/
theorem F_go {tau : Nat → Nat} {cm cpc rm rpc : Nat} {cA rA : List Value} {d1 D1 : cS1} {d4 D4 : cS4} {d6 D6 : cS6} {d9 : cS9} {e1 E1 : rS1} {e2 E2 : rS2} {e3 E3 : rS3} {e4 F4 : rS4} {x u : Nat}
    (hc0 : ∀ (X : pScr) (nx : Nat) (ok : Bool) (Q : pRes → Prop) (R : pMem), (pW X cm 0 cA [] (cSW d1 d4 d6 d9 R) nx ok Q ↔ pW X cm cpc cA [] (cSW D1 D4 D6 d9 R) nx ok Q))
    (hr0 : ∀ (X : pScr) (nx : Nat) (ok : Bool) (Q : pRes → Prop) (R : pMem), (pW X rm 0 rA [] (rSW e1 e2 e3 e4 R) nx ok Q ↔ pW X rm rpc rA [] (rSW E1 E2 E3 F4 R) nx ok Q))
    (hr : RDg D1 E1 0) (hb : mBit E1) (hj : jnR D6 E3 x u) (h1 : E1.1 1 = nI 2)
    (hB : ∃ t v v' d4' e2', (t < 6 ∧ tau t = t) ∧ (∀ d1 d6, cRun cm cpc cA d1 D4 d6 t v d4') ∧ (∀ e1 e3, rRun rm rpc rA e1 E2 e3 t v' e2') ∧ ((t = 0 → v' = v ∧ vT cm v) ∧ vT rm v') ∧ GI d4' e2' ∧ nCh e2' ≤ 6) :
    OpR tau cm cA rm rA d1 d4 d6 d9 e1 e2 e3 e4 := by
  obtain ⟨t, v, v', d4', e2', ⟨ht, htt⟩, hc, hr', hv, hG, hn⟩ := hB
  obtain ⟨m, hm, hmm⟩ := hb
  refine ⟨t, v, D1, d4', D6, d9, ⟨⟨ht, by rw [htt]; exact Decidable.em (t = 0)⟩, fun z => (hv.1 z).2⟩, fun X nx ok Q R => (hc0 X nx ok Q R).trans (hc D1 D6 X nx ok Q d9 R), fun X nx ok Q R => ⟨v', E1, e2', E3, (F4.1, F4.2.1, nI t), (hr0 X nx ok Q R).trans (hr' E1 E3 X nx ok Q F4 R), congrArg nI htt.symm, ⟨fun z => (hv.1 z).1, hv.2⟩, hr, jnR_W hj, oEq_G hG, m, hm, hmm, fun _ => ⟨⟨x, u, hj⟩, h1, hG, hn⟩⟩⟩
/-- a changing call of files -/
theorem F_op {bad : Bool} {cm cpc rm rpc : Nat} {cA rA : List Value} {w0 : Option Value} (hw0 : vT rm w0) {d1 : cS1} {d4 : cS4} {d6 : cS6} {d9 : cS9} {e1 : rS1} {e2 : rS2} {e3 : rS3} {e4 : rS4} (hs : RS d1 d4 d6 e1 e2 e3)
    (hK : ∀ m n ff, d1.2.2.2.2.2.2.2 = nI m → m < 2 → (m = 1 → bcL d4.2.1 = nI n ∧ n < 100 ∧ d6.2.2.2.1 = nI ff ∧ ff < 8) → ∀ (X : pScr) (nx : Nat) (ok : Bool) (Q : pRes → Prop) (R : pMem), (pW X cm 0 cA [] (cSW d1 d4 d6 d9 R) nx ok Q ↔ (if bad = true then Q (.inr 0, cSW d1 d4 d6 d9 R, nx, false, 1, 6) else if m = 1 then (if (begC d1 d4 d6 n ff).1 = true then pW X cm cpc cA [] (cSW (begC d1 d4 d6 n ff).2.1 (begC d1 d4 d6 n ff).2.2.1 (begC d1 d4 d6 n ff).2.2.2 d9 R) nx ok Q else Q (.inr 4, cSW (begC d1 d4 d6 n ff).2.1 (begC d1 d4 d6 n ff).2.2.1 (begC d1 d4 d6 n ff).2.2.2 d9 R, nx, false, 1, 6)) else Q (.inr 1, cSW d1 d4 d6 d9 R, nx, false, 1, 6))))
    (hH : ∀ m x, e1.2.2.2.2.1 = nI m → m < 2 → (m = 1 → rOk (rLive e1) 0 ∧ e3.2.2.2.1 = nI x ∧ x < 8 ∧ cntF (mb e2.2.1) 48 0 0 ≤ 9) → ∀ (X : pScr) (nx : Nat) (ok : Bool) (Q : pRes → Prop) (R : pMem), (pW X rm 0 rA [] (rSW e1 e2 e3 e4 R) nx ok Q ↔ (if (rbeg bad true m e1 e2 e3 x).1 = true then pW X rm rpc rA [] (rSW (rbeg bad true m e1 e2 e3 x).2.1 (rbeg bad true m e1 e2 e3 x).2.2.1 (rbeg bad true m e1 e2 e3 x).2.2.2.1 (e4.1, e4.2.1, nI (rbeg bad true m e1 e2 e3 x).2.2.2.2) R) nx ok Q else Q (.inl w0, rSW (rbeg bad true m e1 e2 e3 x).2.1 (rbeg bad true m e1 e2 e3 x).2.2.1 (rbeg bad true m e1 e2 e3 x).2.2.2.1 (e4.1, e4.2.1, nI (rbeg bad true m e1 e2 e3 x).2.2.2.2) R, nx, ok, 0, 0))))
    (hB : bad = false → ∀ d4 e2, GI d4 e2 → BodyR cm cpc cA rm rpc rA d4 e2) : OpR id cm cA rm rA d1 d4 d6 d9 e1 e2 e3 e4 := by
  have hs0 := hs
  obtain ⟨hr, hw, ho, m, hm2, hm, hM⟩ := hs
  have hmd : d1.2.2.2.2.2.2.2 = nI m := hr.2.2.2.2.2.2.2.2.2.trans hm
  have hKx : ∃ n x, (m = 1 → n = nCh e2 ∧ ∃ u, jnR d6 e3 x u) ∧ (m = 1 → bcL d4.2.1 = nI n ∧ n < 100 ∧ d6.2.2.2.1 = nI x ∧ x < 8) ∧ (m = 1 → rOk (rLive e1) 0 ∧ e3.2.2.2.1 = nI x ∧ x < 8 ∧ cntF (mb e2.2.1) 48 0 0 ≤ 9) := by
    by_cases c : m = 1
    · obtain ⟨⟨x, u, hj⟩, h1, hG, hn⟩ := hM c
      have hn9 : cntF (mb e2.2.1) 48 0 0 ≤ 9 := Nat.le_trans hn (by omega)
      exact ⟨nCh e2, x, fun _ => ⟨rfl, u, hj⟩, fun _ => ⟨bcL_s hG.1.2.1, by omega, hj.1, hj.2.2.1⟩, fun _ => ⟨RDg_ok hr, hj.2.1, hj.2.2.1, hn9⟩⟩
    · exact ⟨0, 0, fun z => absurd z c, fun z => absurd z c, fun z => absurd z c⟩
  obtain ⟨n, x, k1, k2, k3⟩ := hKx
  have hK' := hK m n x hmd hm2 k2
  have hH' := hH m x hm hm2 k3
  clear hK hH
  cases bad with
  | true =>
    have er : rbeg true true m e1 e2 e3 x = (false, rLive e1, e2, e3, 1) := rfl
    rw [er] at hH'
    refine ⟨1, none, d1, d4, d6, d9, ⟨⟨by omega, by decide⟩, fun z => by omega⟩, fun X nx ok Q R => (hK' X nx ok Q R).trans Iff.rfl, fun X nx ok Q R => ⟨w0, rLive e1, e2, e3, _, (hH' X nx ok Q R).trans Iff.rfl, rfl, ⟨fun z => by omega, hw0⟩, hs0⟩⟩
  | false =>
    by_cases c : m = 1
    · subst c
      obtain ⟨-, h1, hG, hn⟩ := hM rfl
      obtain ⟨hne, u, hj⟩ := k1 rfl
      subst hne
      by_cases c2 : 2 ≤ nCh e2
      · obtain ⟨r1, r2, r3⟩ := RS_commit hr hj h1 hG hn
        have hbc : begC d1 d4 d6 (nCh e2) x = (if (commitF d4 (nCh e2) x d1 d6).1 = true then (true, (commitF d4 (nCh e2) x d1 d6).2.1, endM d4, (commitF d4 (nCh e2) x d1 d6).2.2) else (false, (commitF d4 (nCh e2) x d1 d6).2.1, d4, (commitF d4 (nCh e2) x d1 d6).2.2)) := if_pos c2
        have hbr : rbeg false true 1 e1 e2 e3 x = (if (rcommit (rLive e1) e2 e3 x).1.2.2.2.2.2.1 = nI 0 then (true, (rcommit (rLive e1) e2 e3 x).1, (rcommit (rLive e1) e2 e3 x).2.1, (rcommit (rLive e1) e2 e3 x).2.2, 0) else (false, (rcommit (rLive e1) e2 e3 x).1, (rcommit (rLive e1) e2 e3 x).2.1, (rcommit (rLive e1) e2 e3 x).2.2, 5)) := by
          show (if false = true then _ else if 1 = 0 then _ else if true = true ∧ 2 ≤ nCh e2 then _ else _) = _
          rw [if_neg (fun z => by cases z), if_neg (fun z => by cases z), if_pos ⟨rfl, c2⟩]
        have hmb : mBit (rcommit (rLive e1) e2 e3 x).1 := mBit_commit ⟨1, by omega, hm⟩
        have hme2 : (rcommit (rLive e1) e2 e3 x).2.1.1 = e2.1 := rc_mem
        generalize commitF d4 (nCh e2) x d1 d6 = C at hbc r1 r2 r3
        generalize rcommit (rLive e1) e2 e3 x = D at hbr r1 r2 r3 hmb hme2
        rcases RB_cases r1 with ⟨c, ⟨n0, hn0, hr0⟩, hg⟩ | ⟨c, hr0, hg, hm0⟩
        · have c' : C.1 = true := c
          have n00 : n0 = 0 := by omega
          subst n00
          rw [if_pos c'] at hbc
          rw [if_pos hg] at hbr
          rw [hbc] at hK'
          rw [hbr] at hH'
          obtain ⟨⟨g1, g2⟩, ⟨x', u', g3⟩, g4⟩ := r3 c'
          obtain ⟨t, v, v', d4', e2', ht, b1, b2, b3, b4, b5⟩ := hB rfl _ _ g1
          exact F_go (cpc := cpc) (rpc := rpc) (fun X nx ok Q R => (hK' X nx ok Q R).trans Iff.rfl) (fun X nx ok Q R => (hH' X nx ok Q R).trans Iff.rfl) hr0 hmb g3 g4 ⟨t, v, v', d4', e2', ⟨ht, rfl⟩, b1, b2, b3, b4, by omega⟩
        · have c' : ¬ C.1 = true := fun z => by
            have z2 : C.1 = false := c
            rw [z2] at z
            cases z
          rw [if_neg c'] at hbc
          rw [if_neg hg] at hbr
          rw [hbc] at hK'
          rw [hbr] at hH'
          have hme : D.1.2.2.2.2.1 = nI 0 := hr0.2.2.2.2.2.2.2.2.2.symm.trans hm0
          refine ⟨5, none, C.2.1, d4, C.2.2, d9, ⟨⟨by omega, by decide⟩, fun z => by omega⟩, fun X nx ok Q R => (hK' X nx ok Q R).trans Iff.rfl, fun X nx ok Q R => ⟨w0, D.1, D.2.1, D.2.2, _, (hH' X nx ok Q R).trans Iff.rfl, rfl, ⟨fun z => by omega, hw0⟩, hr0, r2, oEq_t ho hme2, 0, by omega, hme, fun z => by omega⟩⟩
      · have hbc : begC d1 d4 d6 (nCh e2) x = (true, d1, d4, d6) := if_neg c2
        have hbr : rbeg false true 1 e1 e2 e3 x = (true, rLive e1, e2, e3, 0) := by
          show (if false = true then _ else if 1 = 0 then _ else if true = true ∧ 2 ≤ nCh e2 then _ else _) = _
          rw [if_neg (fun z => by cases z), if_neg (fun z => by cases z), if_neg (fun z => c2 z.2)]
        rw [hbc] at hK'
        rw [hbr] at hH'
        obtain ⟨t, v, v', d4', e2', ht, b1, b2, b3, b4, b5⟩ := hB rfl _ _ hG
        exact F_go (cpc := cpc) (rpc := rpc) (fun X nx ok Q R => (hK' X nx ok Q R).trans Iff.rfl) (fun X nx ok Q R => (hH' X nx ok Q R).trans Iff.rfl) (RDg_live hr) ⟨1, by omega, hm⟩ hj h1 ⟨t, v, v', d4', e2', ⟨ht, rfl⟩, b1, b2, b3, b4, by omega⟩
    · have c0 : m = 0 := by omega
      subst c0
      have er : rbeg false true 0 e1 e2 e3 x = (false, rLive e1, e2, e3, 2) := rfl
      rw [er] at hH'
      refine ⟨2, none, d1, d4, d6, d9, ⟨⟨by omega, by decide⟩, fun z => by omega⟩, fun X nx ok Q R => (hK' X nx ok Q R).trans Iff.rfl, fun X nx ok Q R => ⟨w0, rLive e1, e2, e3, _, (hH' X nx ok Q R).trans Iff.rfl, rfl, ⟨fun z => by omega, hw0⟩, hs0⟩⟩
/-- a reading call of files -/
theorem F_rd {bad : Bool} {cm cpc rm rpc : Nat} {cA rA : List Value} {w0 : Option Value} (hw0 : vT rm w0) {d1 : cS1} {d4 : cS4} {d6 : cS6} {d9 : cS9} {e1 : rS1} {e2 : rS2} {e3 : rS3} {e4 : rS4} (hs : RS d1 d4 d6 e1 e2 e3)
    (hK : ∀ m, d1.2.2.2.2.2.2.2 = nI m → m < 2 → ∀ (X : pScr) (nx : Nat) (ok : Bool) (Q : pRes → Prop) (R : pMem), (pW X cm 0 cA [] (cSW d1 d4 d6 d9 R) nx ok Q ↔ (if bad = true then Q (.inr 0, cSW d1 d4 d6 d9 R, nx, false, 1, 6) else if m = 1 then pW X cm cpc cA [] (cSW d1 d4 d6 d9 R) nx ok Q else Q (.inr 1, cSW d1 d4 d6 d9 R, nx, false, 1, 6))))
    (hH : ∀ m x, e1.2.2.2.2.1 = nI m → m < 2 → (m = 1 → rOk (rLive e1) 0 ∧ e3.2.2.2.1 = nI x ∧ x < 8 ∧ cntF (mb e2.2.1) 48 0 0 ≤ 9) → ∀ (X : pScr) (nx : Nat) (ok : Bool) (Q : pRes → Prop) (R : pMem), (pW X rm 0 rA [] (rSW e1 e2 e3 e4 R) nx ok Q ↔ (if (rbeg bad false m e1 e2 e3 x).1 = true then pW X rm rpc rA [] (rSW (rbeg bad false m e1 e2 e3 x).2.1 (rbeg bad false m e1 e2 e3 x).2.2.1 (rbeg bad false m e1 e2 e3 x).2.2.2.1 (e4.1, e4.2.1, nI (rbeg bad false m e1 e2 e3 x).2.2.2.2) R) nx ok Q else Q (.inl w0, rSW (rbeg bad false m e1 e2 e3 x).2.1 (rbeg bad false m e1 e2 e3 x).2.2.1 (rbeg bad false m e1 e2 e3 x).2.2.2.1 (e4.1, e4.2.1, nI (rbeg bad false m e1 e2 e3 x).2.2.2.2) R, nx, ok, 0, 0))))
    (hB : bad = false → GI d4 e2 → BodyS cm cpc cA rm rpc rA d4 e2) : OpR tR cm cA rm rA d1 d4 d6 d9 e1 e2 e3 e4 := by
  have hs0 := hs
  obtain ⟨hr, hw, ho, m, hm2, hm, hM⟩ := hs
  have hmd : d1.2.2.2.2.2.2.2 = nI m := hr.2.2.2.2.2.2.2.2.2.trans hm
  have hKx : ∃ x, (m = 1 → rOk (rLive e1) 0 ∧ e3.2.2.2.1 = nI x ∧ x < 8 ∧ cntF (mb e2.2.1) 48 0 0 ≤ 9) := by
    by_cases c : m = 1
    · obtain ⟨⟨x, u, hj⟩, h1, hG, hn⟩ := hM c
      have hn9 : cntF (mb e2.2.1) 48 0 0 ≤ 9 := Nat.le_trans hn (by omega)
      exact ⟨x, fun _ => ⟨RDg_ok hr, hj.2.1, hj.2.2.1, hn9⟩⟩
    · exact ⟨0, fun z => absurd z c⟩
  obtain ⟨x, k3⟩ := hKx
  have hK' := hK m hmd hm2
  have hH' := hH m x hm hm2 k3
  clear hK hH
  cases bad with
  | true =>
    have er : rbeg true false m e1 e2 e3 x = (false, rLive e1, e2, e3, 1) := rfl
    rw [er] at hH'
    refine ⟨1, none, d1, d4, d6, d9, ⟨⟨by omega, by decide⟩, fun z => by omega⟩, fun X nx ok Q R => (hK' X nx ok Q R).trans Iff.rfl, fun X nx ok Q R => ⟨w0, rLive e1, e2, e3, _, (hH' X nx ok Q R).trans Iff.rfl, rfl, ⟨fun z => by omega, hw0⟩, hs0⟩⟩
  | false =>
    by_cases c : m = 1
    · subst c
      obtain ⟨⟨x', u, hj⟩, h1, hG, hn⟩ := hM rfl
      have hbr : rbeg false false 1 e1 e2 e3 x = (true, rLive e1, e2, e3, 0) := by
        show (if false = true then _ else if 1 = 0 then _ else if false = true ∧ 2 ≤ nCh e2 then _ else _) = _
        rw [if_neg (fun z => by cases z), if_neg (fun z => by cases z), if_neg (fun z => by cases z.1)]
      rw [hbr] at hH'
      obtain ⟨t, v, v', ht, b1, b2, b3⟩ := hB rfl hG
      exact F_go (cpc := cpc) (rpc := rpc) (fun X nx ok Q R => (hK' X nx ok Q R).trans Iff.rfl) (fun X nx ok Q R => (hH' X nx ok Q R).trans Iff.rfl) (RDg_live hr) ⟨1, by omega, hm⟩ hj h1 ⟨t, v, v', d4, e2, ⟨by omega, if_pos ht⟩, b1, b2, b3, hG, hn⟩
    · have c0 : m = 0 := by omega
      subst c0
      have er : rbeg false false 0 e1 e2 e3 x = (false, rLive e1, e2, e3, 2) := rfl
      rw [er] at hH'
      refine ⟨2, none, d1, d4, d6, d9, ⟨⟨by omega, by decide⟩, fun z => by omega⟩, fun X nx ok Q R => (hK' X nx ok Q R).trans Iff.rfl, fun X nx ok Q R => ⟨w0, rLive e1, e2, e3, _, (hH' X nx ok Q R).trans Iff.rfl, rfl, ⟨fun z => by omega, hw0⟩, hs0⟩⟩
theorem noB_1 {v : Int32} {b : Nat} (hb : b < 1000) (h : noB v (nI 1) (nI b) = false) : ∃ j, 1 ≤ j ∧ j ≤ b ∧ v = nI j := by
  have f2 := h
  obtain ⟨j, hj, rfl⟩ := noB_f (v := v) (b := b) hb (by
    unfold noB at h ⊢
    simp only [Bool.or_eq_false_iff, decide_eq_false_iff_not] at h ⊢
    exact ⟨fun z => h.1 (Int32.lt_trans z (by decide)), h.2⟩)
  refine ⟨j, ?_, hj, rfl⟩
  unfold noB at f2
  simp only [Bool.or_eq_false_iff, decide_eq_false_iff_not] at f2
  by_cases g : 1 ≤ j
  · exact g
  · exact absurd (nI_lt (a := j) (b := 1) (by omega) (by decide)) f2.1
section RUN
variable {d1 : cS1} {d4 : cS4} {d6 : cS6} {d9 : cS9} {e1 : rS1} {e2 : rS2} {e3 : rS3} {e4 : rS4}
theorem O_read {i k : Int32} (hs : RS d1 d4 d6 e1 e2 e3) : OpR tR 14 [.ref 0, .int i, .int k] 151 [.ref 13, .int i, .int k, pDum] d1 d4 d6 d9 e1 e2 e3 e4 := by
  refine F_rd (hw0 := vT_v (x := nI 0) (by decide +kernel)) (bad := noB i (nI 1) (nI 15) || (noB k (nI 0) (nI 15))) (cpc := 15) (rpc := 37) hs (fun m h1 h2 X nx ok Q R => q_kread (n := 0) (ff := 0) h1 h2) (fun m x h1 h2 h3 X nx ok Q R => q_hread h1 h2 h3) (fun hb hG => ?_)
  simp only [Bool.or_eq_false_iff] at hb
  obtain ⟨i', g1, g2, rfl⟩ := noB_1 (by omega) hb.1
  obtain ⟨k', g3, rfl⟩ := noB_f (by omega) hb.2
  exact B_read hG g1 (by omega) (by omega)
theorem O_look {i k : Int32} (hs : RS d1 d4 d6 e1 e2 e3) : OpR tR 15 [.ref 0, .int i, .int k] 152 [.ref 13, .int i, .int k] d1 d4 d6 d9 e1 e2 e3 e4 := by
  refine F_rd (hw0 := vT_v (x := nI 0) (by decide +kernel)) (bad := noB i (nI 1) (nI 15) || (noB k (nI 1) (nI 26))) (cpc := 12) (rpc := 37) hs (fun m h1 h2 X nx ok Q R => q_klookup (n := 0) (ff := 0) h1 h2) (fun m x h1 h2 h3 X nx ok Q R => q_hlookup h1 h2 h3) (fun hb hG => ?_)
  simp only [Bool.or_eq_false_iff] at hb
  obtain ⟨i', g1, g2, rfl⟩ := noB_1 (by omega) hb.1
  obtain ⟨k', g3, g4, rfl⟩ := noB_1 (by omega) hb.2
  exact B_look hG g1 (by omega) (by omega)
theorem O_create {i k : Int32} {dir : Bool} (hs : RS d1 d4 d6 e1 e2 e3) : OpR id 8 [.ref 0, .int i, .int k, .int (bI dir), pDum] 140 [.ref 13, .int i, .int k, .int (bI dir), pDum] d1 d4 d6 d9 e1 e2 e3 e4 := by
  refine F_op (hw0 := vT_v (x := nI 0) (by decide +kernel)) (bad := noB i (nI 1) (nI 15) || (noB k (nI 1) (nI 26))) (cpc := 12) (rpc := 37) hs (fun m n ff h1 h2 h3 X nx ok Q R => q_kcreate h1 h2 h3) (fun m x h1 h2 h3 X nx ok Q R => q_hcreate h1 h2 h3) (fun hb D4 E2 hG => ?_)
  simp only [Bool.or_eq_false_iff] at hb
  obtain ⟨i', g1, g2, rfl⟩ := noB_1 (by omega) hb.1
  obtain ⟨k', g3, g4, rfl⟩ := noB_1 (by omega) hb.2
  exact B_create hG g1 (by omega) g3 g4
theorem O_link {i k w : Int32} (hs : RS d1 d4 d6 e1 e2 e3) : OpR id 9 [.ref 0, .int i, .int k, .int w] 141 [.ref 13, .int i, .int k, .int w] d1 d4 d6 d9 e1 e2 e3 e4 := by
  refine F_op (hw0 := vT_n (by decide +kernel)) (bad := noB i (nI 1) (nI 15) || (noB k (nI 1) (nI 26) || (noB w (nI 1) (nI 15)))) (cpc := 16) (rpc := 47) hs (fun m n ff h1 h2 h3 X nx ok Q R => q_klink h1 h2 h3) (fun m x h1 h2 h3 X nx ok Q R => q_hlink h1 h2 h3) (fun hb D4 E2 hG => ?_)
  simp only [Bool.or_eq_false_iff] at hb
  obtain ⟨i', g1, g2, rfl⟩ := noB_1 (by omega) hb.1
  obtain ⟨k', g3, g4, rfl⟩ := noB_1 (by omega) hb.2.1
  obtain ⟨w', g5, g6, rfl⟩ := noB_1 (by omega) hb.2.2
  exact B_link hG g1 (by omega) g3 g4 g5 (by omega)
theorem O_unlink {i k : Int32} (hs : RS d1 d4 d6 e1 e2 e3) : OpR id 10 [.ref 0, .int i, .int k, pDum, pDum] 145 [.ref 13, .int i, .int k, pDum, pDum, pDum] d1 d4 d6 d9 e1 e2 e3 e4 := by
  refine F_op (hw0 := vT_n (by decide +kernel)) (bad := noB i (nI 1) (nI 15) || (noB k (nI 1) (nI 26))) (cpc := 12) (rpc := 36) hs (fun m n ff h1 h2 h3 X nx ok Q R => q_kunlink h1 h2 h3) (fun m x h1 h2 h3 X nx ok Q R => q_hunlink h1 h2 h3) (fun hb D4 E2 hG => ?_)
  simp only [Bool.or_eq_false_iff] at hb
  obtain ⟨i', g1, g2, rfl⟩ := noB_1 (by omega) hb.1
  obtain ⟨k', g3, g4, rfl⟩ := noB_1 (by omega) hb.2
  exact B_unlink hG g1 (by omega) g3 g4
theorem O_rename {i k w v : Int32} (hs : RS d1 d4 d6 e1 e2 e3) : OpR id 11 [.ref 0, .int i, .int k, .int w, .int v, pDum, pDum] 147 [.ref 13, .int i, .int k, .int w, .int v, pDum, pDum, pDum] d1 d4 d6 d9 e1 e2 e3 e4 := by
  refine F_op (hw0 := vT_n (by decide +kernel)) (bad := noB i (nI 1) (nI 15) || (noB k (nI 1) (nI 26) || (noB w (nI 1) (nI 15) || (noB v (nI 1) (nI 26))))) (cpc := 21) (rpc := 59) hs (fun m n ff h1 h2 h3 X nx ok Q R => q_krename h1 h2 h3) (fun m x h1 h2 h3 X nx ok Q R => q_hrename h1 h2 h3) (fun hb D4 E2 hG => ?_)
  simp only [Bool.or_eq_false_iff] at hb
  obtain ⟨i', g1, g2, rfl⟩ := noB_1 (by omega) hb.1
  obtain ⟨k', g3, g4, rfl⟩ := noB_1 (by omega) hb.2.1
  obtain ⟨w', g5, g6, rfl⟩ := noB_1 (by omega) hb.2.2.1
  obtain ⟨v', g7, g8, rfl⟩ := noB_1 (by omega) hb.2.2.2
  exact B_rename hG g1 (by omega) g3 g4 g5 (by omega) g7 g8
theorem O_write {i k w : Int32} (hs : RS d1 d4 d6 e1 e2 e3) : OpR id 12 [.ref 0, .int i, .int k, .int w] 149 [.ref 13, .int i, .int k, .int w, pDum] d1 d4 d6 d9 e1 e2 e3 e4 := by
  refine F_op (hw0 := vT_n (by decide +kernel)) (bad := noB i (nI 1) (nI 15) || (noB k (nI 0) (nI 15))) (cpc := 15) (rpc := 36) hs (fun m n ff h1 h2 h3 X nx ok Q R => q_kwrite h1 h2 h3) (fun m x h1 h2 h3 X nx ok Q R => q_hwrite h1 h2 h3) (fun hb D4 E2 hG => ?_)
  simp only [Bool.or_eq_false_iff] at hb
  obtain ⟨i', g1, g2, rfl⟩ := noB_1 (by omega) hb.1
  obtain ⟨k', g3, rfl⟩ := noB_f (by omega) hb.2
  exact B_write hG g1 (by omega) (by omega)
theorem O_trunc {i k : Int32} (hs : RS d1 d4 d6 e1 e2 e3) : OpR id 13 [.ref 0, .int i, .int k] 150 [.ref 13, .int i, .int k, pDum, pDum, pDum, pDum] d1 d4 d6 d9 e1 e2 e3 e4 := by
  refine F_op (hw0 := vT_n (by decide +kernel)) (bad := noB i (nI 1) (nI 15) || (noB k (nI 0) (nI 16))) (cpc := 15) (rpc := 36) hs (fun m n ff h1 h2 h3 X nx ok Q R => q_ktruncate h1 h2 h3) (fun m x h1 h2 h3 X nx ok Q R => q_htruncate h1 h2 h3) (fun hb D4 E2 hG => ?_)
  simp only [Bool.or_eq_false_iff] at hb
  obtain ⟨i', g1, g2, rfl⟩ := noB_1 (by omega) hb.1
  obtain ⟨k', g3, rfl⟩ := noB_f (by omega) hb.2
  exact B_trunc hG g1 (by omega) (by omega)
end RUN
