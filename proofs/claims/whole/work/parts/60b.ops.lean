theorem swE_gone {e : rS1} {k : rS3} (h : ¬ e.2.2.2.2.2.1 = nI 0) : swE e k = e ∧ (swJ e k).2.2.2.2.2.1 = k.2.2.2.2.2.1 ∧ (swJ e k).2.2.2.2.2.2.1 = k.2.2.2.2.2.2.1 := by
  have h1 : swD e k = e := by
    unfold swD
    rw [rputsF_gone 48 0 e h, rFl_gone h]
    split <;> rfl
  have h2 : swE e k = e := by
    unfold swE
    rw [h1, rPut_gone h, rFl_gone h]
  refine ⟨h2, ?_⟩
  unfold swJ
  rw [h2, if_neg h]
  exact ⟨rfl, rfl⟩
theorem thr_0 {e : rS1} {k : Nat} (h : e.2.2.2.2.2.1 = nI 0) : thr e k = nI 0 := congrArg nI (if_pos h)
theorem thr_k {e : rS1} {k : Nat} (h : ¬ e.2.2.2.2.2.1 = nI 0) : thr e k = nI k := congrArg nI (if_neg h)
theorem jnW_t {j : cS6} {k k' : rS3} (h : jnW j k) (h1 : k'.2.2.2.2.2.1 = k.2.2.2.2.2.1) (h2 : k'.2.2.2.2.2.2.1 = k.2.2.2.2.2.2.1) : jnW j k' := ⟨h.1.trans h1.symm, h.2.trans h2.symm⟩
section RUN
variable {d1 : cS1} {d4 : cS4} {d6 : cS6} {d9 : cS9} {e1 : rS1} {e2 : rS2} {e3 : rS3} {e4 : rS4}
theorem O_sync (hs : RS d1 d4 d6 e1 e2 e3) : OpR tS 6 [.ref 0] 121 [.ref 13] d1 d4 d6 d9 e1 e2 e3 e4 := by
  have hs0 := hs
  obtain ⟨hr, hw, ho, m, hm2, hm, hM⟩ := hs
  have hmd : d1.2.2.2.2.2.2.2 = nI m := hr.2.2.2.2.2.2.2.2.2.trans hm
  by_cases c : m = 1
  · subst c
    obtain ⟨⟨x, u, hj⟩, h1, hG, hn⟩ := hM rfl
    have hn9 : cntF (mb e2.2.1) 48 0 0 ≤ 9 := Nat.le_trans hn (by omega)
    have hc : ∀ (X : pScr) (nx : Nat) (ok : Bool) (Q : pRes → Prop) (R : pMem), _ := fun X nx ok Q R => q_csync (X := X) (nx := nx) (ok := ok) (Q := Q) (R := R) (d9 := d9) (n := nCh e2) (ff := x) hmd hm2 (fun _ => ⟨bcL_s hG.1.2.1, by omega, hj.1, hj.2.2.1⟩)
    have hq : ∀ (X : pScr) (nx : Nat) (ok : Bool) (Q : pRes → Prop) (R : pMem), _ := fun X nx ok Q R => q_rsync (X := X) (nx := nx) (ok := ok) (Q := Q) (R := R) (e4 := e4) (x := x) hm hm2 (fun _ => ⟨RDg_ok hr, hj.2.1, hj.2.2.1, hn9⟩)
    obtain ⟨r1, r2, r3⟩ := RS_commit hr hj h1 hG hn
    have hme2 : (rcommit (rLive e1) e2 e3 x).2.1.1 = e2.1 := rc_mem
    have hox : oEq (endM d4) (rcommit (rLive e1) e2 e3 x).2.1 := oEq_t (d4 := endM d4) (e2 := e2) ho hme2
    have hmb : mBit (rcommit (rLive e1) e2 e3 x).1 := mBit_commit ⟨1, by omega, hm⟩
    generalize commitF d4 (nCh e2) x d1 d6 = C at hc r1 r2 r3
    generalize rcommit (rLive e1) e2 e3 x = D at hq r1 r2 r3 hmb hme2 hox
    rcases RB_cases r1 with ⟨c, ⟨n0, hn0, hr0⟩, hg⟩ | ⟨c, hr0, hg, hm0⟩
    · have c' : C.1 = true := c
      have n00 : n0 = 0 := by omega
      subst n00
      obtain ⟨⟨g1, g2⟩, ⟨x', u', g3⟩, g4⟩ := r3 c'
      obtain ⟨m', b1, b2⟩ := hmb
      refine ⟨0, some (.int C.2.2.2.2.2.2.2.1), C.2.1, endM d4, C.2.2, d9, ⟨⟨by omega, by decide⟩, fun _ => vT_v (by decide +kernel)⟩, fun X nx ok Q R => ?_, fun X nx ok Q R => ⟨some (.int D.2.2.2.2.1), D.1, D.2.1, D.2.2, (e4.1, e4.2.1, thr D.1 2), ?_, thr_0 hg, ⟨fun z => by rw [g3.2.2.2.2.2.2.1], vT_v (by decide +kernel)⟩, hr0, r2, oEq_G g1, m', b1, b2, fun _ => ⟨⟨x', u', g3⟩, g4, g1, by omega⟩⟩⟩
      · rw [hc, if_pos rfl, if_pos c']
        exact Iff.rfl
      · rw [hq, if_pos rfl, if_pos hg]
    · have c' : ¬ C.1 = true := fun z => by
        have z2 : C.1 = false := c
        rw [z2] at z
        cases z
      have hme : D.1.2.2.2.2.1 = nI 0 := hr0.2.2.2.2.2.2.2.2.2.symm.trans hm0
      refine ⟨5, none, C.2.1, d4, C.2.2, d9, ⟨⟨by omega, by decide⟩, fun z => by omega⟩, fun X nx ok Q R => ?_, fun X nx ok Q R => ⟨some (.int (nI 0)), D.1, D.2.1, D.2.2, (e4.1, e4.2.1, thr D.1 2), ?_, thr_k hg, ⟨fun z => by omega, vT_v (by decide +kernel)⟩, hr0, r2, oEq_t ho hme2, 0, by omega, hme, fun z => by omega⟩⟩
      · rw [hc, if_pos rfl, if_neg c']
        exact Iff.rfl
      · rw [hq, if_pos rfl, if_neg hg]
  · have c0 : m = 0 := by omega
    refine ⟨2, none, d1, d4, d6, d9, ⟨⟨by omega, by decide⟩, fun z => by omega⟩, fun X nx ok Q R => ?_, fun X nx ok Q R => ⟨some (.int (nI 0)), rLive e1, e2, e3, (e4.1, e4.2.1, nI 1), ?_, rfl, ⟨fun z => by omega, vT_v (by decide +kernel)⟩, hs0⟩⟩
    · rw [q_csync (n := 0) (ff := 0) hmd hm2 (fun z => absurd z c), if_neg c]
      exact Iff.rfl
    · rw [q_rsync (x := 0) hm hm2 (fun z => absurd z c), if_neg c]
theorem O_ckpt (hs : RS d1 d4 d6 e1 e2 e3) : OpR tS 7 [.ref 0] 122 [.ref 13] d1 d4 d6 d9 e1 e2 e3 e4 := by
  have hs0 := hs
  obtain ⟨hr, hw, ho, m, hm2, hm, hM⟩ := hs
  have hmd : d1.2.2.2.2.2.2.2 = nI m := hr.2.2.2.2.2.2.2.2.2.trans hm
  by_cases c : m = 1
  · subst c
    obtain ⟨⟨x, u, hj⟩, h1, hG, hn⟩ := hM rfl
    have hn9 : cntF (mb e2.2.1) 48 0 0 ≤ 9 := Nat.le_trans hn (by omega)
    have hc : ∀ (X : pScr) (nx : Nat) (ok : Bool) (Q : pRes → Prop) (R : pMem), _ := fun X nx ok Q R => q_cckpt (X := X) (nx := nx) (ok := ok) (Q := Q) (R := R) (d9 := d9) (n := nCh e2) (ff := x) hmd hm2 (fun _ => ⟨bcL_s hG.1.2.1, by omega, hj.1, hj.2.2.1⟩)
    have hq : ∀ (X : pScr) (nx : Nat) (ok : Bool) (Q : pRes → Prop) (R : pMem), _ := fun X nx ok Q R => q_rckpt (X := X) (nx := nx) (ok := ok) (Q := Q) (R := R) (e4 := e4) (x := x) hm hm2 (fun _ => ⟨RDg_ok hr, hj.2.1, hj.2.2.1, hn9⟩)
    obtain ⟨r1, r2, r3⟩ := RS_commit hr hj h1 hG hn
    have hme2 : (rcommit (rLive e1) e2 e3 x).2.1.1 = e2.1 := rc_mem
    have hox : oEq (endM d4) (rcommit (rLive e1) e2 e3 x).2.1 := oEq_t (d4 := endM d4) (e2 := e2) ho hme2
    have hmb : mBit (rcommit (rLive e1) e2 e3 x).1 := mBit_commit ⟨1, by omega, hm⟩
    generalize commitF d4 (nCh e2) x d1 d6 = C at hc r1 r2 r3
    generalize rcommit (rLive e1) e2 e3 x = D at hq r1 r2 r3 hmb hme2 hox
    rcases RB_cases r1 with ⟨c, ⟨n0, hn0, hr0⟩, hg⟩ | ⟨c, hr0, hg, hm0⟩
    · have c' : C.1 = true := c
      have n00 : n0 = 0 := by omega
      subst n00
      obtain ⟨⟨g1, g2⟩, ⟨x', u', g3⟩, g4⟩ := r3 c'
      obtain ⟨k1, k2, k3⟩ := R_ckpt hr0 hg (by omega) g3 g4
      obtain ⟨m', b1, b2⟩ := mBit_swE (j := D.2.2) hmb
      have k1' : RB ((ckptF C.2.1 C.2.2).1, (ckptF C.2.1 C.2.2).2.1) (swE D.1 D.2.2) 0 := k1
      have k2' : jnW (ckptF C.2.1 C.2.2).2.2 (swJ D.1 D.2.2) := k2
      have k3' : (ckptF C.2.1 C.2.2).1 = true → jnR (ckptF C.2.1 C.2.2).2.2 (swJ D.1 D.2.2) x' 0 ∧ (swE D.1 D.2.2).1 1 = nI 2 := k3
      clear k1 k2 k3
      generalize ckptF C.2.1 C.2.2 = K at hc k1' k2' k3'
      rcases RB_cases k1' with ⟨c2, ⟨n1, hn1, hr1⟩, hg1⟩ | ⟨c2, hr1, hg1, hm1⟩
      · have c2' : K.1 = true := c2
        have n10 : n1 = 0 := by omega
        subst n10
        obtain ⟨q1, q2⟩ := k3' c2'
        refine ⟨0, none, K.2.1, endM d4, K.2.2, d9, ⟨⟨by omega, by decide⟩, fun _ => vT_n (by decide +kernel)⟩, fun X nx ok Q R => ?_, fun X nx ok Q R => ⟨none, swE D.1 D.2.2, D.2.1, swJ D.1 D.2.2, (e4.1, e4.2.1, thr (swE D.1 D.2.2) 2), ?_, thr_0 hg1, ⟨fun z => rfl, vT_n (by decide +kernel)⟩, hr1, k2', oEq_G g1, m', b1, b2, fun _ => ⟨⟨x', 0, q1⟩, q2, g1, by omega⟩⟩⟩
        · rw [hc, if_pos rfl, if_pos c', if_pos c2']
          exact Iff.rfl
        · rw [hq, if_pos rfl]
      · have c2' : ¬ K.1 = true := fun z => by
          have z2 : K.1 = false := c2
          rw [z2] at z
          cases z
        have hme : (swE D.1 D.2.2).2.2.2.2.1 = nI 0 := hr1.2.2.2.2.2.2.2.2.2.symm.trans hm1
        refine ⟨5, none, K.2.1, endM d4, K.2.2, d9, ⟨⟨by omega, by decide⟩, fun z => by omega⟩, fun X nx ok Q R => ?_, fun X nx ok Q R => ⟨none, swE D.1 D.2.2, D.2.1, swJ D.1 D.2.2, (e4.1, e4.2.1, thr (swE D.1 D.2.2) 2), ?_, thr_k hg1, ⟨fun z => by omega, vT_n (by decide +kernel)⟩, hr1, k2', hox, 0, by omega, hme, fun z => by omega⟩⟩
        · rw [hc, if_pos rfl, if_pos c', if_neg c2']
          exact Iff.rfl
        · rw [hq, if_pos rfl]
    · have c' : ¬ C.1 = true := fun z => by
        have z2 : C.1 = false := c
        rw [z2] at z
        cases z
      have hme : D.1.2.2.2.2.1 = nI 0 := hr0.2.2.2.2.2.2.2.2.2.symm.trans hm0
      obtain ⟨w1, w2, w3⟩ := swE_gone (k := D.2.2) hg
      refine ⟨5, none, C.2.1, d4, C.2.2, d9, ⟨⟨by omega, by decide⟩, fun z => by omega⟩, fun X nx ok Q R => ?_, fun X nx ok Q R => ⟨none, D.1, D.2.1, swJ D.1 D.2.2, (e4.1, e4.2.1, thr D.1 2), ?_, thr_k hg, ⟨fun z => by omega, vT_n (by decide +kernel)⟩, hr0, jnW_t r2 w2 w3, oEq_t ho hme2, 0, by omega, hme, fun z => by omega⟩⟩
      · rw [hc, if_pos rfl, if_neg c']
        exact Iff.rfl
      · rw [hq, if_pos rfl, w1]
  · have c0 : m = 0 := by omega
    refine ⟨2, none, d1, d4, d6, d9, ⟨⟨by omega, by decide⟩, fun z => by omega⟩, fun X nx ok Q R => ?_, fun X nx ok Q R => ⟨none, rLive e1, e2, e3, (e4.1, e4.2.1, nI 1), ?_, rfl, ⟨fun z => by omega, vT_n (by decide +kernel)⟩, hs0⟩⟩
    · rw [q_cckpt (n := 0) (ff := 0) hmd hm2 (fun z => absurd z c), if_neg c]
      exact Iff.rfl
    · rw [q_rckpt (x := 0) hm hm2 (fun z => absurd z c), if_neg c]
theorem RDg_um {d : cS1} {e : rS1} (h : RDg d e 0) : RDg (cUnm d) (rUnm e) 0 := by
  obtain ⟨h1, h2, h3, h4, h5, h6, h7, h8, h9, h10⟩ := h
  exact ⟨h1, h2, h3, h4, h5, h6, h7, h8, h9, rfl⟩
theorem RDg_um0 {d : cS1} {e : rS1} (h : RDg d e 0) (hm : d.2.2.2.2.2.2.2 = nI 0) : RDg d (rUnm e) 0 := by
  obtain ⟨h1, h2, h3, h4, h5, h6, h7, h8, h9, h10⟩ := h
  exact ⟨h1, h2, h3, h4, h5, h6, h7, h8, h9, hm⟩
theorem umF_t {K : DJ} (h : K.1 = true) : umF K = ((firstF K.2.2 1 K.2.1).1, (firstF K.2.2 1 K.2.1).2, ((K.2.2).1, jFb K.2.2 1, (K.2.2).2.2)) := if_pos h
theorem umF_f {K : DJ} (h : ¬ K.1 = true) : umF K = K := if_neg h
theorem O_umt (hs : RS d1 d4 d6 e1 e2 e3) : OpR tS 3 [.ref 0] 120 [.ref 13] d1 d4 d6 d9 e1 e2 e3 e4 := by
  have hs0 := hs
  obtain ⟨hr, hw, ho, m, hm2, hm, hM⟩ := hs
  have hmd : d1.2.2.2.2.2.2.2 = nI m := hr.2.2.2.2.2.2.2.2.2.trans hm
  by_cases c : m = 1
  · subst c
    obtain ⟨⟨x, u, hj⟩, h1, hG, hn⟩ := hM rfl
    have hn9 : cntF (mb e2.2.1) 48 0 0 ≤ 9 := Nat.le_trans hn (by omega)
    have hc : ∀ (X : pScr) (nx : Nat) (ok : Bool) (Q : pRes → Prop) (R : pMem), _ := fun X nx ok Q R => q_cumt (X := X) (nx := nx) (ok := ok) (Q := Q) (R := R) (d9 := d9) (n := nCh e2) (ff := x) hmd hm2 (fun _ => ⟨bcL_s hG.1.2.1, by omega, hj.1, hj.2.2.1⟩)
    have hq : ∀ (X : pScr) (nx : Nat) (ok : Bool) (Q : pRes → Prop) (R : pMem), _ := fun X nx ok Q R => q_rumt (X := X) (nx := nx) (ok := ok) (Q := Q) (R := R) (e4 := e4) (x := x) hm hm2 (fun _ => ⟨RDg_ok hr, hj.2.1, hj.2.2.1, hn9⟩)
    obtain ⟨r1, r2, r3⟩ := RS_commit hr hj h1 hG hn
    have hme2 : (rcommit (rLive e1) e2 e3 x).2.1.1 = e2.1 := rc_mem
    have hox : oEq (endM d4) (rcommit (rLive e1) e2 e3 x).2.1 := oEq_t (d4 := endM d4) (e2 := e2) ho hme2
    generalize commitF d4 (nCh e2) x d1 d6 = C at hc r1 r2 r3
    generalize rcommit (rLive e1) e2 e3 x = D at hq r1 r2 r3 hme2 hox
    rcases RB_cases r1 with ⟨c, ⟨n0, hn0, hr0⟩, hg⟩ | ⟨c, hr0, hg, hm0⟩
    · have c' : C.1 = true := c
      have n00 : n0 = 0 := by omega
      subst n00
      obtain ⟨⟨g1, g2⟩, ⟨x', u', g3⟩, g4⟩ := r3 c'
      obtain ⟨k1, k2, k3⟩ := R_ckpt hr0 hg (by omega) g3 g4
      have k1' : RB ((ckptF C.2.1 C.2.2).1, (ckptF C.2.1 C.2.2).2.1) (swE D.1 D.2.2) 0 := k1
      have k2' : jnW (ckptF C.2.1 C.2.2).2.2 (swJ D.1 D.2.2) := k2
      have k3' : (ckptF C.2.1 C.2.2).1 = true → jnR (ckptF C.2.1 C.2.2).2.2 (swJ D.1 D.2.2) x' 0 ∧ (swE D.1 D.2.2).1 1 = nI 2 := k3
      clear k1 k2 k3
      have eru : rum D.1 D.2.2 = rFl (rPut 0 0 (rHb (swJ D.1 D.2.2) (nI 1)) (swE D.1 D.2.2)) := rfl
      rw [eru] at hq
      generalize ckptF C.2.1 C.2.2 = K at hc k1' k2' k3'
      generalize swE D.1 D.2.2 = E at hq k1' k3'
      generalize swJ D.1 D.2.2 = J at hq k2' k3'
      rcases RB_cases k1' with ⟨c2, ⟨n1, hn1, hr1⟩, hg1⟩ | ⟨c2, hr1, hg1, hm1⟩
      · have c2' : K.1 = true := c2
        have n10 : n1 = 0 := by omega
        subst n10
        obtain ⟨q1, q2⟩ := k3' c2'
        rw [umF_t c2'] at hc
        have hF : RB (firstF K.2.2 1 K.2.1) (rFl (rPut 0 0 (rHb J (nI 1)) E)) 0 := by
          unfold firstF
          exact RB_then (h := rFl) (RB_put hr1 hg1 (by omega) (by omega) (hb_agree q1)) (fun d'' n'' q1 q2 q3 => RB_fl q2 q3 (by omega)) rFl_gone
        generalize firstF K.2.2 1 K.2.1 = G at hc hF
        generalize rFl (rPut 0 0 (rHb J (nI 1)) E) = H at hq hF
        rcases RB_cases hF with ⟨c3, ⟨n2, hn2, hr2⟩, hg2⟩ | ⟨c3, hr2, hg2, hm2'⟩
        · have n20 : n2 = 0 := by omega
          subst n20
          refine ⟨0, none, cUnm G.2, endM d4, ((K.2.2).1, jFb K.2.2 1, (K.2.2).2.2), d9, ⟨⟨by omega, by decide⟩, fun _ => vT_n (by decide +kernel)⟩, fun X nx ok Q R => ?_, fun X nx ok Q R => ⟨none, rUnm H, D.2.1, jSc J (rHb J (nI 1)), (e4.1, e4.2.1, thr H 2), ?_, thr_0 hg2, ⟨fun z => rfl, vT_n (by decide +kernel)⟩, RDg_um hr2, k2', hox, 0, by omega, rfl, fun z => by omega⟩⟩
          · rw [hc, if_pos rfl, if_pos c', if_pos c3]
            exact Iff.rfl
          · rw [hq, if_pos rfl]
        · have c3' : ¬ G.1 = true := fun z => by
            rw [c3] at z
            cases z
          refine ⟨5, none, G.2, endM d4, ((K.2.2).1, jFb K.2.2 1, (K.2.2).2.2), d9, ⟨⟨by omega, by decide⟩, fun z => by omega⟩, fun X nx ok Q R => ?_, fun X nx ok Q R => ⟨none, rUnm H, D.2.1, jSc J (rHb J (nI 1)), (e4.1, e4.2.1, thr H 2), ?_, thr_k hg2, ⟨fun z => by omega, vT_n (by decide +kernel)⟩, RDg_um0 hr2 hm2', k2', hox, 0, by omega, rfl, fun z => by omega⟩⟩
          · rw [hc, if_pos rfl, if_pos c', if_neg c3']
            exact Iff.rfl
          · rw [hq, if_pos rfl]
      · have c2' : ¬ K.1 = true := fun z => by
          have z2 : K.1 = false := c2
          rw [z2] at z
          cases z
        rw [umF_f c2'] at hc
        rw [rPut_gone hg1, rFl_gone hg1] at hq
        refine ⟨5, none, K.2.1, endM d4, K.2.2, d9, ⟨⟨by omega, by decide⟩, fun z => by omega⟩, fun X nx ok Q R => ?_, fun X nx ok Q R => ⟨none, rUnm E, D.2.1, jSc J (rHb J (nI 1)), (e4.1, e4.2.1, thr E 2), ?_, thr_k hg1, ⟨fun z => by omega, vT_n (by decide +kernel)⟩, RDg_um0 hr1 hm1, k2', hox, 0, by omega, rfl, fun z => by omega⟩⟩
        · rw [hc, if_pos rfl, if_pos c', if_neg c2']
          exact Iff.rfl
        · rw [hq, if_pos rfl]
    · have c' : ¬ C.1 = true := fun z => by
        have z2 : C.1 = false := c
        rw [z2] at z
        cases z
      obtain ⟨w1, w2, w3⟩ := swE_gone (k := D.2.2) hg
      have eru : rum D.1 D.2.2 = D.1 := by
        unfold rum
        rw [w1, rPut_gone hg, rFl_gone hg]
      rw [eru] at hq
      generalize swJ D.1 D.2.2 = J at hq w2 w3
      have hjw : jnW C.2.2 J := jnW_t r2 w2 w3
      refine ⟨5, none, C.2.1, d4, C.2.2, d9, ⟨⟨by omega, by decide⟩, fun z => by omega⟩, fun X nx ok Q R => ?_, fun X nx ok Q R => ⟨none, rUnm D.1, D.2.1, jSc J (rHb J (nI 1)), (e4.1, e4.2.1, thr D.1 2), ?_, thr_k hg, ⟨fun z => by omega, vT_n (by decide +kernel)⟩, RDg_um0 hr0 hm0, hjw, oEq_t ho hme2, 0, by omega, rfl, fun z => by omega⟩⟩
      · rw [hc, if_pos rfl, if_neg c']
        exact Iff.rfl
      · rw [hq, if_pos rfl]
  · have c0 : m = 0 := by omega
    refine ⟨2, none, d1, d4, d6, d9, ⟨⟨by omega, by decide⟩, fun z => by omega⟩, fun X nx ok Q R => ?_, fun X nx ok Q R => ⟨none, rLive e1, e2, e3, (e4.1, e4.2.1, nI 1), ?_, rfl, ⟨fun z => by omega, vT_n (by decide +kernel)⟩, hs0⟩⟩
    · rw [q_cumt (n := 0) (ff := 0) hmd hm2 (fun z => absurd z c), if_neg c]
      exact Iff.rfl
    · rw [q_rumt (x := 0) hm hm2 (fun z => absurd z c), if_neg c]
theorem fr_0 {g : Nat → Int32} {q : Nat} (h : q < 384) (n0 : q ≠ 0) (n1 : q ≠ 1) (n2 : q ≠ 2) (n3 : q ≠ 8) (n4 : q ≠ 10) (n5 : q ≠ 20) (n6 : q ≠ 21) (n7 : q ≠ 22) : freshI g q = nI 0 := by
  unfold freshI
  rw [pk_un n7, pk_un n6, pk_un n5, pk_un n4, pk_un n3, pk_un n2, pk_un n1, pk_un n0]
  exact fill_i h
theorem fr_agree {g s : Nat → Int32} {b : Nat} (hb : b < 48) : ∀ i, i < 8 → freshI g (8 * b + i) = fmS s b (0 + i) := by
  intro i hi
  rw [Nat.zero_add]
  have hz : fillF 8 (nI 0) s i = nI 0 := fill_i hi
  have hc : i = 0 ∨ i = 1 ∨ i = 2 ∨ i = 3 ∨ i = 4 ∨ i = 5 ∨ i = 6 ∨ i = 7 := by omega
  have h0 : b = 0 ∨ b = 1 ∨ b = 2 ∨ 2 < b := by omega
  rcases h0 with rfl | rfl | rfl | h0
  · rcases hc with rfl | rfl | rfl | rfl | rfl | rfl | rfl | rfl <;> rfl
  · rcases hc with rfl | rfl | rfl | rfl | rfl | rfl | rfl | rfl <;> rfl
  · rcases hc with rfl | rfl | rfl | rfl | rfl | rfl | rfl | rfl <;> rfl
  · rw [fr_0 (by omega) (by omega) (by omega) (by omega) (by omega) (by omega) (by omega) (by omega) (by omega)]
    unfold fmS
    rw [if_neg (show ¬ b = 0 by omega), if_neg (show ¬ b = 1 by omega), if_neg (show ¬ b = 2 by omega), hz]
theorem fmF_gone : ∀ m b (e : rS1) s, ¬ e.2.2.2.2.2.1 = nI 0 → (fmF m b e s).1 = e := by
  intro m
  induction m with
  | zero => intro b e s _; rfl
  | succ m ih =>
    intro b e s h
    show (fmF m (b + 1) (rPut b 0 (fmS s b) e) (fmS s b)).1 = e
    rw [rPut_gone h]
    exact ih (b + 1) e _ h
theorem RB_fm {g : Nat → Int32} : ∀ m b d e s n, b + m = 48 → RDg d e n → e.2.2.2.2.2.1 = nI 0 → n + m < 100 → RB (putA (freshI g) m b d) (fmF m b e s).1 (n + m) := by
  intro m
  induction m with
  | zero => intro b d e s n _ h hg _; exact RB_alive h hg
  | succ m ih =>
    intro b d e s n hb h hg hn
    have hp := RB_put (b := b) (a := 8 * b) (a' := 0) (f := freshI g) (g := fmS s b) h hg (by omega) (by omega) (fr_agree (by omega))
    have e1 : putA (freshI g) (m + 1) b d = thenF (putF b (8 * b) (freshI g) d) (putA (freshI g) m (b + 1)) := putA_s
    rw [e1]
    show RB _ (fmF m (b + 1) (rPut b 0 (fmS s b) e) (fmS s b)).1 _
    refine RB_then (h := fun e' => (fmF m (b + 1) e' (fmS s b)).1) hp (fun d' n' h1 h2 h3 => ?_) (fun z => fmF_gone m (b + 1) _ _ z)
    exact RB_le (ih (b + 1) d' _ _ n' (by omega) h2 h3 (by omega)) (by omega)
theorem O_fmt (hs : RS d1 d4 d6 e1 e2 e3) : OpR tS 1 [.ref 0, pDum] 110 [.ref 13, pDum] d1 d4 d6 d9 e1 e2 e3 e4 := by
  have hs0 := hs
  obtain ⟨hr, hw, ho, m, hm2, hm, hM⟩ := hs
  have hmd : d1.2.2.2.2.2.2.2 = nI m := hr.2.2.2.2.2.2.2.2.2.trans hm
  by_cases c : m = 0
  · have hR : RB (fmtF (freshI d4.1) d1) (rFl (fmF 48 0 (rLive e1) e3.2.2.2.2.2.2.2).1) 0 := by
      unfold fmtF
      exact RB_then (h := rFl) (RB_fm (g := d4.1) 48 0 d1 (rLive e1) e3.2.2.2.2.2.2.2 0 (by omega) (RDg_live hr) rfl (by omega)) (fun d' n' h1 h2 h3 => RB_fl h2 h3 (by omega)) rFl_gone
    have hc : ∀ (X : pScr) (nx : Nat) (ok : Bool) (Q : pRes → Prop) (R : pMem), _ := fun X nx ok Q R => q_cfmt (X := X) (nx := nx) (ok := ok) (Q := Q) (R := R) (d4 := d4) (d6 := d6) (d9 := d9) hmd hm2
    have hq : ∀ (X : pScr) (nx : Nat) (ok : Bool) (Q : pRes → Prop) (R : pMem), _ := fun X nx ok Q R => q_rformat (X := X) (nx := nx) (ok := ok) (Q := Q) (R := R) (e2 := e2) (e3 := e3) (e4 := e4) hm hm2 (RDg_ok hr)
    generalize fmtF (freshI d4.1) d1 = G at hc hR
    generalize (fmF 48 0 (rLive e1) e3.2.2.2.2.2.2.2).2 = s' at hq
    have hz : (rFl (fmF 48 0 (rLive e1) e3.2.2.2.2.2.2.2).1).2.2.2.2.1 = nI 0 := by
      have : ∀ m b (e : rS1) s, e.2.2.2.2.1 = nI 0 → (fmF m b e s).1.2.2.2.2.1 = nI 0 := by
        intro m
        induction m with
        | zero => intro b e s h; exact h
        | succ m ih => intro b e s h; exact ih _ _ _ (mZ_put h)
      exact mZ_fl (this 48 0 (rLive e1) _ (by subst c; exact hm))
    have hfr : oEq (frsh d4) e2 := fun q hq => by
      rw [← ho q hq]
      show freshI d4.1 q = _
      unfold freshI
      rw [pk_un (by omega), pk_un (by omega), pk_un (by omega), pk_un (by omega), pk_un (by omega), pk_un (by omega), pk_un (by omega), pk_un (by omega)]
      exact if_neg (by omega)
    generalize rFl (fmF 48 0 (rLive e1) e3.2.2.2.2.2.2.2).1 = H at hq hR hz
    rcases RB_cases hR with ⟨c3, ⟨n2, hn2, hr2⟩, hg2⟩ | ⟨c3, hr2, hg2, hm2'⟩
    · have n20 : n2 = 0 := by omega
      subst n20
      refine ⟨0, none, G.2, frsh d4, d6, d9, ⟨⟨by omega, by decide⟩, fun _ => vT_n (by decide +kernel)⟩, fun X nx ok Q R => ?_, fun X nx ok Q R => ⟨none, H, e2, (e3.1, e3.2.1, e3.2.2.1, e3.2.2.2.1, e3.2.2.2.2.1, e3.2.2.2.2.2.1, e3.2.2.2.2.2.2.1, s'), (e4.1, e4.2.1, thr H 2), ?_, thr_0 hg2, ⟨fun z => rfl, vT_n (by decide +kernel)⟩, hr2, hw, hfr, 0, by omega, hz, fun z => by omega⟩⟩
      · rw [hc, if_pos c, if_pos c3]
        exact Iff.rfl
      · rw [hq, if_pos c]
    · have c3' : ¬ G.1 = true := fun z => by
        rw [c3] at z
        cases z
      refine ⟨5, none, G.2, frsh d4, d6, d9, ⟨⟨by omega, by decide⟩, fun z => by omega⟩, fun X nx ok Q R => ?_, fun X nx ok Q R => ⟨none, H, e2, (e3.1, e3.2.1, e3.2.2.1, e3.2.2.2.1, e3.2.2.2.2.1, e3.2.2.2.2.2.1, e3.2.2.2.2.2.2.1, s'), (e4.1, e4.2.1, thr H 2), ?_, thr_k hg2, ⟨fun z => by omega, vT_n (by decide +kernel)⟩, hr2, hw, hfr, 0, by omega, hz, fun z => by omega⟩⟩
      · rw [hc, if_pos c, if_neg c3']
        exact Iff.rfl
      · rw [hq, if_pos c]
  · refine ⟨2, none, d1, d4, d6, d9, ⟨⟨by omega, by decide⟩, fun z => by omega⟩, fun X nx ok Q R => ?_, fun X nx ok Q R => ⟨none, rLive e1, e2, e3, (e4.1, e4.2.1, nI 1), ?_, rfl, ⟨fun z => by omega, vT_n (by decide +kernel)⟩, hs0⟩⟩
    · rw [q_cfmt hmd hm2, if_neg c]
      exact Iff.rfl
    · rw [q_rformat hm hm2 (RDg_ok hr), if_neg c]
end RUN
