/-- a commit -/
theorem R_commit {d : cS1} {e : rS1} {d4 : cS4} {e2 : rS2} {j : cS6} {k : rS3} {x u n s : Nat} (hr : RDg d e 0) (hg : e.2.2.2.2.2.1 = nI 0) (hj : jnR j k x u) (h1 : e.1 1 = nI 2) (hT : setR d4.2.1 e2.2.1) (hT1 : ∀ b, b < 48 → mb e2.2.1 b = true → 1 ≤ b) (hL : setR d4.2.2.1 e2.2.2.1) (hL18 : ∀ b, b < 48 → mb e2.2.2.1 b = true → 18 ≤ b) (hI : d4.1 = e2.1) (hn : cntF (mb e2.2.1) 48 0 0 = n) (hn6 : n ≤ 6) (hs : d4.2.2.2.2 = nI s) (hs2 : e2.2.2.2.2 = nI s) (hss : s < 2) :
    RBJ (commitF d4 n x d j) (rcommit e e2 k x).1 0 ∧ jnW (commitF d4 n x d j).2.2 (rcommit e e2 k x).2.2 ∧ ((commitF d4 n x d j).1 = true → emptied e2 (rcommit e e2 k x).2.1 n ∧ ∃ x' u', jnR (commitF d4 n x d j).2.2 (rcommit e e2 k x).2.2 x' u' ∧ (rcommit e e2 k x).1.1 1 = nI 2) := by
  have hcf : commitF d4 n x d j = bindF (looseJ d4 d j) (fun d j => if d4.2.1 = 0 then (true, d, j) else bindF (if 8 - j.2.2.2.2.1 < nI n + 2 then ckptF d j else (true, d, j)) (logAll d4 n x)) := rfl
  have hA : RB (looseF d4 d) (cmA e e2) 0 ∧ k1 e (cmA e e2) := by
    have hz := set_0 hL
    have hlow : ∀ i, 0 ≤ i → i < 0 + 18 → mb e2.2.2.1 i = false := by
      intro i _ hi
      by_cases q : mb e2.2.2.1 i = true
      · have := hL18 i (by omega) q
        omega
      · simpa using q
    have hsplit : rputsF (mb e2.2.2.1) e2.1 48 0 e = rputsF (mb e2.2.2.1) e2.1 30 18 e := by
      have q := rputsF_add (P := mb e2.2.2.1) (f := e2.1) 18 30 0 e
      rw [rputsF_none 18 0 e hlow] at q
      exact q
    have hp := RB_puts (u := d4.2.2.1) (f := d4.1) (g := e2.1) (P := mb e2.2.2.1) hL.1 (fun b hb hm i hi => by rw [hI]) 30 18 d e 0 (by omega) hr hg (by omega)
    unfold looseF cmA
    by_cases c : d4.2.2.1 = 0
    · have hc0 := hz.mp c
      rw [if_pos c, if_neg (by omega)]
      exact ⟨RB_alive hr hg, k1_rf e⟩
    · have hc0 : 0 < cntF (mb e2.2.2.1) 48 0 0 := by
        have : ¬ cntF (mb e2.2.2.1) 48 0 0 = 0 := fun q => c (hz.mpr q)
        omega
      rw [if_neg c, if_pos hc0, hsplit]
      exact ⟨RB_then (h := rFl) hp (fun d' n' h1 h2 h3 => RB_fl h2 h3 (by omega)) rFl_gone, k1_tr (k1_puts (hlow 0 (by omega) (by omega)) 30 18 e) k1_fl⟩
  obtain ⟨hA1, hA2⟩ := hA
  have htz : (d4.2.1 = 0) ↔ n = 0 := by rw [← hn]; exact set_0 hT
  have hrc : rcommit e e2 k x = (if n = 0 then (cmA e e2, cm0 e2, k) else if (cmA e e2).2.2.2.2.2.1 = nI 0 then (if nI 8 - k.2.2.2.2.1 < nI (n + 2) then cmL (swE (cmA e e2) k) (cm0 e2) (swJ (cmA e e2) k) x n else cmL (cmA e e2) (cm0 e2) k x n) else (cmA e e2, cm0 e2, k)) := by
    rw [← hn]
    rfl
  have hlj : looseJ d4 d j = ((looseF d4 d).1, (looseF d4 d).2, j) := rfl
  rw [hlj] at hcf
  generalize commitF d4 n x d j = r at hcf ⊢
  generalize rcommit e e2 k x = r' at hrc ⊢
  generalize looseF d4 d = LF at hA1 hcf
  generalize cmA e e2 = A at hA1 hA2 hrc
  have hcl0 : ∀ b, b < 48 → mb (fillF 48 (nI 0) e2.2.2.1) b = false := fun b hb => fillF_mb hb
  rcases RB_cases hA1 with ⟨c1, ⟨n1, hn1, hr1⟩, hg1⟩ | ⟨c1, hr1, hg1, hm1⟩
  · have hn0 : n1 = 0 := by omega
    subst hn0
    have hs1 : A.1 1 = nI 2 := (hA2 hg1).2.trans h1
    rw [bind_t c1] at hcf
    by_cases z : n = 0
    · have er : r = (true, LF.2, j) := by rw [hcf]; exact if_pos (htz.mpr z)
      have er' : r' = (A, cm0 e2, k) := by rw [hrc]; exact if_pos z
      subst er er'
      refine ⟨RB_alive hr1 hg1, jnR_W hj, fun _ => ⟨⟨rfl, ?_, hcl0, fun q => absurd z q, fun _ => ⟨rfl, rfl⟩⟩, x, u, hj, hs1⟩⟩
      intro b hb
      rw [z] at hn
      exact (cnt_0 48 0 0 hn).2 b (Nat.zero_le b) (by omega)
    · have hj' := hj
      obtain ⟨j1, j2, j3, j4, j5, j6, j7, j8, j9, j10, j11⟩ := hj'
      have econd : (8 - j.2.2.2.2.1 < nI n + 2) ↔ 8 - u < n + 2 := by
        rw [j4, show (8 : Int32) = nI 8 from rfl, show (2 : Int32) = nI 2 from rfl, pk_sub j6, nI_add]
        exact nI_ltI (by omega) (by omega)
      have econd2 : (nI 8 - k.2.2.2.2.1 < nI (n + 2)) ↔ 8 - u < n + 2 := by
        rw [j5, pk_sub j6]
        exact nI_ltI (by omega) (by omega)
      have hem : ∀ e2', e2' = cm5 (cm0 e2) → emptied e2 e2' n := by
        intro e2' he
        subst he
        exact ⟨rfl, fun b hb => fillF_mb hb, hcl0, fun _ => ⟨fun b hb => fillF_mb hb, rfl⟩, fun q => absurd q z⟩
      have hcf2 : r = bindF (if 8 - j.2.2.2.2.1 < nI n + 2 then ckptF LF.2 j else (true, LF.2, j)) (logAll d4 n x) := by rw [hcf]; exact if_neg (fun q => z (htz.mp q))
      have hrc2 : r' = (if nI 8 - k.2.2.2.2.1 < nI (n + 2) then cmL (swE A k) (cm0 e2) (swJ A k) x n else cmL A (cm0 e2) k x n) := by rw [hrc, if_neg z, if_pos hg1]
      clear hcf hrc
      by_cases w : 8 - u < n + 2
      · rw [if_pos (econd.mpr w)] at hcf2
        rw [if_pos (econd2.mpr w)] at hrc2
        obtain ⟨k1', k2', k3'⟩ := R_ckpt hr1 hg1 (by omega) hj hs1
        generalize ckptF LF.2 j = CK at hcf2 k1' k2' k3'
        generalize swE A k = SE at hrc2 k1' k3'
        generalize swJ A k = SJ at hrc2 k2' k3'
        rcases RB_cases k1' with ⟨c2, ⟨n2, hn2, hr2⟩, hg2⟩ | ⟨c2, hr2, hg2, hm2⟩
        · have c2' : CK.1 = true := c2
          obtain ⟨hj2, hs2'⟩ := k3' c2'
          have hn0' : n2 = 0 := by omega
          subst hn0'
          rw [bind_t c2'] at hcf2
          obtain ⟨p1, p2, p3⟩ := R_logAll (e2 := cm0 e2) (d4 := d4) hr2 hg2 hj2 hs2' hT hT1 hI hn hn6 (by omega) hs hs2 hss
          generalize logAll d4 n x CK.2.1 CK.2.2 = LA at hcf2 p1 p2 p3
          generalize cmL SE (cm0 e2) SJ x n = CL at hrc2 p1 p2 p3
          subst hcf2 hrc2
          exact ⟨p1, p2, fun q => ⟨hem _ (p3 q).1, (p3 q).2⟩⟩
        · have c2' : ¬ CK.1 = true := fun q => by
            have c3 : CK.1 = false := c2
            rw [c3] at q
            cases q
          rw [bind_f c2'] at hcf2
          have hcm : cmE SE (cm0 e2) SJ x n = SE := by
            unfold cmE cmT
            rw [rPut_gone hg2, rtrF_gone 48 0 x (nI 0) _ _ hg2, rFl_gone hg2, rPut_gone hg2, rFl_gone hg2]
          have hcl : cmL SE (cm0 e2) SJ x n = (SE, cm2 (cm0 e2), cm3 SE (cm0 e2) SJ x n) := by
            unfold cmL
            rw [hcm, if_neg hg2]
          have h3 : (cm3 SE (cm0 e2) SJ x n).2.2.2.2.2.1 = SJ.2.2.2.2.2.1 ∧ (cm3 SE (cm0 e2) SJ x n).2.2.2.2.2.2.1 = SJ.2.2.2.2.2.2.1 := ⟨rfl, rfl⟩
          rw [hcl] at hrc2
          generalize cm3 SE (cm0 e2) SJ x n = K3 at h3 hrc2
          subst hcf2 hrc2
          exact ⟨k1', ⟨k2'.1.trans h3.1.symm, k2'.2.trans h3.2.symm⟩, fun q => absurd q c2'⟩
      · rw [if_neg (fun q => w (econd.mp q))] at hcf2
        rw [if_neg (fun q => w (econd2.mp q))] at hrc2
        have hcf3 : r = logAll d4 n x LF.2 j := hcf2
        obtain ⟨p1, p2, p3⟩ := R_logAll (e2 := cm0 e2) (d4 := d4) hr1 hg1 hj hs1 hT hT1 hI hn hn6 (by omega) hs hs2 hss
        clear hcf2
        generalize logAll d4 n x LF.2 j = LA at hcf3 p1 p2 p3
        generalize cmL A (cm0 e2) k x n = CL at hrc2 p1 p2 p3
        subst hcf3 hrc2
        exact ⟨p1, p2, fun q => ⟨hem _ (p3 q).1, (p3 q).2⟩⟩
  · have c1' : ¬ LF.1 = true := fun q => by rw [c1] at q; cases q
    rw [bind_f c1'] at hcf
    have ecr : r' = (A, cm0 e2, k) := by
      rw [hrc]
      by_cases z : n = 0
      · rw [if_pos z]
      · rw [if_neg z, if_neg hg1]
    subst hcf ecr
    exact ⟨hA1, jnR_W hj, fun q => absurd q c1'⟩
