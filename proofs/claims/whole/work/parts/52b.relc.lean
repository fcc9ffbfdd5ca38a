theorem RB_cases {p : Bool × cS1} {e : rS1} {k : Nat} (h : RB p e k) : (p.1 = true ∧ (∃ n, n ≤ k ∧ RDg p.2 e n) ∧ e.2.2.2.2.2.1 = nI 0) ∨ (p.1 = false ∧ RDg p.2 e 0 ∧ ¬ e.2.2.2.2.2.1 = nI 0 ∧ p.2.2.2.2.2.2.2.2 = nI 0) := by
  unfold RB at h
  by_cases c : p.1 = true
  · rw [if_pos c] at h
    exact Or.inl ⟨c, h⟩
  · rw [if_neg c] at h
    exact Or.inr ⟨by simpa using c, h⟩
theorem RB_dead {d : cS1} {e : rS1} {k : Nat} (h : RDg d e 0) (hg : ¬ e.2.2.2.2.2.1 = nI 0) (hm : d.2.2.2.2.2.2.2 = nI 0) : RB (false, d) e k := by
  unfold RB
  rw [if_neg (fun q => Bool.false_ne_true q)]
  exact ⟨h, hg, hm⟩
theorem seal_agree {j j' : cS6} {k : rS3} {e2 : rS2} {n : Nat} {s s' : Int32} (hj : j.2.2.2.2.2.1 = k.2.2.1) (hs : s = s') : ∀ i, i < 8 → jSeal j s (0 + i) = cmS e2 k n s' (0 + i) := by
  intro i hi
  subst hs
  unfold jSeal cmS
  rw [hj]
  have hc : i = 0 ∨ i = 1 ∨ i = 2 ∨ i = 3 ∨ i = 4 ∨ i = 5 ∨ i = 6 ∨ i = 7 := by omega
  rcases hc with rfl | rfl | rfl | rfl | rfl | rfl | rfl | rfl <;> rfl
theorem head_agree {j : cS6} {k : rS3} {e2 : rS2} {u : Int64} {n : Nat} (hj : j.2.2.2.2.2.1 = k.2.2.1) (hP : ∀ b, b < 48 → lb u b = mb e2.2.1 b) (hn : cntF (mb e2.2.1) 48 0 0 = n) (hn6 : n ≤ 6) : ∀ i, i < 8 → jHead j u (nI n) (0 + i) = cmH e2 k n (0 + i) := by
  intro i hi
  unfold jHead cmH
  rw [Nat.zero_add]
  refine hd_agree hP 48 0 0 _ _ (by omega) (fun i hi => ?_) ⟨fun _ => rfl, fun h => by omega, fun j h1 h2 => ?_⟩ (by omega) i hi
  · rw [hj]
    have hc : i = 0 ∨ i = 1 ∨ i = 2 ∨ i = 3 ∨ i = 4 ∨ i = 5 ∨ i = 6 ∨ i = 7 := by omega
    rcases hc with rfl | rfl | rfl | rfl | rfl | rfl | rfl | rfl <;> rfl
  · have hc : j = 1 ∨ j = 2 ∨ j = 3 := by omega
    rcases hc with rfl | rfl | rfl <;> rfl
/-- the transaction goes to the journal -/
theorem R_log {d : cS1} {e : rS1} {d4 : cS4} {e2 : rS2} {j : cS6} {k : rS3} {x u n : Nat} (hr : RDg d e 0) (hg : e.2.2.2.2.2.1 = nI 0) (hj : jnR j k x u) (h1 : e.1 1 = nI 2) (hT : setR d4.2.1 e2.2.1) (hI : d4.1 = e2.1) (hn : cntF (mb e2.2.1) 48 0 0 = n) (hn6 : n ≤ 6) :
    (RB ((logF d4 n x d j).1, (logF d4 n x d j).2.1) (cmE e e2 k x n) 0) ∧ k1 e (cmE e e2 k x n) ∧ jnW (logF d4 n x d j).2.2 k ∧ ((logF d4 n x d j).1 = true → (cmT e e2 k x n).2.2.1 = (x + n) % 8 ∧ (logF d4 n x d j).2.2.2.2.2.1 = j.2.2.2.1 ∧ (logF d4 n x d j).2.2.2.2.2.2.1 = j.2.2.2.2.1 ∧ (logF d4 n x d j).2.2.2.2.2.2.2.1 = j.2.2.2.2.2.1 ∧ (logF d4 n x d j).2.2.2.2.1 = j.2.2.1 ∧ (logF d4 n x d j).2.2.2.2.2.2.2.2.1 = j.2.2.2.2.2.2.1 ∧ (logF d4 n x d j).2.2.2.2.2.2.2.2.2 = j.2.2.2.2.2.2.2 ∧
      ∀ b, b < 48 → (mb k.2.1 b || mb e2.2.1 b) = true → ∀ i, i < 8 → (logF d4 n x d j).2.2.1 (8 * b + i) = (cmT e e2 k x n).2.1 (8 * b + i)) := by
  obtain ⟨j1, j2, j3, j4, j5, j6, j7, j8, j9, j10, j11⟩ := hj
  have e10 : 10 + (x + 0) % 8 = 10 + x := by omega
  have hH := RB_put (b := 10 + x) (a := 0) (a' := 0) (f := jHead j d4.2.1 (nI n)) (g := cmH e2 k n) hr hg (by omega) (by omega) (head_agree (e2 := e2) j7 hT.1 hn hn6)
  have kH : k1 e (rPut (10 + x) 0 (cmH e2 k n) e) := k1_put (by omega)
  have hlog : logF d4 n x d j = bindF (headF d4 n x d j) (fun d j => bindF (transF d4 x d j) fun d' j' => sealJ x n (transS d4 x d j) d' j') := rfl
  have hhead : headF d4 n x d j = ((putF (10 + x) 0 (jHead j d4.2.1 (nI n)) d).1, (putF (10 + x) 0 (jHead j d4.2.1 (nI n)) d).2, (j.1, jHead j d4.2.1 (nI n), j.2.2)) := by
    unfold headF
    rw [e10]
  have hT0 : cmT e e2 k x n = rtrF (mb e2.2.1) e2.1 48 0 x (nI 0) (rPut (10 + x) 0 (cmH e2 k n) e) k.1 := rfl
  rcases RB_cases hH with ⟨c1, ⟨n1, hn1, hr1⟩, hg1⟩ | ⟨c1, hr1, hg1, hm1⟩
  · have htr := RB_tr (u := d4.2.1) (P := mb e2.2.1) (f := d4.1) (x := x) hT.1 48 0 1 0 (putF (10 + x) 0 (jHead j d4.2.1 (nI n)) d).2 j.1 (rPut (10 + x) 0 (cmH e2 k n) e) k.1 x n1 (mb k.2.1) (by omega) (by omega) (by omega) hr1 hg1 (by omega) (fun b hb hm => (j11 b hb hm).2)
    rw [show (0 : Int32) = nI 0 from rfl] at htr
    rw [hI] at htr
    rw [← hT0] at htr
    obtain ⟨t1, t2, t3⟩ := htr
    have ebind : logF d4 n x d j = bindF (transF d4 x (putF (10 + x) 0 (jHead j d4.2.1 (nI n)) d).2 (j.1, jHead j d4.2.1 (nI n), j.2.2)) (fun d' j' => sealJ x n (transS d4 x (putF (10 + x) 0 (jHead j d4.2.1 (nI n)) d).2 (j.1, jHead j d4.2.1 (nI n), j.2.2)) d' j') := by
      rw [hlog, hhead]
      unfold bindF
      rw [if_pos c1]
    have etr : trF d4.2.1 d4.1 x 48 0 1 0 (putF (10 + x) 0 (jHead j d4.2.1 (nI n)) d).2 j.1 = trF d4.2.1 e2.1 x 48 0 1 (nI 0) (putF (10 + x) 0 (jHead j d4.2.1 (nI n)) d).2 j.1 := by
      rw [hI]
      rfl
    have etrans : transF d4 x (putF (10 + x) 0 (jHead j d4.2.1 (nI n)) d).2 (j.1, jHead j d4.2.1 (nI n), j.2.2) = (if (trF d4.2.1 e2.1 x 48 0 1 (nI 0) (putF (10 + x) 0 (jHead j d4.2.1 (nI n)) d).2 j.1).1 = true then ((flF (trF d4.2.1 e2.1 x 48 0 1 (nI 0) (putF (10 + x) 0 (jHead j d4.2.1 (nI n)) d).2 j.1).2.1).1, (flF (trF d4.2.1 e2.1 x 48 0 1 (nI 0) (putF (10 + x) 0 (jHead j d4.2.1 (nI n)) d).2 j.1).2.1).2, ((trF d4.2.1 e2.1 x 48 0 1 (nI 0) (putF (10 + x) 0 (jHead j d4.2.1 (nI n)) d).2 j.1).2.2.1, jHead j d4.2.1 (nI n), j.2.2)) else (false, (trF d4.2.1 e2.1 x 48 0 1 (nI 0) (putF (10 + x) 0 (jHead j d4.2.1 (nI n)) d).2 j.1).2.1, ((trF d4.2.1 e2.1 x 48 0 1 (nI 0) (putF (10 + x) 0 (jHead j d4.2.1 (nI n)) d).2 j.1).2.2.1, jHead j d4.2.1 (nI n), j.2.2))) := by
      rw [← etr]
      rfl
    have esum : transS d4 x (putF (10 + x) 0 (jHead j d4.2.1 (nI n)) d).2 (j.1, jHead j d4.2.1 (nI n), j.2.2) = (trF d4.2.1 e2.1 x 48 0 1 (nI 0) (putF (10 + x) 0 (jHead j d4.2.1 (nI n)) d).2 j.1).2.2.2.2 := by
      rw [← etr]
      rfl
    rw [ebind, etrans, esum]
    generalize trF d4.2.1 e2.1 x 48 0 1 (nI 0) (putF (10 + x) 0 (jHead j d4.2.1 (nI n)) d).2 j.1 = T at t1 t3 ⊢
    unfold cmE
    generalize hT' : cmT e e2 k x n = T' at t1 t2 t3 ⊢
    rcases RB_cases t1 with ⟨c2, ⟨n2, hn2, hr2⟩, hg2⟩ | ⟨c2, hr2, hg2, hm2⟩
    · obtain ⟨q1, q2, q3, q4⟩ := t3 c2
      have hk : T.2.2.2.1 = 1 + n := by
        rw [q3, cnt_c, hn]
      have ha : T'.2.2.1 = (x + n) % 8 := by
        rw [q2, hk]
        congr 2
        omega
      have ea : (T'.2.2.1 + 1) % 8 = (x + (n + 1)) % 8 := by rw [ha]; omega
      have hfl := RB_fl hr2 hg2 (by omega)
      have c2' : T.1 = true := c2
      rw [if_pos c2', ea]
      rcases RB_cases hfl with ⟨c3, ⟨n3, hn3, hr3⟩, hg3⟩ | ⟨c3, hr3, hg3, hm3⟩
      · have hse := RB_then (h := rFl) (g := flF) (RB_put (b := 10 + (x + (n + 1)) % 8) (a := 0) (a' := 0) (f := jSeal (T.2.2.1, jHead j d4.2.1 (nI n), j.2.2) T.2.2.2.2) (g := cmS e2 k n T'.2.2.2) hr3 hg3 (by omega) (by omega) (seal_agree (j' := j) j7 q1)) (fun d' n' g1 g2 g3 => RB_fl (n := n') g2 g3 (by omega)) rFl_gone
        have eb : bindF ((flF T.2.1).1, (flF T.2.1).2, (T.2.2.1, jHead j d4.2.1 (nI n), j.2.2)) (fun d' j' => sealJ x n T.2.2.2.2 d' j') = ((sealF (T.2.2.1, jHead j d4.2.1 (nI n), j.2.2) x n T.2.2.2.2 (flF T.2.1).2).1, (sealF (T.2.2.1, jHead j d4.2.1 (nI n), j.2.2) x n T.2.2.2.2 (flF T.2.1).2).2, (T.2.2.1, jSeal (T.2.2.1, jHead j d4.2.1 (nI n), j.2.2) T.2.2.2.2, j.2.2)) := by
          unfold bindF
          rw [if_pos c3]
          rfl
        rw [eb]
        refine ⟨hse, k1_tr kH (k1_tr t2 (k1_tr k1_fl (k1_tr (k1_put (by omega)) k1_fl))), ⟨j8, j9⟩, fun _ => ⟨ha, rfl, rfl, rfl, rfl, rfl, rfl, fun b hb hm i hi => ?_⟩⟩
        refine q4 b hb ?_ i hi
        simpa using hm
      · have eb : bindF ((flF T.2.1).1, (flF T.2.1).2, (T.2.2.1, jHead j d4.2.1 (nI n), j.2.2)) (fun d' j' => sealJ x n T.2.2.2.2 d' j') = ((flF T.2.1).1, (flF T.2.1).2, (T.2.2.1, jHead j d4.2.1 (nI n), j.2.2)) := by
          unfold bindF
          rw [if_neg (fun q => by rw [c3] at q; cases q)]
        rw [eb, rPut_gone hg3, rFl_gone hg3]
        refine ⟨?_, k1_tr kH (k1_tr t2 k1_fl), ⟨j8, j9⟩, fun q => by rw [c3] at q; cases q⟩
        rw [c3]
        exact RB_dead hr3 hg3 hm3
    · have c2' : ¬ T.1 = true := fun q => by
        have c2'' : T.1 = false := c2
        rw [c2''] at q
        cases q
      rw [if_neg c2']
      have eb : bindF (false, T.2.1, (T.2.2.1, jHead j d4.2.1 (nI n), j.2.2)) (fun d' j' => sealJ x n T.2.2.2.2 d' j') = (false, T.2.1, (T.2.2.1, jHead j d4.2.1 (nI n), j.2.2)) := rfl
      rw [eb, rFl_gone hg2, rPut_gone hg2, rFl_gone hg2]
      exact ⟨RB_dead hr2 hg2 hm2, k1_tr kH t2, ⟨j8, j9⟩, fun q => by cases q⟩
  · have ebind : logF d4 n x d j = (false, (putF (10 + x) 0 (jHead j d4.2.1 (nI n)) d).2, (j.1, jHead j d4.2.1 (nI n), j.2.2)) := by
      rw [hlog, hhead]
      unfold bindF
      rw [c1]
      rfl
    have hT1 : (cmT e e2 k x n).1 = rPut (10 + x) 0 (cmH e2 k n) e := by
      rw [hT0]
      exact rtrF_gone 48 0 x (nI 0) _ _ hg1
    rw [ebind]
    unfold cmE
    rw [hT1, rFl_gone hg1, rPut_gone hg1, rFl_gone hg1]
    exact ⟨RB_dead hr1 hg1 hm1, kH, ⟨j8, j9⟩, fun q => by cases q⟩
