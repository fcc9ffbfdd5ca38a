theorem or_set {u v : Int64} {g h : Nat → Int32} (hu : setR u g) (hv : setR v h) : setR (u ||| v) (orF (mb h) 48 g) := by
  refine ⟨fun b hb => ?_, fun b hb => ?_⟩
  · rw [lb_or, hu.1 b hb, hv.1 b hb]
    have eo : orF (mb h) 48 g b = (if b < 48 ∧ mb h b = true then nI 1 else g b) := rfl
    by_cases c : mb h b = true
    · have em : mb (orF (mb h) 48 g) b = true := by
        rw [mb_t, eo, if_pos ⟨hb, c⟩]
        decide
      rw [em, c, Bool.or_true]
    · have cf : mb h b = false := by simpa using c
      have em : mb (orF (mb h) 48 g) b = mb g b := by
        have e2 : orF (mb h) 48 g b = g b := by rw [eo, if_neg (fun q => c q.2)]
        have e3 : ∀ p q : Nat → Int32, p b = q b → mb p b = mb q b := fun p q hpq => by unfold mb; rw [hpq]
        exact e3 _ _ e2
      rw [em, cf, Bool.or_false]
  · rw [lb_or, hu.2 b hb, hv.2 b hb]
    rfl
/-- what a commit leaves of the reference's sets -/
def emptied (e2 e2' : rS2) (n : Nat) : Prop := e2'.1 = e2.1 ∧ (∀ b, b < 48 → mb e2'.2.1 b = false) ∧ (∀ b, b < 48 → mb e2'.2.2.1 b = false) ∧ (¬ n = 0 → (∀ b, b < 48 → mb e2'.2.2.2.1 b = false) ∧ e2'.2.2.2.2 = nI 0) ∧ (n = 0 → e2'.2.2.2.1 = e2.2.2.2.1 ∧ e2'.2.2.2.2 = e2.2.2.2.2)
theorem bind_t {r : DJ} {g : cS1 → cS6 → DJ} (h : r.1 = true) : bindF r g = g r.2.1 r.2.2 := if_pos h
theorem bind_f {r : DJ} {g : cS1 → cS6 → DJ} (h : ¬ r.1 = true) : bindF r g = r := if_neg h
/-- behind the log: the end of a commit -/
theorem R_logEnd {L : DJ} {E : rS1} {K3 K4 : rS3} {M5 M2 : rS2} {J5 : cS6} {r : DJ} {r' : rS1 × rS2 × rS3} {x u s : Nat} {bf sw : Int32} (l1 : RB (L.1, L.2.1) E 0) (l3 : jnW L.2.2 K3) (hJ : L.1 = true → jnR J5 K4 x u ∧ E.1 1 = nI 2) (hbf : bf = nI s) (hsw : sw = nI s) (hss : s < 2)
    (er1 : L.1 = true → r = (if bf = 0 then (true, L.2.1, J5) else ckptF L.2.1 J5)) (er2 : ¬ L.1 = true → r = L) (er3 : r' = (if E.2.2.2.2.2.1 = nI 0 then (if sw = nI 0 then (E, M5, K4) else (swE E K4, M5, swJ E K4)) else (E, M2, K3))) :
    RBJ r r'.1 0 ∧ jnW r.2.2 r'.2.2 ∧ (r.1 = true → r'.2.1 = M5 ∧ ∃ x' u', jnR r.2.2 r'.2.2 x' u' ∧ r'.1.1 1 = nI 2) := by
  rcases RB_cases l1 with ⟨c1, ⟨n1, hn1, hr1⟩, hg1⟩ | ⟨c1, hr1, hg1, hm1⟩
  · have c1' : L.1 = true := c1
    obtain ⟨hJ1, hs1⟩ := hJ c1'
    have hn0 : n1 = 0 := by omega
    subst hn0
    rw [if_pos hg1] at er3
    by_cases z : s = 0
    · subst z
      have z1 : bf = 0 := hbf
      rw [if_pos hsw] at er3
      have er := er1 c1'
      rw [if_pos z1] at er
      subst er er3
      exact ⟨RB_alive hr1 hg1, jnR_W hJ1, fun _ => ⟨rfl, x, u, hJ1, hs1⟩⟩
    · have z1 : ¬ bf = 0 := by
        rw [hbf]
        intro q
        exact z ((nI_eq (a := s) (b := 0) (by omega) (by omega)).mp q)
      have z2 : ¬ sw = nI 0 := by
        rw [hsw]
        intro q
        exact z ((nI_eq (a := s) (b := 0) (by omega) (by omega)).mp q)
      rw [if_neg z2] at er3
      have er := er1 c1'
      rw [if_neg z1] at er
      obtain ⟨w1, w2, w3⟩ := R_ckpt hr1 hg1 (by omega) hJ1 hs1
      generalize ckptF L.2.1 J5 = CK at er w1 w2 w3
      generalize swE E K4 = SE at er3 w1 w3
      generalize swJ E K4 = SJ at er3 w2 w3
      subst er er3
      exact ⟨w1, w2, fun q => ⟨rfl, x, 0, (w3 q).1, (w3 q).2⟩⟩
  · have c1' : ¬ L.1 = true := fun q => by
      have c2 : L.1 = false := c1
      rw [c2] at q
      cases q
    rw [if_neg hg1] at er3
    have er := er2 c1'
    subst er er3
    exact ⟨l1, l3, fun q => absurd q c1'⟩
theorem R_logAll {d : cS1} {e : rS1} {d4 : cS4} {e2 : rS2} {j : cS6} {k : rS3} {x u n s : Nat} (hr : RDg d e 0) (hg : e.2.2.2.2.2.1 = nI 0) (hj : jnR j k x u) (h1 : e.1 1 = nI 2) (hT : setR d4.2.1 e2.2.1) (hT1 : ∀ b, b < 48 → mb e2.2.1 b = true → 1 ≤ b) (hI : d4.1 = e2.1) (hn : cntF (mb e2.2.1) 48 0 0 = n) (hn6 : n ≤ 6) (hu : u + n + 2 ≤ 8) (hs : d4.2.2.2.2 = nI s) (hs2 : e2.2.2.2.2 = nI s) (hss : s < 2) :
    RBJ (logAll d4 n x d j) (cmL e e2 k x n).1 0 ∧ jnW (logAll d4 n x d j).2.2 (cmL e e2 k x n).2.2 ∧ ((logAll d4 n x d j).1 = true → (cmL e e2 k x n).2.1 = cm5 e2 ∧ ∃ x' u', jnR (logAll d4 n x d j).2.2 (cmL e e2 k x n).2.2 x' u' ∧ (cmL e e2 k x n).1.1 1 = nI 2) := by
  obtain ⟨l1, l2, l3, l4⟩ := R_log hr hg hj h1 hT hI hn hn6
  obtain ⟨j1, j2, j3, j4, j5, j6, j7, j8, j9, j10, j11⟩ := hj
  have hla : logAll d4 n x d j = bindF (logF d4 n x d j) (fun d j => if d4.2.2.2.2 = 0 then (true, d, doneJ d4 n x j) else ckptF d (doneJ d4 n x j)) := rfl
  have hcl : cmL e e2 k x n = (if (cmE e e2 k x n).2.2.2.2.2.1 = nI 0 then (if e2.2.2.2.2 = nI 0 then (cmE e e2 k x n, cm5 e2, cm4 e e2 k x n) else (swE (cmE e e2 k x n) (cm4 e e2 k x n), cm5 e2, swJ (cmE e e2 k x n) (cm4 e e2 k x n))) else (cmE e e2 k x n, cm2 e2, cm3 e e2 k x n)) := rfl
  have h3 : (cm3 e e2 k x n).2.2.2.2.2.1 = k.2.2.2.2.2.1 ∧ (cm3 e e2 k x n).2.2.2.2.2.2.1 = k.2.2.2.2.2.2.1 := ⟨rfl, rfl⟩
  have h4 : (cm4 e e2 k x n).2.2.2.1 = nI (((cmT e e2 k x n).2.2.1 + 2) % 8) ∧ (cm4 e e2 k x n).2.2.2.2.1 = k.2.2.2.2.1 + nI (n + 2) ∧ (cm4 e e2 k x n).2.2.1 = k.2.2.1 + nI 1 ∧ (cm4 e e2 k x n).2.2.2.2.2.1 = k.2.2.2.2.2.1 + nI 1 ∧ (cm4 e e2 k x n).2.2.2.2.2.2.1 = k.2.2.2.2.2.2.1 ∧ (cm4 e e2 k x n).2.1 = orF (mb e2.2.1) 48 k.2.1 ∧ (cm4 e e2 k x n).1 = (cmT e e2 k x n).2.1 := ⟨rfl, rfl, rfl, rfl, rfl, rfl, rfl⟩
  generalize logAll d4 n x d j = r at hla ⊢
  generalize logF d4 n x d j = L at l1 l3 l4 hla
  generalize cmL e e2 k x n = r' at hcl ⊢
  generalize cmE e e2 k x n = E at l1 l2 hcl
  generalize cm3 e e2 k x n = K3 at h3 hcl
  generalize cm4 e e2 k x n = K4 at h4 hcl
  generalize cmT e e2 k x n = T' at l4 h4
  obtain ⟨b1, b2, b3, b4, b5, b6, b7⟩ := h4
  refine R_logEnd (L := L) (E := E) (K3 := K3) (K4 := K4) (J5 := doneJ d4 n x L.2.2) (x := (x + (n + 2)) % 8) (u := u + (n + 2)) l1 ⟨l3.1.trans h3.1.symm, l3.2.trans h3.2.symm⟩ (fun c1 => ?_) hs hs2 hss (fun c1 => by rw [hla, bind_t c1]) (fun c1 => by rw [hla, bind_f c1]) hcl
  obtain ⟨a1, a2, a3, a4, a5, a6, a7, a8⟩ := l4 c1
  have hg1 : E.2.2.2.2.2.1 = nI 0 := by
    rcases RB_cases l1 with ⟨_, _, q⟩ | ⟨q, _⟩
    · exact q
    · have q' : L.1 = false := q
      rw [q'] at c1
      cases c1
  refine ⟨⟨rfl, ?_, by omega, ?_, ?_, by omega, ?_, ?_, ?_, ?_, ?_⟩, (l2 hg1).2.trans h1⟩
  · rw [b1, a1]
    congr 1
    omega
  · show L.2.2.2.2.2.2.1 + nI (n + 2) = nI (u + (n + 2))
    rw [a3, j4, nI_add]
  · rw [b2, j5, nI_add]
  · show L.2.2.2.2.2.2.2.1 + 1 = _
    rw [a4, b3, j7]
    rfl
  · show L.2.2.2.2.2.2.2.2.1 + 1 = _
    rw [a6, b4, j8]
    rfl
  · show L.2.2.2.2.2.2.2.2.2 = _
    rw [a7, b5, j9]
  · show setR (L.2.2.2.2.1 ||| d4.2.1) _
    rw [a5, b6]
    exact or_set j10 hT
  · intro b hb hm
    rw [b6] at hm
    have hm2 : (mb k.2.1 b || mb e2.2.1 b) = true := by
      have h9 := (or_set j10 hT).1 b hb
      rw [← h9, lb_or, j10.1 b hb, hT.1 b hb] at hm
      exact hm
    refine ⟨?_, fun i hi => ?_⟩
    · rw [Bool.or_eq_true] at hm2
      rcases hm2 with q | q
      · exact (j11 b hb q).1
      · exact hT1 b hb q
    · rw [b7]
      exact a8 b hb hm2 i hi
