/-! RECOVERY AND MOUNT, in both -/
theorem dSp_nw {d : cS1} : (dSp d).1 = d.1 := (dSp_now d).1
theorem putF2_eq {b y : Nat} {d : cS1} (hy : y < 8) (hb : b ≤ 9 ∨ 18 ≤ b) : putF2 b (80 + 8 * y) d = putF b (80 + 8 * y) d.1 d := by
  unfold putF2 putF
  have e : dPut2 (dSp d) b (80 + 8 * y) = dPut (dSp d) b (80 + 8 * y) d.1 := by
    unfold dPut2 dPut
    rw [dSp_nw]
    have e2 : va_cpy (va_cpy d.1 d.1 (80 + 8 * y) (8 * b) 8) (dSp d).2.1 (80 + 8 * y) (8 * b) 8 = va_cpy d.1 (dSp d).2.1 (80 + 8 * y) (8 * b) 8 := cpy_agree rfl (fun i hi => pk_cpy_out (by omega))
    rw [e2]
  rw [e]
theorem rmid_gone {x : Nat} : ∀ m k (e : rS1) s, ¬ e.2.2.2.2.2.1 = nI 0 → (rmid x m k e s).1 = e := by
  intro m
  induction m with
  | zero => intro k e s _; rfl
  | succ m ih =>
    intro k e s h
    show (rmid x m (k + 1) (rPut (rnum e.1 (80 + 8 * x) k).toNatClampNeg 0 (rsc e x k s) e) (rsc e x k s)).1 = e
    rw [rPut_gone h]
    exact ih (k + 1) e _ h
theorem RB_mid {x N : Nat} (hx : x < 8) (hN : N ≤ 6) : ∀ m k d e s n, k + m = N → RDg d e n → e.2.2.2.2.2.1 = nI 0 → n + m < 100 → (∀ j, k ≤ j → j < N → okR (rnum d.1 (80 + 8 * x) j) = true) → RB (cmid x m k d) (rmid x m k e s).1 (n + m) := by
  intro m
  induction m with
  | zero => intro k d e s n _ h hg _ _; exact RB_alive h hg
  | succ m ih =>
    intro k d e s n hk h hg hn hok
    have h4 : d.1 = e.1 := h.2.2.2.1
    obtain ⟨b, hb, hbe, hb1, hb2⟩ := okR_n (hok k (by omega) (by omega))
    have hcl : (rnum d.1 (80 + 8 * x) k).toNatClampNeg = b := by rw [hbe]; exact nI_clamp (by omega)
    have hcl2 : (rnum e.1 (80 + 8 * x) k).toNatClampNeg = b := by rw [← h4]; exact hcl
    have hp := RB_put (b := b) (a := 80 + 8 * ((x + 1 + k) % 8)) (a' := 0) (f := d.1) (g := rsc e x k s) h hg (by omega) hb (fun i hi => by
      have e2 : rsc e x k s (0 + i) = e.1 (80 + 8 * ((x + 1 + k) % 8) + i) := by
        unfold rsc
        rw [pk_cpy_in (by omega) (by omega), Nat.zero_add, Nat.sub_zero]
      rw [e2, h4])
    have hal : (putF b (80 + 8 * ((x + 1 + k) % 8)) d.1 d).1 = true → ∀ q, 80 ≤ q → q < 144 → (putF b (80 + 8 * ((x + 1 + k) % 8)) d.1 d).2.1 q = d.1 q := by
      intro ha q q1 q2
      rw [← putF2_eq (by omega) hb2] at ha ⊢
      rw [putF2_now ha]
      exact pk_cpy_out (by omega)
    show RB (if (putF2 (rnum d.1 (80 + 8 * x) k).toNatClampNeg (80 + 8 * ((x + 1 + k) % 8)) d).1 = true then cmid x m (k + 1) (putF2 (rnum d.1 (80 + 8 * x) k).toNatClampNeg (80 + 8 * ((x + 1 + k) % 8)) d).2 else putF2 (rnum d.1 (80 + 8 * x) k).toNatClampNeg (80 + 8 * ((x + 1 + k) % 8)) d) (rmid x m (k + 1) (rPut (rnum e.1 (80 + 8 * x) k).toNatClampNeg 0 (rsc e x k s) e) (rsc e x k s)).1 _
    rw [hcl, hcl2, putF2_eq (by omega) hb2]
    generalize putF b (80 + 8 * ((x + 1 + k) % 8)) d.1 d = P at hp hal
    generalize rPut b 0 (rsc e x k s) e = E at hp
    rcases RB_cases hp with ⟨c, ⟨n1, hn1, hr1⟩, hg1⟩ | ⟨c, hr1, hg1, hm1⟩
    · rw [if_pos c]
      refine RB_le (ih (k + 1) P.2 E _ n1 (by omega) hr1 hg1 (by omega) (fun j j1 j2 => ?_)) (by omega)
      rw [rnum_j hx (by omega) (hal c)]
      exact hok j (by omega) j2
    · have c' : ¬ P.1 = true := fun z => by
        rw [c] at z
        cases z
      rw [if_neg c', rmid_gone m (k + 1) E _ hg1]
      unfold RB
      rw [if_neg c']
      exact ⟨hr1, hg1, hm1⟩
theorem rrecF_gone : ∀ m c p (e : rS1) x q s, ¬ e.2.2.2.2.2.1 = nI 0 → (rrecF m c p e x q s).2.1 = e := by
  intro m
  cases m with
  | zero => intro c p e x q s _; rfl
  | succ m =>
    intro c p e x q s h
    unfold rrecF
    rw [if_neg h]
    split
    · split <;> rfl
    · rfl
/-- recovery: alive with the same outcome, or both dead -/
theorem R_rec : ∀ m c u d e x q s n, RDg d e n → e.2.2.2.2.2.1 = nI 0 → n ≤ u → u ≤ 8 → x < 8 →
    ((crecF m c u d x q).1 = true ∧ (∃ n', n' ≤ 8 ∧ RDg (crecF m c u d x q).2.2.2.1 (rrecF m c u e x q s).2.1 n') ∧ (rrecF m c u e x q s).2.1.2.2.2.2.2.1 = nI 0 ∧ (crecF m c u d x q).2.1 = (rrecF m c u e x q s).1 ∧ (crecF m c u d x q).2.2.2.2.1 = (rrecF m c u e x q s).2.2.1 ∧ (rrecF m c u e x q s).2.2.1 < 8 ∧ (crecF m c u d x q).2.2.2.2.2 = (rrecF m c u e x q s).2.2.2.1) ∨
    ((crecF m c u d x q).1 = false ∧ RDg (crecF m c u d x q).2.2.2.1 (rrecF m c u e x q s).2.1 0 ∧ ¬ (rrecF m c u e x q s).2.1.2.2.2.2.2.1 = nI 0 ∧ (crecF m c u d x q).2.2.2.1.2.2.2.2.2.2.2 = nI 0) := by
  intro m
  induction m with
  | zero =>
    intro c u d e x q s n h hg hn hu hx
    exact Or.inl ⟨rfl, ⟨n, by omega, h⟩, hg, rfl, rfl, hx, rfl⟩
  | succ m ih =>
    intro c u d e x q s n h hg hn hu hx
    have h4 : d.1 = e.1 := h.2.2.2.1
    have er : rrecF (m + 1) c u e x q s = (if nI 0 < rrec e.1 x q then (if u + (rrec e.1 x q).toNatClampNeg ≤ 8 then (if e.2.2.2.2.2.1 = nI 0 then
      rrecF m (c + 1) (u + (rrec e.1 x q).toNatClampNeg) (rmid x ((rrec e.1 x q).toNatClampNeg - 2) 0 e s).1 ((x + (rrec e.1 x q).toNatClampNeg) % 8) (q + nI 1) (rmid x ((rrec e.1 x q).toNatClampNeg - 2) 0 e s).2
      else (c, e, x, q, s)) else (c, e, x, q, s)) else (c, e, x, q, s)) := rfl
    rw [crecF_s, er]
    rcases seal_rr (f := d.1) (x := x) (u := u) (q := q) hx hu with ⟨N, n1, n6, hu8, hs, hr, hok⟩ | ⟨hs, hr⟩
    · have hr' : rrec e.1 x q = nI (N + 2) := by rw [← h4]; exact hr
      rw [hs, hr', if_pos (nI_lt (by omega) (by omega)), if_pos (nI_lt (by omega) (by omega)), nI_clamp (by omega), nI_clamp (by omega), if_pos (show u + (N + 2) ≤ 8 by omega), if_pos hg, Nat.add_sub_cancel]
      have hm := RB_mid hx n6 N 0 d e s n (by omega) h hg (by omega) (fun j _ hj => hok j hj)
      generalize (rmid x N 0 e s).2 = s'
      generalize cmid x N 0 d = C at hm
      generalize (rmid x N 0 e s).1 = E at hm
      rcases RB_cases hm with ⟨a, ⟨k1, hk1, hr1⟩, hg1⟩ | ⟨a, hr1, hg1, hm1⟩
      · rw [if_pos a]
        exact ih (c + 1) (u + (N + 2)) C.2 E ((x + (N + 2)) % 8) (q + 1) s' k1 hr1 hg1 (by omega) (by omega) (by omega)
      · have a' : ¬ C.1 = true := fun z => by
          rw [a] at z
          cases z
        rw [if_neg a', rrecF_gone _ _ _ _ _ _ _ hg1]
        exact Or.inr ⟨rfl, hr1, hg1, hm1⟩
    · rw [hs, if_neg (show ¬ nI 0 < nI 0 by decide)]
      have e3 : (if nI 0 < rrec e.1 x q then (if u + (rrec e.1 x q).toNatClampNeg ≤ 8 then (if e.2.2.2.2.2.1 = nI 0 then
        rrecF m (c + 1) (u + (rrec e.1 x q).toNatClampNeg) (rmid x ((rrec e.1 x q).toNatClampNeg - 2) 0 e s).1 ((x + (rrec e.1 x q).toNatClampNeg) % 8) (q + nI 1) (rmid x ((rrec e.1 x q).toNatClampNeg - 2) 0 e s).2
        else (c, e, x, q, s)) else (c, e, x, q, s)) else (c, e, x, q, s)) = (c, e, x, q, s) := by
        rw [← h4]
        rcases hr with hr | ⟨N, n1, n6, h8, hr⟩
        · rw [hr, if_neg (show ¬ nI 0 < nI 0 by decide)]
        · rw [hr, if_pos (nI_lt (by omega) (by omega)), nI_clamp (by omega), if_neg (show ¬ u + (N + 2) ≤ 8 by omega)]
      rw [e3]
      exact Or.inl ⟨rfl, ⟨n, by omega, h⟩, hg, rfl, rfl, hx, rfl⟩
theorem hb_rec {j : cS6} {k : rS3} {r : Nat × rS1 × Nat × Int32 × (Nat → Int32)} {x : Nat} {q : Int32} (hx : x = r.2.2.1) (hq : q = r.2.2.2.1) : ∀ i, i < 8 → jFb (crJ j 0 x q) 2 (0 + i) = rHb (mtJ r k) (nI 2) (0 + i) := by
  intro i hi
  subst hx
  subst hq
  unfold jFb rHb
  have hc : i = 0 ∨ i = 1 ∨ i = 2 ∨ i = 3 ∨ i = 4 ∨ i = 5 ∨ i = 6 ∨ i = 7 := by omega
  rcases hc with rfl | rfl | rfl | rfl | rfl | rfl | rfl | rfl <;> rfl
/-- recovery as a whole -/
theorem R_mrec {d : cS1} {e : rS1} {j : cS6} {k : rS3} {x : Nat} (h : RDg d e 0) (hw : jnW j k) (hx : x < 8) :
    RB ((crec d j x).1, (crec d j x).2.1) (mtE (mtR e k x) k) 0 ∧ jnW (crec d j x).2.2.1 k ∧ ((crec d j x).1 = true → (crec d j x).2.2.2 = (mtR e k x).1 ∧ (mtR e k x).2.2.1 < 8 ∧ (crec d j x).2.2.1.2.2.2.1 = nI (mtR e k x).2.2.1 ∧ (crec d j x).2.2.1.2.2.2.2.1 = nI 0 ∧ (crec d j x).2.2.1.2.2.2.2.2.1 = (mtR e k x).2.2.2.1 ∧ (crec d j x).2.2.1.2.2.1 = 0 ∧ (mtE (mtR e k x) k).1 1 = nI 2) := by
  have h4 : d.1 = e.1 := h.2.2.2.1
  have hR := R_rec 9 0 0 d (rLive e) x (d.1 2) k.2.2.2.2.2.2.2 0 (RDg_live h) rfl (by omega) (by omega) hx
  have em : mtR e k x = rrecF 9 0 0 (rLive e) x (d.1 2) k.2.2.2.2.2.2.2 := by rw [h4]; rfl
  rw [← em] at hR
  have ec : crec d j x = crOut (crecF 9 0 0 d x (d.1 2)) j := rfl
  rw [ec]
  have eE : mtE (mtR e k x) k = rFl (rPut 0 0 (rHb (mtJ (mtR e k x) k) (nI 2)) (rrecT (mtR e k x).1 (mtR e k x).2.1)) := rfl
  rw [eE]
  generalize crecF 9 0 0 d x (d.1 2) = C at hR
  generalize mtR e k x = D at hR
  rcases hR with ⟨a, ⟨n', hn', hr'⟩, hg', hc, hx', hx8, hq'⟩ | ⟨a, hr', hg', hm'⟩
  · have hT : RB (crT C.2.1 C.2.2.2.1) (rrecT D.1 D.2.1) 8 := by
      unfold crT rrecT
      rw [hc]
      by_cases c0 : 0 < D.1
      · rw [if_pos c0, if_pos c0]
        exact RB_le (RB_fl hr' hg' (by omega)) (by omega)
      · rw [if_neg c0, if_neg c0]
        exact RB_le (RB_alive hr' hg') hn'
    unfold crOut
    rw [if_pos a]
    have hJ : ∀ u, jnW (crJ j u C.2.2.2.2.1 C.2.2.2.2.2) k := fun u => hw
    generalize hTe : crT C.2.1 C.2.2.2.1 = T at hT
    generalize rrecT D.1 D.2.1 = E at hT
    rcases RB_cases hT with ⟨c, ⟨n1, hn1, hr1⟩, hg1⟩ | ⟨c, hr1, hg1, hm1⟩
    · rw [if_pos c]
      have hF : RB (firstF (crJ j 0 C.2.2.2.2.1 C.2.2.2.2.2) 2 T.2) (rFl (rPut 0 0 (rHb (mtJ D k) (nI 2)) E)) 0 := by
        unfold firstF
        exact RB_then (h := rFl) (RB_put hr1 hg1 (by omega) (by omega) (hb_rec hx' hq')) (fun d'' n'' q1 q2 q3 => RB_fl q2 q3 (by omega)) rFl_gone
      have hs : (rFl (rPut 0 0 (rHb (mtJ D k) (nI 2)) E)).2.2.2.2.2.1 = nI 0 → (rFl (rPut 0 0 (rHb (mtJ D k) (nI 2)) E)).1 1 = nI 2 := by
        intro z
        obtain ⟨q1, q2⟩ := rFl_alive z
        rw [q2, (rPut_alive q1).2, pk_cpy_in (by omega) (by omega)]
        rfl
      have hnn : (firstF (crJ j 0 C.2.2.2.2.1 C.2.2.2.2.2) 2 T.2).1 = true → (rFl (rPut 0 0 (rHb (mtJ D k) (nI 2)) E)).2.2.2.2.2.1 = nI 0 := fun z => by
        unfold RB at hF
        rw [if_pos z] at hF
        exact hF.2
      refine ⟨hF, hJ 0, fun z => ⟨hc, hx8, ?_, rfl, hq', rfl, hs (hnn z)⟩⟩
      show nI C.2.2.2.2.1 = _
      rw [hx']
    · have c' : ¬ T.1 = true := fun z => by
        rw [c] at z
        cases z
      rw [if_neg c', rPut_gone hg1, rFl_gone hg1]
      exact ⟨RB_dead hr1 hg1 hm1, hJ _, fun z => by cases z⟩
  · have a' : ¬ C.1 = true := fun z => by
      rw [a] at z
      cases z
    have eT : rrecT D.1 D.2.1 = D.2.1 := by
      unfold rrecT
      rw [rFl_gone hg']
      split <;> rfl
    unfold crOut
    rw [if_neg a', eT, rPut_gone hg', rFl_gone hg']
    exact ⟨RB_dead hr' hg' hm', hw, fun z => by cases z⟩
theorem mZ_mid {x : Nat} : ∀ m k (e : rS1) s, e.2.2.2.2.1 = nI 0 → (rmid x m k e s).1.2.2.2.2.1 = nI 0 := by
  intro m
  induction m with
  | zero => intro k e s h; exact h
  | succ m ih => intro k e s h; exact ih _ _ _ (mZ_put h)
theorem mZ_rec : ∀ m c p (e : rS1) x q s, e.2.2.2.2.1 = nI 0 → (rrecF m c p e x q s).2.1.2.2.2.2.1 = nI 0 := by
  intro m
  induction m with
  | zero => intro c p e x q s h; exact h
  | succ m ih =>
    intro c p e x q s h
    unfold rrecF
    split
    · split
      · split
        · exact ih _ _ _ _ _ _ (mZ_mid _ _ _ _ h)
        · exact h
      · exact h
    · exact h
theorem mZ_mtE {e : rS1} {k : rS3} {x : Nat} (h : e.2.2.2.2.1 = nI 0) : (mtE (mtR e k x) k).2.2.2.2.1 = nI 0 := by
  have h1 : (mtR e k x).2.1.2.2.2.2.1 = nI 0 := mZ_rec 9 0 0 (rLive e) x (e.1 2) k.2.2.2.2.2.2.2 h
  refine mZ_fl (mZ_put ?_)
  unfold rrecT
  split
  · exact mZ_fl h1
  · exact h1
theorem FS_congr {f g : Nat → Int32} {K L S : Nat → Nat} {N E : Nat → Nat → Nat} (h : FS f K L S N E) (he : ∀ q, q < 384 → g q = f q) : FS g K L S N E := by
  obtain ⟨⟨⟨a1, a2, a3⟩, hb, hc, hd⟩, h3, h4⟩ := h
  refine ⟨⟨⟨fun i h1 h2 => ?_, fun i h1 h2 => ?_, fun i j h0 => ?_⟩, fun d k hd2 hk => ?_, hc, hd⟩, h3, h4⟩
  · rw [he _ (by omega), he _ (by omega), he _ (by omega), he _ (by omega)]
    exact a1 i h1 h2
  · rw [he _ (by omega)]
    exact a2 i h1 h2
  · have := hc.2.2.2.1 i j h0
    have e := a3 i j h0
    unfold tkB at e ⊢
    rw [he _ (by omega)]
    exact e
  · obtain ⟨n1, n2, n3, n4, n5⟩ := Sc_dirN hc hd2 hk
    rw [he _ (by omega)]
    exact hb d k hd2 hk
/-- the reference's numbers of what mount throws -/
def tM (t : Nat) : Nat := if t = 2 then 1 else if t = 4 then 2 else if t = 5 then 3 else 0
section RUN
variable {d1 : cS1} {d4 : cS4} {d6 : cS6} {d9 : cS9} {e1 : rS1} {e2 : rS2} {e3 : rS3} {e4 : rS4}
theorem GI_load {E : rS1} {D : cS1} (hn : D.1 = E.1) (ho : oEq d4 e2) (hp : pass1 E.1 = 0 ∧ pass2 E.1 = 0 ∧ pass3 E.1 = 0 ∧ pass4 E.1 = 0 ∧ pass5 E.1 = 0) : GI (ldM D d4) (mtM E e2) ∧ nCh (mtM E e2) = 0 := by
  have z0 : ∀ g : Nat → Int32, setR 0 (fillF 48 (nI 0) g) := fun g => ⟨fun b hb => by rw [fillF_mb hb]; exact lb_0 b, fun b _ => lb_0 b⟩
  have hf : ∀ (g : Nat → Int32) b, b < 48 → ¬ mb (fillF 48 (nI 0) g) b = true := fun g b hb z => by
    rw [fillF_mb hb] at z
    cases z
  refine ⟨⟨⟨?_, z0 _, z0 _, z0 _, 0, by omega, rfl, rfl⟩, ⟨fun b hb z => absurd z (hf _ b hb), fun b hb z => absurd z (hf _ b hb), fun b hb z => absurd z (hf _ b hb), fun z => absurd rfl z⟩, _, _, _, _, _, FS_congr (FS_load hp.1 hp.2.1 hp.2.2.1 hp.2.2.2.1 hp.2.2.2.2) (fun q hq => (by show va_cpy E.1 e2.1 0 0 384 q = E.1 q; rw [pk_cpy_in (by omega) (by omega), Nat.zero_add, Nat.sub_zero]))⟩, cnt_none 48 0 0 (fun b _ hb => fillF_mb (by omega))⟩
  show va_cpy D.1 d4.1 0 0 384 = va_cpy E.1 e2.1 0 0 384
  funext q
  by_cases c : q < 384
  · rw [pk_cpy_in (by omega) (by omega), pk_cpy_in (by omega) (by omega), hn]
  · rw [pk_cpy_out (by omega), pk_cpy_out (by omega)]
    exact ho q (by omega)
theorem O_mount (hs : RS d1 d4 d6 e1 e2 e3) : OpR tM 2 [.ref 0, pDum, pDum] 119 [.ref 13, pDum, pDum] d1 d4 d6 d9 e1 e2 e3 e4 := by
  have hs0 := hs
  obtain ⟨hr, hw, ho, m, hm2, hm, hM⟩ := hs
  have hmd : d1.2.2.2.2.2.2.2 = nI m := hr.2.2.2.2.2.2.2.2.2.trans hm
  have h4 : d1.1 = e1.1 := hr.2.2.2.1
  have hx3 : ∃ x, ¬ (e1.1 3 < nI 0 ∨ nI 7 < e1.1 3) → e1.1 3 = nI x ∧ x < 8 := by
    by_cases c : e1.1 3 < nI 0 ∨ nI 7 < e1.1 3
    · exact ⟨0, fun z => absurd c z⟩
    · obtain ⟨x, hx, he⟩ := nI_of2 (x := e1.1 3) (M := nI 7) (n := 7) rfl (fun z => c (Or.inl z)) (Int32.not_lt.mp (fun z => c (Or.inr z)))
      exact ⟨x, fun _ => ⟨he, by omega⟩⟩
  obtain ⟨x, hx3⟩ := hx3
  have hc : ∀ (X : pScr) (nx : Nat) (ok : Bool) (Q : pRes → Prop) (R : pMem), _ := fun X nx ok Q R => q_cmount (X := X) (nx := nx) (ok := ok) (Q := Q) (R := R) (d4 := d4) (d6 := d6) (d9 := d9) (x := x) hmd hm2 (by rw [h4]; exact hx3)
  have hq : ∀ (X : pScr) (nx : Nat) (ok : Bool) (Q : pRes → Prop) (R : pMem), _ := fun X nx ok Q R => q_rmount (X := X) (nx := nx) (ok := ok) (Q := Q) (R := R) (e2 := e2) (e3 := e3) (e4 := e4) (x := x) hm hm2 (RDg_ok hr) hx3
  by_cases c0 : m = 0
  · by_cases hbad : ¬ e1.1 0 = nI 61267 ∨ e1.1 3 < nI 0 ∨ nI 7 < e1.1 3
    · refine ⟨4, none, d1, d4, d6, d9, ⟨⟨by omega, by decide⟩, fun z => by omega⟩, fun X nx ok Q R => ?_, fun X nx ok Q R => ?_⟩
      · rw [hc, if_pos c0, if_pos (by rw [h4]; exact hbad)]
        exact Iff.rfl
      · obtain ⟨fd, hq'⟩ := hq X nx ok Q R
        rw [if_pos c0, if_pos hbad] at hq'
        exact ⟨_, rLive e1, e2, e3, _, hq', rfl, ⟨fun z => by omega, vT_v (by decide +kernel)⟩, hs0⟩
    · obtain ⟨h3, hx8⟩ := hx3 (fun z => hbad (Or.inr z))
      obtain ⟨r1, r2, r3⟩ := R_mrec (j := d6) (k := e3) hr hw hx8
      have hz : (mtE (mtR e1 e3 x) e3).2.2.2.2.1 = nI 0 := mZ_mtE (by subst c0; exact hm)
      have hbad' : ¬ (¬ d1.1 0 = nI 61267 ∨ d1.1 3 < nI 0 ∨ nI 7 < d1.1 3) := by rw [h4]; exact hbad
      have hJ : (mtC (mtJ (mtR e1 e3 x) e3)).2.2.2.2.2.1 = e3.2.2.2.2.2.1 ∧ (mtC (mtJ (mtR e1 e3 x) e3)).2.2.2.2.2.2.1 = e3.2.2.2.2.2.2.1 ∧ (mtL (mtC (mtJ (mtR e1 e3 x) e3))).2.2.2.2.2.1 = e3.2.2.2.2.2.1 ∧ (mtL (mtC (mtJ (mtR e1 e3 x) e3))).2.2.2.2.2.2.1 = e3.2.2.2.2.2.2.1 ∧ (mtL (mtC (mtJ (mtR e1 e3 x) e3))).2.2.2.1 = nI (mtR e1 e3 x).2.2.1 ∧ (mtL (mtC (mtJ (mtR e1 e3 x) e3))).2.2.2.2.1 = nI 0 ∧ (mtL (mtC (mtJ (mtR e1 e3 x) e3))).2.2.1 = (mtR e1 e3 x).2.2.2.1 ∧ (mtL (mtC (mtJ (mtR e1 e3 x) e3))).2.1 = fillF 48 (nI 0) e3.2.1 := ⟨rfl, rfl, rfl, rfl, rfl, rfl, rfl, rfl⟩
      generalize mtC (mtJ (mtR e1 e3 x) e3) = J at hq hJ
      generalize mtE (mtR e1 e3 x) e3 = E at hq r1 r3 hz
      generalize mtR e1 e3 x = D at hq r3 hJ
      generalize crec d1 d6 x = C at hc r1 r2 r3
      obtain ⟨j1, j2, j3, j4, j5, j6, j7, j8⟩ := hJ
      rcases RB_cases r1 with ⟨c, ⟨n0, hn0, hr0⟩, hg⟩ | ⟨c, hr0, hg, hm0⟩
      · have c' : C.1 = true := c
        have n00 : n0 = 0 := by omega
        subst n00
        obtain ⟨g1, g2, g3, g4, g5, g6, g7⟩ := r3 c'
        have hn : C.2.1.1 = E.1 := hr0.2.2.2.1
        have hsum : sumF (cEx C.2.1.1 d9).1 5 0 (nI 0) = nI 0 ↔ anyF (faultsF E.1 e4.1) 5 1 = false := by
          rw [cEx_f, hn]
          exact sum_any
        by_cases ha : anyF (faultsF E.1 e4.1) 5 1 = true
        · have hns : ¬ sumF (cEx C.2.1.1 d9).1 5 0 (nI 0) = nI 0 := fun z => by
            rw [hsum.mp z] at ha
            cases ha
          refine ⟨4, none, C.2.1, d4, C.2.2.1, cEx C.2.1.1 d9, ⟨⟨by omega, by decide⟩, fun z => by omega⟩, fun X nx ok Q R => ?_, fun X nx ok Q R => ?_⟩
          · rw [hc, if_pos c0, if_neg hbad', if_pos c', if_neg hns]
            exact Iff.rfl
          · obtain ⟨fd, hq'⟩ := hq X nx ok Q R
            rw [if_pos c0, if_neg hbad, if_pos hg, if_pos ha] at hq'
            exact ⟨_, E, e2, J, _, hq', rfl, ⟨fun z => by omega, vT_v (by decide +kernel)⟩, hr0, jnW_t r2 j1 j2, ho, 0, by omega, hz, fun z => by omega⟩
        · have haf : anyF (faultsF E.1 e4.1) 5 1 = false := by simpa using ha
          obtain ⟨l1, l2⟩ := GI_load (d4 := d4) (e2 := e2) hn ho (any_0 haf)
          have hrm : RDg (cMnt C.2.1) (rMnt E) 0 := by
            obtain ⟨h1, h2, h3, h4, h5, h6, h7, h8, h9, h10⟩ := hr0
            exact ⟨h1, h2, h3, h4, h5, h6, h7, h8, h9, rfl⟩
          have hjr : jnR C.2.2.1 (mtL J) D.2.2.1 0 := by
            refine ⟨g3, j5, g2, g4, j6, by omega, g5.trans j7.symm, r2.1.trans j3.symm, r2.2.trans j4.symm, ?_, ?_⟩
            · rw [g6, j8]
              exact ⟨fun b hb => by rw [fillF_mb hb]; exact lb_0 b, fun b _ => lb_0 b⟩
            · intro b hb z
              rw [j8, fillF_mb hb] at z
              cases z
          refine ⟨0, some (.int (nI C.2.2.2)), cMnt C.2.1, ldM C.2.1 d4, C.2.2.1, cEx C.2.1.1 d9, ⟨⟨by omega, by decide⟩, fun _ => vT_v (by decide +kernel)⟩, fun X nx ok Q R => ?_, fun X nx ok Q R => ?_⟩
          · rw [hc, if_pos c0, if_neg hbad', if_pos c', if_pos (hsum.mpr haf)]
            exact Iff.rfl
          · obtain ⟨fd, hq'⟩ := hq X nx ok Q R
            rw [if_pos c0, if_neg hbad, if_pos hg, if_neg ha] at hq'
            exact ⟨_, rMnt E, mtM E e2, mtL J, _, hq', rfl, ⟨fun z => by rw [g1], vT_v (by decide +kernel)⟩, hrm, jnR_W hjr, oEq_G l1, 1, by omega, rfl, fun _ => ⟨⟨_, _, hjr⟩, g7, l1, by omega⟩⟩
      · have c' : ¬ C.1 = true := fun z => by
          have z2 : C.1 = false := c
          rw [z2] at z
          cases z
        refine ⟨5, none, C.2.1, d4, C.2.2.1, d9, ⟨⟨by omega, by decide⟩, fun z => by omega⟩, fun X nx ok Q R => ?_, fun X nx ok Q R => ?_⟩
        · rw [hc, if_pos c0, if_neg hbad', if_neg c']
          exact Iff.rfl
        · obtain ⟨fd, hq'⟩ := hq X nx ok Q R
          rw [if_pos c0, if_neg hbad, if_neg hg] at hq'
          exact ⟨_, E, e2, J, _, hq', rfl, ⟨fun z => by omega, vT_v (by decide +kernel)⟩, hr0, jnW_t r2 j1 j2, ho, 0, by omega, hz, fun z => by omega⟩
  · refine ⟨2, none, d1, d4, d6, d9, ⟨⟨by omega, by decide⟩, fun z => by omega⟩, fun X nx ok Q R => ?_, fun X nx ok Q R => ?_⟩
    · rw [hc, if_neg c0]
      exact Iff.rfl
    · obtain ⟨fd, hq'⟩ := hq X nx ok Q R
      rw [if_neg c0] at hq'
      exact ⟨_, rLive e1, e2, e3, _, hq', rfl, ⟨fun z => by omega, vT_v (by decide +kernel)⟩, hs0⟩
end RUN
