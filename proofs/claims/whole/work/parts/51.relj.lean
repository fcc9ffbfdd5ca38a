/-! CLASS AND REFERENCE: THE JOURNAL -/
/-- a set as a long and as an array of booleans -/
def setR (u : Int64) (g : Nat → Int32) : Prop := (∀ b, b < 48 → lb u b = mb g b) ∧ ∀ b, 48 ≤ b → lb u b = false
/-- the two journals agree -/
def jnR (j : cS6) (k : rS3) (x u : Nat) : Prop :=
  j.2.2.2.1 = nI x ∧ k.2.2.2.1 = nI x ∧ x < 8 ∧ j.2.2.2.2.1 = nI u ∧ k.2.2.2.2.1 = nI u ∧ u ≤ 8 ∧ j.2.2.2.2.2.1 = k.2.2.1 ∧ j.2.2.2.2.2.2.1 = k.2.2.2.2.2.1 ∧ j.2.2.2.2.2.2.2 = k.2.2.2.2.2.2.1 ∧
  setR j.2.2.1 k.2.1 ∧ (∀ b, b < 48 → mb k.2.1 b = true → 1 ≤ b ∧ ∀ i, i < 8 → j.1 (8 * b + i) = k.1 (8 * b + i))
/-- what agrees of the journals when it is not mounted -/
def jnW (j : cS6) (k : rS3) : Prop := j.2.2.2.2.2.2.1 = k.2.2.2.2.2.1 ∧ j.2.2.2.2.2.2.2 = k.2.2.2.2.2.2.1
theorem jnR_W {j : cS6} {k : rS3} {x u : Nat} (h : jnR j k x u) : jnW j k := ⟨h.2.2.2.2.2.2.2.1, h.2.2.2.2.2.2.2.2.1⟩
theorem set_0 {u : Int64} {g : Nat → Int32} (h : setR u g) : (u = 0) ↔ cntF (mb g) 48 0 0 = 0 := by
  constructor
  · intro h0
    have : ∀ m k, k + m = 48 → cntF (mb g) m k 0 = 0 := by
      intro m
      induction m with
      | zero => intro k _; rfl
      | succ m ih =>
        intro k hk
        have hm : mb g k = false := by rw [← h.1 k (by omega), h0, lb_0]
        show cntF (mb g) m (k + 1) (if mb g k = true then 0 + 1 else 0) = 0
        rw [hm, if_neg (by decide)]
        exact ih (k + 1) (by omega)
    exact this 48 0 rfl
  · intro hc
    have hz := (cnt_0 48 0 0 hc).2
    refine lb_ext fun i hi => ?_
    rw [lb_0]
    by_cases c : i < 48
    · rw [h.1 i c]
      exact hz i (Nat.zero_le i) (by omega)
    · exact h.2 i (by omega)
theorem rputsF_none {P : Nat → Bool} {f : Nat → Int32} : ∀ m b e, (∀ i, b ≤ i → i < b + m → P i = false) → rputsF P f m b e = e := by
  intro m
  induction m with
  | zero => intro b e _; rfl
  | succ m ih =>
    intro b e h
    show rputsF P f m (b + 1) (if P b = true then rPut b (8 * b) f e else e) = e
    rw [h b (by omega) (by omega), if_neg (by decide)]
    exact ih (b + 1) e (fun i h1 h2 => h i (by omega) (by omega))
theorem rputsF_add {P : Nat → Bool} {f : Nat → Int32} : ∀ m n b e, rputsF P f (m + n) b e = rputsF P f n (b + m) (rputsF P f m b e) := by
  intro m
  induction m with
  | zero =>
    intro n b e
    rw [Nat.zero_add]
    rfl
  | succ m ih =>
    intro n b e
    rw [show m + 1 + n = (m + n) + 1 by omega]
    show rputsF P f (m + n) (b + 1) _ = rputsF P f n (b + (m + 1)) (rputsF P f m (b + 1) _)
    rw [ih n (b + 1), show b + 1 + m = b + (m + 1) by omega]
/-- int 1 of the device, while power holds, is as it was -/
def k1 (e e' : rS1) : Prop := e'.2.2.2.2.2.1 = nI 0 → e.2.2.2.2.2.1 = nI 0 ∧ e'.1 1 = e.1 1
theorem k1_put {e : rS1} {b a : Nat} {f : Nat → Int32} (hb : 1 ≤ b) : k1 e (rPut b a f e) := by
  intro h
  obtain ⟨h1, h2⟩ := rPut_alive h
  refine ⟨h1, ?_⟩
  rw [h2]
  exact pk_cpy_out (by omega)
theorem rFl_alive {e : rS1} (h : (rFl e).2.2.2.2.2.1 = nI 0) : e.2.2.2.2.2.1 = nI 0 ∧ (rFl e).1 = e.1 := by
  unfold rFl rHap at h ⊢
  by_cases g : e.2.2.2.2.2.1 = nI 0
  · by_cases g2 : e.2.2.2.2.2.2.1 = nI 0
    · rw [if_pos g, if_pos g2] at h
      exact absurd (show nI 1 = nI 0 from h) (by decide)
    · rw [if_pos g, if_neg g2]
      refine ⟨g, ?_⟩
      show (rSp e).1 = e.1
      unfold rSp
      split <;> rfl
  · rw [if_neg g] at h
    exact absurd h g
theorem k1_fl {e : rS1} : k1 e (rFl e) := by
  intro h
  obtain ⟨h1, h2⟩ := rFl_alive h
  exact ⟨h1, by rw [h2]⟩
theorem k1_tr {a b c : rS1} (h1 : k1 a b) (h2 : k1 b c) : k1 a c := by
  intro h
  obtain ⟨g1, g2⟩ := h2 h
  obtain ⟨g3, g4⟩ := h1 g1
  exact ⟨g3, g2.trans g4⟩
theorem k1_rf (a : rS1) : k1 a a := fun h => ⟨h, rfl⟩
theorem k1_puts {P : Nat → Bool} {f : Nat → Int32} (h0 : P 0 = false) : ∀ m b e, k1 e (rputsF P f m b e) := by
  intro m
  induction m with
  | zero => intro b e; exact k1_rf e
  | succ m ih =>
    intro b e
    show k1 e (rputsF P f m (b + 1) (if P b = true then rPut b (8 * b) f e else e))
    refine k1_tr ?_ (ih (b + 1) _)
    by_cases c : P b = true
    · rw [if_pos c]
      by_cases z : b = 0
      · subst z
        rw [h0] at c
        cases c
      · exact k1_put (by omega)
    · rw [if_neg c]
      exact k1_rf e
theorem hb_agree {j : cS6} {k : rS3} {s : Int32} {x u : Nat} (h : jnR j k x u) : ∀ i, i < 8 → jFb j s (0 + i) = rHb k s (0 + i) := by
  obtain ⟨h1, h2, -, -, -, -, h7, -⟩ := h
  intro i hi
  unfold jFb rHb
  rw [h1, h2, h7]
  have hc : i = 0 ∨ i = 1 ∨ i = 2 ∨ i = 3 ∨ i = 4 ∨ i = 5 ∨ i = 6 ∨ i = 7 := by omega
  rcases hc with rfl | rfl | rfl | rfl | rfl | rfl | rfl | rfl <;> rfl
theorem ckptF_t {d : cS1} {j : cS6} : ((ckptF d j).1, (ckptF d j).2.1) = thenF (ckF j d) (firstF j 2) := by
  unfold ckptF thenF
  by_cases c : (ckF j d).1 = true
  · rw [if_pos c, if_pos c]
    by_cases c2 : (firstF j 2 (ckF j d).2).1 = true
    · rw [if_pos c2]
      exact Prod.ext c2.symm rfl
    · rw [if_neg c2]
      exact Prod.ext (by simpa using c2) rfl
  · rw [if_neg c, if_neg c]
    exact Prod.ext (by simpa using c) rfl
theorem fillF_mb {g : Nat → Int32} {b : Nat} (hb : b < 48) : mb (fillF 48 (nI 0) g) b = false := by
  rw [mb_f]
  exact fill_i hb
/-- a checkpoint -/
theorem R_ckpt {d : cS1} {e : rS1} {j : cS6} {k : rS3} {x u n : Nat} (hr : RDg d e n) (hg : e.2.2.2.2.2.1 = nI 0) (hn : n < 50) (hj : jnR j k x u) (h1 : e.1 1 = nI 2) :
    RB ((ckptF d j).1, (ckptF d j).2.1) (swE e k) 0 ∧ jnW (ckptF d j).2.2 (swJ e k) ∧ ((ckptF d j).1 = true → jnR (ckptF d j).2.2 (swJ e k) x 0 ∧ (swE e k).1 1 = nI 2) := by
  obtain ⟨j1, j2, j3, j4, j5, j6, j7, j8, j9, j10, j11⟩ := hj
  have hP0 : mb k.2.1 0 = false := by
    by_cases c : mb k.2.1 0 = true
    · have := (j11 0 (by omega) c).1
      omega
    · simpa using c
  have hA : RB (ckF j d) (swD e k) (n + 48) ∧ k1 e (swD e k) := by
    have hz := set_0 j10
    have hp := RB_puts (u := j.2.2.1) (f := j.1) (g := k.1) (P := mb k.2.1) j10.1 (fun b hb hm => (j11 b hb hm).2) 48 0 d e n (by omega) hr hg (by omega)
    unfold ckF swD
    by_cases c : j.2.2.1 = 0
    · have hc0 := hz.mp c
      have hnone := (cnt_0 48 0 0 hc0).2
      rw [if_pos c, if_neg (by omega), rputsF_none 48 0 e (fun i h1 h2 => hnone i (Nat.zero_le i) (by omega))]
      exact ⟨RB_le (RB_alive hr hg) (by omega), k1_rf e⟩
    · have hc0 : 0 < cntF (mb k.2.1) 48 0 0 := by
        have : ¬ cntF (mb k.2.1) 48 0 0 = 0 := fun q => c (hz.mpr q)
        omega
      rw [if_neg c, if_pos hc0]
      refine ⟨RB_le (RB_then (h := rFl) hp (fun d' n' h1 h2 h3 => RB_fl h2 h3 (by omega)) rFl_gone) (by omega), k1_tr (k1_puts hP0 48 0 e) k1_fl⟩
  obtain ⟨hA1, hA2⟩ := hA
  have hF : RB (thenF (ckF j d) (firstF j 2)) (swE e k) 0 ∧ ((thenF (ckF j d) (firstF j 2)).1 = true → (swE e k).1 1 = nI 2) := by
    unfold swE
    by_cases ga : (swD e k).2.2.2.2.2.1 = nI 0
    · have h1' : (swD e k).1 1 = nI 2 := (hA2 ga).2.trans h1
      rw [h1']
      have hR : RB (thenF (ckF j d) (firstF j 2)) (rFl (rPut 0 0 (rHb k (nI 2)) (swD e k))) 0 := by
        refine RB_then (h := fun e' => rFl (rPut 0 0 (rHb k (nI 2)) e')) hA1 (fun d' n' g1 g2 g3 => ?_) (fun q => absurd ga q)
        unfold firstF
        exact RB_then (h := rFl) (RB_put g2 g3 (by omega) (by omega) (hb_agree ⟨j1, j2, j3, j4, j5, j6, j7, j8, j9, j10, j11⟩)) (fun d'' n'' q1 q2 q3 => RB_fl q2 q3 (by omega)) rFl_gone
      refine ⟨hR, fun c => ?_⟩
      unfold RB at hR
      rw [if_pos c] at hR
      obtain ⟨q1, q2⟩ := rFl_alive hR.2
      rw [q2, (rPut_alive q1).2, pk_cpy_in (by omega) (by omega)]
      rfl
    · have hd := hA1
      unfold RB at hd
      have hf : ¬ (ckF j d).1 = true := by
        intro c
        rw [if_pos c] at hd
        exact ga hd.2
      rw [rPut_gone ga, rFl_gone ga]
      unfold thenF
      rw [if_neg hf]
      exact ⟨RB_le (l := 0) (by
        unfold RB
        rw [if_neg hf] at hd ⊢
        exact hd) (Nat.le_refl 0), fun c => absurd c hf⟩
  obtain ⟨hF1, hF2⟩ := hF
  rw [← ckptF_t] at hF1 hF2
  have hlive : ((ckptF d j).1 = true) ↔ (swE e k).2.2.2.2.2.1 = nI 0 := by
    unfold RB at hF1
    constructor
    · intro c
      rw [if_pos c] at hF1
      exact hF1.2
    · intro c
      by_cases q : (ckptF d j).1 = true
      · exact q
      · rw [if_neg q] at hF1
        exact absurd c hF1.2.1
  refine ⟨hF1, ?_, fun c => ⟨?_, hF2 c⟩⟩
  · by_cases c : (ckptF d j).1 = true
    · have hg2 := hlive.mp c
      unfold swJ
      rw [if_pos hg2]
      have ec : (ckptF d j).2.2 = ckJ j := by
        unfold ckptF at c ⊢
        by_cases c1 : (ckF j d).1 = true
        · rw [if_pos c1] at c ⊢
          by_cases c2 : (firstF j 2 (ckF j d).2).1 = true
          · rw [if_pos c2]
          · rw [if_neg c2] at c
            cases c
        · rw [if_neg c1] at c
          cases c
      rw [ec]
      exact ⟨j8, by show j.2.2.2.2.2.2.2 + 1 = k.2.2.2.2.2.2.1 + nI 1; rw [j9]; rfl⟩
    · have hg2 : ¬ (swE e k).2.2.2.2.2.1 = nI 0 := fun q => c (hlive.mpr q)
      unfold swJ
      rw [if_neg hg2]
      have ec : (ckptF d j).2.2.2.2.2.2.2.2.1 = j.2.2.2.2.2.2.1 ∧ (ckptF d j).2.2.2.2.2.2.2.2.2 = j.2.2.2.2.2.2.2 := by
        unfold ckptF at c ⊢
        by_cases c1 : (ckF j d).1 = true
        · rw [if_pos c1] at c ⊢
          by_cases c2 : (firstF j 2 (ckF j d).2).1 = true
          · rw [if_pos c2] at c
            exact absurd rfl c
          · rw [if_neg c2]
            exact ⟨rfl, rfl⟩
        · rw [if_neg c1]
          exact ⟨rfl, rfl⟩
      exact ⟨ec.1.trans j8, ec.2.trans j9⟩
  · have hg2 := hlive.mp c
    unfold swJ
    rw [if_pos hg2]
    have ec : (ckptF d j).2.2 = ckJ j := by
      unfold ckptF at c ⊢
      by_cases c1 : (ckF j d).1 = true
      · rw [if_pos c1] at c ⊢
        by_cases c2 : (firstF j 2 (ckF j d).2).1 = true
        · rw [if_pos c2]
        · rw [if_neg c2] at c
          cases c
      · rw [if_neg c1] at c
        cases c
    rw [ec]
    refine ⟨j1, j2, j3, rfl, rfl, Nat.zero_le 8, j7, j8, by show j.2.2.2.2.2.2.2 + 1 = k.2.2.2.2.2.2.1 + nI 1; rw [j9]; rfl, ⟨fun b hb => ?_, fun b hb => lb_0 b⟩, fun b hb hm => ?_⟩
    · show lb 0 b = mb (fillF 48 (nI 0) k.2.1) b
      rw [lb_0, fillF_mb hb]
    · have hm' : mb (fillF 48 (nI 0) k.2.1) b = true := hm
      rw [fillF_mb hb] at hm'
      cases hm'
