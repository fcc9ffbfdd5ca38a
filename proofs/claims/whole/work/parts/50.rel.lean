/-! CLASS AND REFERENCE: THE DEVICE -/
theorem cpy_agree {f g h h' : Nat → Int32} {a a' b n : Nat} (hh : h = h') (hf : ∀ i, i < n → f (a + i) = g (a' + i)) : va_cpy f h a b n = va_cpy g h' a' b n := by
  subst hh
  funext q
  by_cases c : b ≤ q ∧ q < b + n
  · rw [pk_cpy_in c.1 c.2, pk_cpy_in c.1 c.2]
    exact hf (q - b) (by omega)
  · rw [pk_cpy_out (by omega), pk_cpy_out (by omega)]
theorem lateF_congr {k : Int32} {B B' D D' : Nat → Int32} : ∀ n g, (∀ w, w < n → B w = B' w) → (∀ q, q < 8 * n → D q = D' q) → lateF k B D n g = lateF k B' D' n g := by
  intro n
  induction n with
  | zero => intro g _ _; rfl
  | succ n ih =>
    intro g hB hD
    have h1 := ih g (fun w hw => hB w (by omega)) (fun q hq => hD q (by omega))
    show (if ib k (n % 31) = true then va_cpy D (lateF k B D n g) (8 * n) (8 * (B n).toNatClampNeg) 8 else lateF k B D n g) = (if ib k (n % 31) = true then va_cpy D' (lateF k B' D' n g) (8 * n) (8 * (B' n).toNatClampNeg) 8 else lateF k B' D' n g)
    rw [h1, hB n (by omega)]
    by_cases c : ib k (n % 31) = true
    · rw [if_pos c, if_pos c]
      exact cpy_agree rfl (fun i hi => hD (8 * n + i) (by omega))
    · rw [if_neg c, if_neg c]
theorem lateF_out {k : Int32} {B D : Nat → Int32} {q : Nat} (hq : 384 ≤ q) : ∀ n g, (∀ w, w < n → ∃ c, c < 48 ∧ B w = nI c) → lateF k B D n g q = g q := by
  intro n
  induction n with
  | zero => intro g _; rfl
  | succ n ih =>
    intro g hB
    have h1 := ih g (fun w hw => hB w (by omega))
    obtain ⟨c, hc, hce⟩ := hB n (by omega)
    show (if ib k (n % 31) = true then va_cpy D (lateF k B D n g) (8 * n) (8 * (B n).toNatClampNeg) 8 else lateF k B D n g) q = g q
    by_cases z : ib k (n % 31) = true
    · rw [if_pos z, hce, nI_clamp (by omega), pk_cpy_out (by omega)]
      exact h1
    · rw [if_neg z]
      exact h1
/-- the two devices agree, with n writes that are late -/
def RDg (d : cS1) (e : rS1) (n : Nat) : Prop :=
  e.2.2.2.2.2.2.2.2.1 = nI n ∧ d.2.2.1 = nI n ∧ (∀ w, w < n → ∃ c, c < 48 ∧ e.2.2.1 w = nI c) ∧ d.1 = e.1 ∧ d.2.1 = lateF e.2.2.2.2.2.2.2.1 e.2.2.1 e.2.2.2.1 n e.2.1 ∧
  d.2.2.2.1 = e.2.2.2.2.2.2.2.2.2.1 ∧ d.2.2.2.2.1 = e.2.2.2.2.2.2.2.2.2.2 ∧ d.2.2.2.2.2.1 = e.2.2.2.2.2.2.1 ∧ d.2.2.2.2.2.2.1 = e.2.2.2.2.2.2.2.1 ∧ d.2.2.2.2.2.2.2 = e.2.2.2.2.1
/-- as long as power holds; then both are dead -/
def RB (p : Bool × cS1) (e : rS1) (k : Nat) : Prop := if p.1 = true then (∃ n, n ≤ k ∧ RDg p.2 e n) ∧ e.2.2.2.2.2.1 = nI 0 else RDg p.2 e 0 ∧ ¬ e.2.2.2.2.2.1 = nI 0 ∧ p.2.2.2.2.2.2.2.2 = nI 0
theorem RB_le {p : Bool × cS1} {e : rS1} {k l : Nat} (h : RB p e k) (hk : k ≤ l) : RB p e l := by
  unfold RB at h ⊢
  by_cases c : p.1 = true
  · rw [if_pos c] at h ⊢
    obtain ⟨⟨n, h1, h2⟩, h3⟩ := h
    exact ⟨⟨n, by omega, h2⟩, h3⟩
  · rw [if_neg c] at h ⊢
    exact h
theorem RB_alive {d : cS1} {e : rS1} {n : Nat} (h : RDg d e n) (hg : e.2.2.2.2.2.1 = nI 0) : RB (true, d) e n := by
  unfold RB
  rw [if_pos rfl]
  exact ⟨⟨n, Nat.le_refl n, h⟩, hg⟩
theorem RDg_die {d : cS1} {e : rS1} {n : Nat} (h : RDg d e n) (hn : n < 100) : RDg (dDie d) (rDie e) 0 := by
  obtain ⟨h1, h2, h3, h4, h5, h6, h7, h8, h9, h10⟩ := h
  have hc : e.2.2.2.2.2.2.2.2.1.toNatClampNeg = n := by rw [h1]; exact nI_clamp (by omega)
  refine ⟨rfl, rfl, fun w hw => absurd hw (Nat.not_lt_zero w), ?_, ?_, h6, h7, rfl, h9, rfl⟩
  · show va_cpy d.2.1 d.1 0 0 384 = va_cpy (lateF e.2.2.2.2.2.2.2.1 e.2.2.1 e.2.2.2.1 e.2.2.2.2.2.2.2.2.1.toNatClampNeg e.2.1) e.1 0 0 384
    rw [hc, h4, h5]
  · show d.2.1 = lateF e.2.2.2.2.2.2.2.1 e.2.2.1 e.2.2.2.1 0 (lateF e.2.2.2.2.2.2.2.1 e.2.2.1 e.2.2.2.1 e.2.2.2.2.2.2.2.2.1.toNatClampNeg e.2.1)
    rw [hc, h5]
    rfl
theorem RDg_sp {d : cS1} {e : rS1} {n : Nat} (h : RDg d e n) : RDg (dSp d) (rSp e) n ∧ (rSp e).2.2.2.2.2.1 = e.2.2.2.2.2.1 := by
  obtain ⟨h1, h2, h3, h4, h5, h6, h7, h8, h9, h10⟩ := h
  unfold dSp rSp
  have e0 : (0 : Int32) = nI 0 := rfl
  rw [h8, e0]
  by_cases c : nI 0 < e.2.2.2.2.2.2.1
  · rw [if_pos c, if_pos c]
    exact ⟨⟨h1, h2, h3, h4, h5, h6, h7, rfl, h9, h10⟩, rfl⟩
  · rw [if_neg c, if_neg c]
    exact ⟨⟨h1, h2, h3, h4, h5, h6, h7, h8, h9, h10⟩, rfl⟩
theorem dLost_b {d : cS1} {n : Nat} (h : d.2.2.1 = nI n) (hn : n < 100) : (dLost d = true) ↔ ib d.2.2.2.2.2.2.1 (n % 31) = false := by
  unfold dLost
  rw [h, decide_eq_true_eq, show (31 : Int32) = nI 31 from rfl, show (1 : Int32) = nI 1 from rfl, show (0 : Int32) = nI 0 from rfl]
  have e : nI n - nI n / nI 31 * nI 31 = nI (n % 31) := pk_rem (by omega) (by decide) (by decide)
  rw [e, nI_ubit (by omega), nI_b0]
theorem RB_put {d : cS1} {e : rS1} {n b a a' : Nat} {f g : Nat → Int32} (h : RDg d e n) (hg : e.2.2.2.2.2.1 = nI 0) (hn : n < 100) (hb : b < 48) (hf : ∀ i, i < 8 → f (a + i) = g (a' + i)) : RB (putF b a f d) (rPut b a' g e) (n + 1) := by
  have hfuse : d.2.2.2.2.2.1 = e.2.2.2.2.2.2.1 := h.2.2.2.2.2.2.2.1
  unfold putF rPut rHap
  rw [if_pos hg, hfuse, show (0 : Int32) = nI 0 from rfl]
  by_cases c : e.2.2.2.2.2.2.1 = nI 0
  · rw [if_pos c, if_pos c]
    unfold RB
    rw [if_neg (fun q => by cases q)]
    exact ⟨RDg_die h hn, (by show ¬ nI 1 = nI 0; decide), rfl⟩
  · rw [if_neg c, if_neg c]
    obtain ⟨hs, hgs⟩ := RDg_sp h
    obtain ⟨h1, h2, h3, h4, h5, h6, h7, h8, h9, h10⟩ := hs
    have hcl : (rSp e).2.2.2.2.2.2.2.2.1.toNatClampNeg = n := by rw [h1]; exact nI_clamp (by omega)
    refine RB_alive (n := n + 1) ⟨?_, ?_, ?_, ?_, ?_, ?_, h7, h8, h9, h10⟩ (hgs.trans hg)
    · show (rSp e).2.2.2.2.2.2.2.2.1 + nI 1 = nI (n + 1)
      rw [h1]
      exact nI_1 n
    · show (dSp d).2.2.1 + 1 = nI (n + 1)
      rw [h2]
      exact nI_1 n
    · intro w hw
      show ∃ c, c < 48 ∧ upd (rSp e).2.2.1 (rSp e).2.2.2.2.2.2.2.2.1.toNatClampNeg (nI b) w = nI c
      rw [hcl]
      by_cases hwn : w = n
      · subst hwn
        exact ⟨b, hb, pk_us⟩
      · rw [pk_un hwn]
        exact h3 w (by omega)
    · show va_cpy f (dSp d).1 a (8 * b) 8 = va_cpy g (rSp e).1 a' (8 * b) 8
      exact cpy_agree h4 hf
    · show (if dLost (dSp d) = true then (dSp d).2.1 else va_cpy f (dSp d).2.1 a (8 * b) 8) = lateF (rSp e).2.2.2.2.2.2.2.1 (upd (rSp e).2.2.1 (rSp e).2.2.2.2.2.2.2.2.1.toNatClampNeg (nI b)) (va_cpy g (rSp e).2.2.2.1 a' (8 * (rSp e).2.2.2.2.2.2.2.2.1.toNatClampNeg) 8) (n + 1) (rSp e).2.1
      rw [hcl]
      have hlt : lateF (rSp e).2.2.2.2.2.2.2.1 (upd (rSp e).2.2.1 n (nI b)) (va_cpy g (rSp e).2.2.2.1 a' (8 * n) 8) n (rSp e).2.1 = (dSp d).2.1 := by
        rw [h5]
        exact lateF_congr n _ (fun w hw => pk_un (by omega)) (fun q hq => pk_cpy_out (by omega))
      show _ = (if ib (rSp e).2.2.2.2.2.2.2.1 (n % 31) = true then va_cpy (va_cpy g (rSp e).2.2.2.1 a' (8 * n) 8) (lateF (rSp e).2.2.2.2.2.2.2.1 (upd (rSp e).2.2.1 n (nI b)) (va_cpy g (rSp e).2.2.2.1 a' (8 * n) 8) n (rSp e).2.1) (8 * n) (8 * (upd (rSp e).2.2.1 n (nI b) n).toNatClampNeg) 8 else lateF (rSp e).2.2.2.2.2.2.2.1 (upd (rSp e).2.2.1 n (nI b)) (va_cpy g (rSp e).2.2.2.1 a' (8 * n) 8) n (rSp e).2.1)
      rw [hlt, pk_us, nI_clamp (by omega)]
      have hl := dLost_b h2 hn
      rw [h9] at hl
      by_cases q : ib (rSp e).2.2.2.2.2.2.2.1 (n % 31) = true
      · rw [if_pos q, if_neg (fun z => by rw [hl.mp z] at q; cases q)]
        refine cpy_agree rfl (fun i hi => ?_)
        rw [pk_cpy_in (by omega) (by omega), hf i hi]
        congr 1
        omega
      · rw [if_neg q, if_pos (hl.mpr (by simpa using q))]
    · show (dSp d).2.2.2.1 + 1 = (rSp e).2.2.2.2.2.2.2.2.2.1 + nI 1
      rw [h6]
      rfl
theorem RB_fl {d : cS1} {e : rS1} {n : Nat} (h : RDg d e n) (hg : e.2.2.2.2.2.1 = nI 0) (hn : n < 100) : RB (flF d) (rFl e) 0 := by
  have hfuse : d.2.2.2.2.2.1 = e.2.2.2.2.2.2.1 := h.2.2.2.2.2.2.2.1
  unfold flF rFl rHap
  rw [if_pos hg, hfuse, show (0 : Int32) = nI 0 from rfl]
  by_cases c : e.2.2.2.2.2.2.1 = nI 0
  · rw [if_pos c, if_pos c]
    unfold RB
    rw [if_neg (fun q => by cases q)]
    exact ⟨RDg_die h hn, (by show ¬ nI 1 = nI 0; decide), rfl⟩
  · rw [if_neg c, if_neg c]
    obtain ⟨hs, hgs⟩ := RDg_sp h
    obtain ⟨h1, h2, h3, h4, h5, h6, h7, h8, h9, h10⟩ := hs
    refine RB_alive (n := 0) ⟨rfl, rfl, fun w hw => absurd hw (Nat.not_lt_zero w), h4, ?_, h6, ?_, h8, h9, h10⟩ (hgs.trans hg)
    · show va_cpy (dSp d).1 (dSp d).2.1 0 0 384 = va_cpy (rSp e).1 (rSp e).2.1 0 0 384
      rw [h4, h5]
      funext q
      by_cases c2 : q < 384
      · rw [pk_cpy_in (by omega) (by omega), pk_cpy_in (by omega) (by omega)]
      · rw [pk_cpy_out (by omega), pk_cpy_out (by omega)]
        exact lateF_out (by omega) n _ h3
    · show (dSp d).2.2.2.2.1 + 1 = (rSp e).2.2.2.2.2.2.2.2.2.2 + nI 1
      rw [h7]
      rfl
theorem RB_then {p : Bool × cS1} {e : rS1} {k l : Nat} {g : cS1 → Bool × cS1} {h : rS1 → rS1} (hp : RB p e k) (hg : ∀ d n, n ≤ k → RDg d e n → e.2.2.2.2.2.1 = nI 0 → RB (g d) (h e) l) (hd : ¬ e.2.2.2.2.2.1 = nI 0 → h e = e) : RB (thenF p g) (h e) l := by
  unfold thenF
  by_cases c : p.1 = true
  · rw [if_pos c]
    unfold RB at hp
    rw [if_pos c] at hp
    obtain ⟨⟨n, h1, h2⟩, h3⟩ := hp
    exact hg p.2 n h1 h2 h3
  · rw [if_neg c]
    have hp2 := hp
    unfold RB at hp
    rw [if_neg c] at hp
    rw [hd hp.2.1]
    unfold RB
    rw [if_neg c]
    exact hp
theorem rputsF_gone {P : Nat → Bool} {f : Nat → Int32} : ∀ m b e, ¬ e.2.2.2.2.2.1 = nI 0 → rputsF P f m b e = e := by
  intro m
  induction m with
  | zero => intro b e _; rfl
  | succ m ih =>
    intro b e h
    show rputsF P f m (b + 1) (if P b = true then rPut b (8 * b) f e else e) = e
    rw [rPut_gone h]
    have e2 : (if P b = true then e else e) = e := by split <;> rfl
    rw [e2]
    exact ih (b + 1) e h
theorem putsF_s {u : Int64} {f : Nat → Int32} {m b : Nat} {d : cS1} : putsF u f (m + 1) b d = (if lb u b = true then thenF (putF b (8 * b) f d) (putsF u f m (b + 1)) else putsF u f m (b + 1) d) := by
  show (if lb u b = true then (if d.2.2.2.2.2.1 = 0 then (false, dDie d) else putsF u f m (b + 1) (dPut (dSp d) b (8 * b) f)) else putsF u f m (b + 1) d) = _
  unfold thenF putF
  by_cases c : d.2.2.2.2.2.1 = 0
  · simp only [c, if_true, Bool.false_eq_true, if_false]
  · simp only [c, if_true, if_false]
theorem RB_puts {u : Int64} {f g : Nat → Int32} {P : Nat → Bool} (hP : ∀ b, b < 48 → lb u b = P b) (hf : ∀ b, b < 48 → P b = true → ∀ i, i < 8 → f (8 * b + i) = g (8 * b + i)) : ∀ m b d e n, b + m = 48 → RDg d e n → e.2.2.2.2.2.1 = nI 0 → n + m < 100 → RB (putsF u f m b d) (rputsF P g m b e) (n + m) := by
  intro m
  induction m with
  | zero => intro b d e n _ h hg _; exact RB_alive h hg
  | succ m ih =>
    intro b d e n hb h hg hn
    rw [putsF_s, hP b (by omega)]
    show RB _ (rputsF P g m (b + 1) (if P b = true then rPut b (8 * b) g e else e)) (n + (m + 1))
    by_cases c : P b = true
    · rw [if_pos c, if_pos c]
      refine RB_then (h := rputsF P g m (b + 1)) (RB_put h hg (by omega) (by omega) (hf b (by omega) c)) (fun d' n' h1 h2 h3 => ?_) (rputsF_gone m (b + 1) _)
      exact RB_le (ih (b + 1) d' _ n' (by omega) h2 h3 (by omega)) (by omega)
    · rw [if_neg c, if_neg c]
      exact RB_le (ih (b + 1) d e n (by omega) h hg (by omega)) (by omega)
