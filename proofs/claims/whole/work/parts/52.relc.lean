theorem hd_or : ∀ a, a < 48 → ∀ b, b < 48 → nI a + nI (b * 64) = (nI a ||| nI b <<< (nI 6 &&& nI 31)) := by decide +kernel
theorem hd_or0 : ∀ b, b < 48 → nI 0 + nI b = (nI 0 ||| nI b <<< (nI 0 &&& nI 31)) := by decide +kernel
/-- the header's slots from the k-th number on -/
def slotI (f : Nat → Int32) (k : Nat) : Prop := (k % 2 = 0 → f (3 + k / 2) = nI 0) ∧ (k % 2 = 1 → ∃ b, b < 48 ∧ f (3 + k / 2) = nI b) ∧ ∀ j, k / 2 < j → j < 4 → f (3 + j) = nI 0
theorem rhdF_none {P : Nat → Bool} : ∀ m b k g, (∀ i, b ≤ i → i < b + m → P i = false) → rhdF P m b k g = g := by
  intro m
  induction m with
  | zero => intro b k g _; rfl
  | succ m ih =>
    intro b k g h
    show (if P b = true then _ else rhdF P m (b + 1) k g) = g
    rw [h b (by omega) (by omega), if_neg (by decide)]
    exact ih (b + 1) k g (fun i h1 h2 => h i (by omega) (by omega))
theorem hd_agree {u : Int64} {P : Nat → Bool} (hP : ∀ b, b < 48 → lb u b = P b) : ∀ m b k f g, b + m = 48 → (∀ i, i < 8 → f i = g i) → slotI f k → cntF P m b k ≤ 6 → ∀ i, i < 8 → hdF u m b k f i = rhdF P m b k g i := by
  intro m
  induction m with
  | zero => intro b k f g _ h _ _; exact h
  | succ m ih =>
    intro b k f g hb h hs hc
    have hge := cntF_ge (P := P) (m + 1) b k
    by_cases h6 : k < 6
    · have e1 : hdF u (m + 1) b k f = (if lb u b = true then hdF u m (b + 1) (k + 1) (upd f (3 + k / 2) (f (3 + k / 2) + (if k % 2 = 0 then nI b else nI (b * 64)))) else hdF u m (b + 1) k f) := by
        show (if k < 6 then _ else f) = _
        rw [if_pos h6]
      have e2 : rhdF P (m + 1) b k g = (if P b = true then rhdF P m (b + 1) (k + 1) (upd g (3 + k / 2) (g (3 + k / 2) ||| nI b <<< (nI (6 * (k % 2)) &&& nI 31))) else rhdF P m (b + 1) k g) := rfl
      have ec : cntF P (m + 1) b k = cntF P m (b + 1) (if P b = true then k + 1 else k) := rfl
      rw [ec] at hc
      rw [e1, e2, hP b (by omega)]
      by_cases c : P b = true
      · rw [if_pos c] at hc ⊢
        rw [if_pos c]
        have hval : f (3 + k / 2) + (if k % 2 = 0 then nI b else nI (b * 64)) = (g (3 + k / 2) ||| nI b <<< (nI (6 * (k % 2)) &&& nI 31)) := by
          rw [← h (3 + k / 2) (by omega)]
          by_cases z : k % 2 = 0
          · rw [if_pos z, hs.1 z, z]
            exact hd_or0 b (by omega)
          · obtain ⟨a, ha, hae⟩ := hs.2.1 (by omega)
            rw [if_neg z, hae, show k % 2 = 1 by omega]
            exact hd_or a ha b (by omega)
        refine ih (b + 1) (k + 1) _ _ (by omega) (fun i hi => ?_) ?_ hc
        · by_cases q : i = 3 + k / 2
          · subst q
            rw [pk_us, pk_us]
            exact hval
          · rw [pk_un q, pk_un q]
            exact h i hi
        · refine ⟨fun z => ?_, fun z => ?_, fun j hj1 hj2 => ?_⟩
          · rw [pk_un (by omega)]
            exact hs.2.2 (k + 1 - (k + 1) / 2) (by omega) (by omega) |> fun q => by
              have e : 3 + (k + 1 - (k + 1) / 2) = 3 + (k + 1) / 2 := by omega
              rw [e] at q
              exact q
          · have e : 3 + (k + 1) / 2 = 3 + k / 2 := by omega
            rw [e, pk_us, hs.1 (by omega), if_pos (show k % 2 = 0 by omega)]
            exact ⟨b, by omega, by rw [nI_add, Nat.zero_add]⟩
          · rw [pk_un (by omega)]
            exact hs.2.2 j (by omega) hj2
      · rw [if_neg c] at hc ⊢
        rw [if_neg c]
        exact ih (b + 1) k f g (by omega) h hs hc
    · have e1 : hdF u (m + 1) b k f = f := by
        show (if k < 6 then _ else f) = f
        rw [if_neg h6]
      have hk6 : k = 6 := by omega
      have hcc := cnt_c (P := P) (m + 1) b k
      have hz := (cnt_0 (P := P) (m + 1) b 0 (by omega)).2
      rw [e1, rhdF_none (m + 1) b k g hz]
      exact h
/-- the journal's device and journal -/
def RBJ (r : DJ) (e : rS1) (k : Nat) : Prop := RB (r.1, r.2.1) e k
theorem RBJ_bind {r : DJ} {e : rS1} {k l : Nat} {g : cS1 → cS6 → DJ} {h : rS1 → rS1} (hp : RBJ r e k) (hg : ∀ n, n ≤ k → RDg r.2.1 e n → e.2.2.2.2.2.1 = nI 0 → r.1 = true → RBJ (g r.2.1 r.2.2) (h e) l) (hd : ¬ e.2.2.2.2.2.1 = nI 0 → h e = e) : RBJ (bindF r g) (h e) l := by
  unfold bindF
  by_cases c : r.1 = true
  · rw [if_pos c]
    unfold RBJ RB at hp
    rw [if_pos c] at hp
    obtain ⟨⟨n, h1, h2⟩, h3⟩ := hp
    exact hg n h1 h2 h3 c
  · rw [if_neg c]
    unfold RBJ RB at hp ⊢
    rw [if_neg c] at hp ⊢
    rw [hd hp.2.1]
    exact hp
theorem rtrF_gone {P : Nat → Bool} {f : Nat → Int32} : ∀ m b a s e l, ¬ e.2.2.2.2.2.1 = nI 0 → (rtrF P f m b a s e l).1 = e := by
  intro m
  induction m with
  | zero => intro b a s e l _; rfl
  | succ m ih =>
    intro b a s e l h
    show (if P b = true then rtrF P f m (b + 1) ((a + 1) % 8) (smF f (8 * b) 8 s) (rPut (10 + (a + 1) % 8) (8 * b) f e) (va_cpy f l (8 * b) (8 * b) 8) else rtrF P f m (b + 1) a s e l).1 = e
    by_cases c : P b = true
    · rw [if_pos c, rPut_gone h]
      exact ih _ _ _ _ _ h
    · rw [if_neg c]
      exact ih _ _ _ _ _ h
theorem trF_s {u : Int64} {f : Nat → Int32} {ff m b k : Nat} {s : Int32} {d : cS1} {c : Nat → Int32} : trF u f ff (m + 1) b k s d c = (if lb u b = true then (if (putF (10 + (ff + k) % 8) (8 * b) f d).1 = true then trF u f ff m (b + 1) (k + 1) (smF f (8 * b) 8 s) (putF (10 + (ff + k) % 8) (8 * b) f d).2 (va_cpy f c (8 * b) (8 * b) 8) else (false, (putF (10 + (ff + k) % 8) (8 * b) f d).2, c, k, s)) else trF u f ff m (b + 1) k s d c) := rfl
theorem rtrF_s {P : Nat → Bool} {f : Nat → Int32} {m b a : Nat} {s : Int32} {e : rS1} {l : Nat → Int32} : rtrF P f (m + 1) b a s e l = (if P b = true then rtrF P f m (b + 1) ((a + 1) % 8) (smF f (8 * b) 8 s) (rPut (10 + (a + 1) % 8) (8 * b) f e) (va_cpy f l (8 * b) (8 * b) 8) else rtrF P f m (b + 1) a s e l) := rfl
theorem RB_tr {u : Int64} {P : Nat → Bool} {f : Nat → Int32} {x : Nat} (hP : ∀ b, b < 48 → lb u b = P b) : ∀ m b k s d c e l a n (A : Nat → Bool), b + m = 48 → 1 ≤ k → a = (x + (k - 1)) % 8 → RDg d e n → e.2.2.2.2.2.1 = nI 0 → n + m < 100 → (∀ b', b' < 48 → A b' = true → ∀ i, i < 8 → c (8 * b' + i) = l (8 * b' + i)) →
    RB ((trF u f x m b k s d c).1, (trF u f x m b k s d c).2.1) (rtrF P f m b a s e l).1 (n + m) ∧ k1 e (rtrF P f m b a s e l).1 ∧
    ((trF u f x m b k s d c).1 = true → (trF u f x m b k s d c).2.2.2.2 = (rtrF P f m b a s e l).2.2.2 ∧ (rtrF P f m b a s e l).2.2.1 = (x + ((trF u f x m b k s d c).2.2.2.1 - 1)) % 8 ∧ (trF u f x m b k s d c).2.2.2.1 = cntF P m b k ∧
      ∀ b', b' < 48 → (A b' || (decide (b ≤ b') && P b')) = true → ∀ i, i < 8 → (trF u f x m b k s d c).2.2.1 (8 * b' + i) = (rtrF P f m b a s e l).2.1 (8 * b' + i)) := by
  intro m
  induction m with
  | zero =>
    intro b k s d c e l a n A hb hk ha hr hg hn hA
    refine ⟨RB_alive hr hg, k1_rf e, fun _ => ⟨rfl, ha, rfl, fun b' hb' h i hi => ?_⟩⟩
    have hA' : A b' = true := by
      have : decide (b ≤ b') = false := decide_eq_false (by omega)
      rw [this, Bool.false_and, Bool.or_false] at h
      exact h
    exact hA b' hb' hA' i hi
  | succ m ih =>
    intro b k s d c e l a n A hb hk ha hr hg hn hA
    have ec : cntF P (m + 1) b k = cntF P m (b + 1) (if P b = true then k + 1 else k) := rfl
    rw [trF_s, rtrF_s, hP b (by omega), ec]
    have eplace : (x + k) % 8 = (a + 1) % 8 := by omega
    by_cases z : P b = true
    · simp only [z, if_true]
      have hput := RB_put (b := 10 + (a + 1) % 8) (a := 8 * b) (a' := 8 * b) (f := f) (g := f) hr hg (by omega) (by omega) (fun i _ => rfl)
      rw [eplace]
      by_cases w : (putF (10 + (a + 1) % 8) (8 * b) f d).1 = true
      · simp only [w, if_true]
        have hp2 := hput
        unfold RB at hp2
        rw [if_pos w] at hp2
        obtain ⟨⟨n', hn', hr'⟩, hg'⟩ := hp2
        have h9 := ih (b + 1) (k + 1) (smF f (8 * b) 8 s) (putF (10 + (a + 1) % 8) (8 * b) f d).2 (va_cpy f c (8 * b) (8 * b) 8) (rPut (10 + (a + 1) % 8) (8 * b) f e) (va_cpy f l (8 * b) (8 * b) 8) ((a + 1) % 8) n' (fun b' => A b' || decide (b' = b)) (by omega) (by omega) (by omega) hr' hg' (by omega) (by
          intro b' hb' hA' i hi
          by_cases q : b' = b
          · subst q
            rw [pk_cpy_in (by omega) (by omega), pk_cpy_in (by omega) (by omega)]
          · rw [pk_cpy_out (by omega), pk_cpy_out (by omega)]
            have : A b' = true := by simpa [q] using hA'
            exact hA b' hb' this i hi)
        obtain ⟨g1, g2, g3⟩ := h9
        refine ⟨RB_le g1 (by omega), k1_tr (k1_put (by omega)) g2, fun q => ?_⟩
        obtain ⟨q1, q2, q3, q4⟩ := g3 q
        refine ⟨q1, q2, q3, fun b' hb' h i hi => q4 b' hb' ?_ i hi⟩
        by_cases e1 : b' = b
        · simp [e1]
        · by_cases e2 : A b' = true
          · simp [e2]
          · have e2f : A b' = false := by simpa using e2
            rw [e2f, Bool.false_or] at h
            simp only [Bool.and_eq_true, decide_eq_true_eq] at h
            have : b + 1 ≤ b' := by omega
            simp [this, h.2]
      · have wf : (putF (10 + (a + 1) % 8) (8 * b) f d).1 = false := by simpa using w
        simp only [w, if_false, Bool.false_eq_true]
        have hp2 := hput
        unfold RB at hp2
        rw [if_neg w] at hp2
        rw [rtrF_gone _ _ _ _ _ _ hp2.2.1]
        refine ⟨?_, k1_put (by omega), fun q => absurd q (by decide)⟩
        unfold RB
        rw [if_neg (fun q => Bool.false_ne_true q)]
        exact hp2
    · have zf : P b = false := by simpa using z
      simp only [zf, Bool.false_eq_true, if_false]
      obtain ⟨g1, g2, g3⟩ := ih (b + 1) k s d c e l a n A (by omega) hk ha hr hg (by omega) hA
      refine ⟨RB_le g1 (by omega), g2, fun q => ?_⟩
      obtain ⟨q1, q2, q3, q4⟩ := g3 q
      refine ⟨q1, q2, q3, fun b' hb' h i hi => q4 b' hb' ?_ i hi⟩
      by_cases e2 : A b' = true
      · simp [e2]
      · have e2f : A b' = false := by simpa using e2
        rw [e2f, Bool.false_or] at h
        simp only [Bool.and_eq_true, decide_eq_true_eq] at h
        have : ¬ b' = b := fun q => by rw [q, zf] at h; cases h.2
        have : b + 1 ≤ b' := by omega
        simp [this, h.2]
