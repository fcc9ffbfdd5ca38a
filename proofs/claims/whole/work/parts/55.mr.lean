/-! CLASS AND REFERENCE: THE MEMORY -/
def MR (d : cS4) (e : rS2) : Prop := d.1 = e.1 ∧ setR d.2.1 e.2.1 ∧ setR d.2.2.1 e.2.2.1 ∧ setR d.2.2.2.1 e.2.2.2.1 ∧ ∃ s, s < 2 ∧ d.2.2.2.2 = nI s ∧ e.2.2.2.2 = nI s
/-- what the sets keep -/
def SI (e : rS2) : Prop := (∀ b, b < 48 → mb e.2.1 b = true → 1 ≤ b) ∧ (∀ b, b < 48 → mb e.2.2.1 b = true → 18 ≤ b) ∧ (∀ b, b < 48 → mb e.2.2.2.1 b = true → mb e.2.1 1 = true) ∧ (¬ e.2.2.2.2 = nI 0 → mb e.2.1 1 = true)
def nCh (e : rS2) : Nat := cntF (mb e.2.1) 48 0 0
theorem mb_1 {g : Nat → Int32} {a b : Nat} : mb (upd g a (nI 1)) b = (decide (b = a) || mb g b) := by
  unfold mb
  by_cases c : b = a
  · subst c
    rw [pk_us]
    simp
    decide
  · rw [pk_un c]
    simp [c]
theorem mb_z {g : Nat → Int32} {a b : Nat} : mb (upd g a (nI 0)) b = (!decide (b = a) && mb g b) := by
  unfold mb
  by_cases c : b = a
  · subst c
    rw [pk_us]
    simp
  · rw [pk_un c]
    simp [c]
theorem set_congr {u : Int64} {g g' : Nat → Int32} (h : setR u g) (he : ∀ b, b < 48 → mb g' b = mb g b) : setR u g' := ⟨fun b hb => by rw [he b hb]; exact h.1 b hb, h.2⟩
theorem set_set {u : Int64} {g : Nat → Int32} {a : Nat} (h : setR u g) (ha : a < 48) : setR (setL u a) (upd g a (nI 1)) := by
  refine ⟨fun b hb => ?_, fun b hb => ?_⟩
  · rw [lb_set (by omega), mb_1, h.1 b hb, Bool.or_comm]
  · rw [lb_set (by omega), h.2 b hb, decide_eq_false (by omega)]
    rfl
theorem set_clr {u : Int64} {g : Nat → Int32} {a : Nat} (h : setR u g) (ha : a < 48) : setR (clrL u a) (upd g a (nI 0)) := by
  refine ⟨fun b hb => ?_, fun b hb => ?_⟩
  · rw [lb_clr (by omega), mb_z, h.1 b hb, Bool.and_comm]
  · rw [lb_clr (by omega), h.2 b hb]
    rfl
theorem mb_idem {g : Nat → Int32} {a b : Nat} (h : mb g a = true) : mb (upd g a (nI 1)) b = mb g b := by
  rw [mb_1]
  by_cases c : b = a
  · subst c
    rw [h]
    simp
  · simp [c]
theorem set_idem {u : Int64} {g : Nat → Int32} {a : Nat} (h : setR u g) (hm : mb g a = true) : setR u (upd g a (nI 1)) := set_congr h (fun b _ => mb_idem hm)
theorem upd_swap {f : Nat → Int32} {a b : Nat} {v : Int32} : upd (upd f a v) b v = upd (upd f b v) a v := by
  funext x
  by_cases c : x = a
  · subst c
    by_cases q : x = b
    · subst q
      rfl
    · rw [pk_un q, pk_us, pk_us]
  · by_cases q : x = b
    · subst q
      rw [pk_us, pk_un c, pk_us]
    · rw [pk_un q, pk_un c, pk_un c, pk_un q]
theorem upd_comm {f : Nat → Int32} {a b : Nat} {v w : Int32} (h : ¬ a = b) : upd (upd f a v) b w = upd (upd f b w) a v := by
  funext x
  by_cases c : x = a
  · subst c
    rw [pk_un h, pk_us, pk_us]
  · by_cases q : x = b
    · subst q
      rw [pk_us, pk_un c, pk_us]
    · rw [pk_un q, pk_un c, pk_un c, pk_un q]
theorem chg_im {a : Nat} {v : Int32} {d : cS4} : (chg a v d).1 = upd d.1 a v := by
  unfold chg
  by_cases c : d.1 a = v
  · rw [if_pos c, upd_id c]
  · rw [if_neg c]
theorem chg_id {a : Nat} {v : Int32} {d : cS4} (h : d.1 a = v) : chg a v d = d := if_pos h
theorem chg_ne {a : Nat} {v : Int32} {d : cS4} (h : ¬ d.1 a = v) : chg a v d = (upd d.1 a v, setL d.2.1 (a / 8), d.2.2) := if_neg h
/-- an int becomes another one, and its block is touched -/
theorem MR_chg {d : cS4} {e : rS2} {a : Nat} {v : Int32} (h : MR d e) (ha : a < 384) (hne : ¬ e.1 a = v) : MR (chg a v d) (rPutE a v e) := by
  obtain ⟨h1, h2, h3, h4, h5⟩ := h
  rw [chg_ne (by rw [h1]; exact hne)]
  refine ⟨?_, set_set h2 (by omega), h3, h4, h5⟩
  show upd d.1 a v = upd e.1 a v
  rw [h1]
/-- an int of a block that was touched -/
theorem MR_chgS {d : cS4} {e : rS2} {a : Nat} {v : Int32} (h : MR d e) (ha : a < 384) (hm : mb e.2.1 (a / 8) = true) : MR (chg a v d) (upd e.1 a v, e.2) := by
  obtain ⟨h1, h2, h3, h4, h5⟩ := h
  by_cases c : d.1 a = v
  · rw [chg_id c]
    refine ⟨?_, h2, h3, h4, h5⟩
    show d.1 = upd e.1 a v
    rw [← h1, upd_id c]
  · rw [chg_ne c]
    refine ⟨?_, ?_, h3, h4, h5⟩
    · show upd d.1 a v = upd e.1 a v
      rw [h1]
    · exact set_congr (set_set h2 (by omega)) (fun b _ => (mb_idem hm).symm)
theorem MR_congr {d : cS4} {e e' : rS2} (h : MR d e) (h1 : e'.1 = e.1) (h2 : ∀ b, b < 48 → mb e'.2.1 b = mb e.2.1 b) (h3 : ∀ b, b < 48 → mb e'.2.2.1 b = mb e.2.2.1 b) (h4 : ∀ b, b < 48 → mb e'.2.2.2.1 b = mb e.2.2.2.1 b) (h5 : e'.2.2.2.2 = e.2.2.2.2) : MR d e' := by
  obtain ⟨g1, g2, g3, g4, g5⟩ := h
  exact ⟨by rw [h1]; exact g1, set_congr g2 h2, set_congr g3 h3, set_congr g4 h4, by rw [h5]; exact g5⟩
theorem or_bit_ne {u : Int32} {b : Nat} (hb : b < 32) (h : ib u b = false) : ¬ u = u ||| nI 1 <<< (nI b &&& nI 31) := by
  intro e
  have h2 : ib u b = ib (u ||| nI 1 <<< (nI b &&& nI 31)) b := congrArg (fun z => ib z b) e
  rw [ib_set hb, h] at h2
  simp at h2
theorem and_bit_ne {u : Int32} {b : Nat} (hb : b < 32) (h : ib u b = true) : ¬ u = u &&& ((nI 1 <<< (nI b &&& nI 31)) ^^^ (-nI 1)) := by
  intro e
  have h2 : ib u b = ib (u &&& ((nI 1 <<< (nI b &&& nI 31)) ^^^ (-1))) b := congrArg (fun z => ib z b) e
  rw [ib_clr hb, h] at h2
  simp at h2
/-- a free block is taken -/
theorem MR_tkC {d : cS4} {e : rS2} {b : Nat} (h : MR d e) (hb2 : b < 48) (hf : tkB e.1 b = false) : MR (tkC b d) (tkM e.1 b, upd e.2.1 1 (nI 1), e.2.2) := by
  have hI := h.1
  unfold tkB at hf
  have hne : ¬ e.1 (8 + b / 32) = e.1 (8 + b / 32) ||| nI 1 <<< (nI (b % 32) &&& nI 31) := or_bit_ne (by omega) hf
  have h1 := MR_chg h (a := 8 + b / 32) (by omega) hne
  obtain ⟨g1, g2, g3, g4, g5⟩ := h1
  unfold tkC zImg
  rw [hI]
  refine ⟨?_, ?_, g3, g4, g5⟩
  · show zerF (8 * b) 8 (chg (8 + b / 32) (e.1 (8 + b / 32) ||| nI 1 <<< (nI (b % 32) &&& nI 31)) d).1 = tkM e.1 b
    rw [g1]
    rfl
  · have h8 : (8 + b / 32) / 8 = 1 := by omega
    rw [show (rPutE (8 + b / 32) (e.1 (8 + b / 32) ||| nI 1 <<< (nI (b % 32) &&& nI 31)) e).2.1 = upd e.2.1 ((8 + b / 32) / 8) (nI 1) from rfl, h8] at g2
    exact g2
theorem MR_tkD {d : cS4} {e : rS2} {b : Nat} (h : MR d e) (hb2 : b < 48) (hf : tkB e.1 b = false) : MR (trL b (tkC b d)) (rTake b false e) := by
  obtain ⟨g1, g2, g3, g4, g5⟩ := MR_tkC h hb2 hf
  exact ⟨g1, set_set g2 hb2, g3, g4, g5⟩
/-- the block b, whose number stands at a, is freed -/
theorem MR_fr {d : cS4} {e : rS2} {a b : Nat} (h : MR d e) (ha : a < 80) (ha2 : 16 ≤ a) (hb1 : 18 ≤ b) (hb2 : b < 48) (hn : e.1 a = nI b) (hf : tkB e.1 b = true) : MR (frC a b d) (upd (frM e.1 b) a (nI 0), upd (upd (upd e.2.1 1 (nI 1)) (a / 8) (nI 1)) b (nI 0), upd e.2.2.1 b (nI 0), upd e.2.2.2.1 b (nI 1), e.2.2.2.2) := by
  unfold tkB at hf
  unfold frC
  rw [if_neg (by omega), h.1]
  have hne : ¬ e.1 (8 + b / 32) = e.1 (8 + b / 32) &&& ((nI 1 <<< (nI (b % 32) &&& nI 31)) ^^^ (-nI 1)) := and_bit_ne (by omega) hf
  have h1 := MR_chg h (a := 8 + b / 32) (by omega) hne
  have hne2 : ¬ (rPutE (8 + b / 32) (e.1 (8 + b / 32) &&& ((nI 1 <<< (nI (b % 32) &&& nI 31)) ^^^ (-nI 1))) e).1 a = nI 0 := by
    show ¬ upd e.1 (8 + b / 32) _ a = nI 0
    rw [pk_un (by omega), hn]
    exact fun z => by have := (nI_eq (by omega) (by omega)).mp z; omega
  obtain ⟨g1, g2, g3, g4, g5⟩ := MR_chg h1 (a := a) (by omega) hne2
  unfold frL
  refine ⟨g1, ?_, set_clr g3 hb2, set_set g4 hb2, g5⟩
  have e1 : (8 + b / 32) / 8 = 1 := by omega
  have := set_clr g2 hb2 (a := b)
  rw [show (rPutE a (nI 0) (rPutE (8 + b / 32) (e.1 (8 + b / 32) &&& ((nI 1 <<< (nI (b % 32) &&& nI 31)) ^^^ (-nI 1))) e)).2.1 = upd (upd e.2.1 ((8 + b / 32) / 8) (nI 1)) (a / 8) (nI 1) from rfl, e1] at this
  exact this
theorem cnt_1le {g : Nat → Int32} {a : Nat} : cntF (mb (upd g a (nI 1))) 48 0 0 ≤ cntF (mb g) 48 0 0 + 1 := by
  by_cases c : a < 48
  · have := cnt_upd (P := mb g) (Q := mb (upd g a (nI 1))) (s := a) 48 0 0 (by omega) (by omega) (fun i hi => by rw [mb_1]; simp [hi])
    have h2 : b2n (mb (upd g a (nI 1)) a) ≤ 1 := by unfold b2n; split <;> omega
    omega
  · rw [cnt_congr (P' := mb g) 48 0 0 (fun i _ hi => by rw [mb_1]; simp; intro z; omega)]
    omega
theorem cnt_0le {g : Nat → Int32} {a : Nat} : cntF (mb (upd g a (nI 0))) 48 0 0 ≤ cntF (mb g) 48 0 0 := by
  by_cases c : a < 48
  · have := cnt_upd (P := mb g) (Q := mb (upd g a (nI 0))) (s := a) 48 0 0 (by omega) (by omega) (fun i hi => by rw [mb_z]; simp [hi])
    have h2 : b2n (mb (upd g a (nI 0)) a) = 0 := by rw [mb_z]; simp [b2n]
    omega
  · rw [cnt_congr (P' := mb g) 48 0 0 (fun i _ hi => by rw [mb_z]; simp; intro _ z; omega)]
    exact Nat.le_refl _
/-- what may be taken is the same -/
theorem tk2_eq {d : cS4} {e : rS2} (h : MR d e) {b : Nat} (hb : b < 48) : tk2 d.1 d.2.2.2.1 b = freeB e.1 e.2.2.2.1 b := by
  unfold tk2 freeB
  rw [h.1, h.2.2.2.1.1 b hb]
theorem tkN_eq {d : cS4} {e : rS2} (h : MR d e) : tkN d.1 d.2.2.2.1 = freeN e.1 e.2.2.2.1 := cnt_congr 30 18 0 (fun b _ h2 => tk2_eq h (by omega))
theorem tkf_eq {d : cS4} {e : rS2} (h : MR d e) : fndF (tk2 d.1 d.2.2.2.1) 30 18 = fndF (freeB e.1 e.2.2.2.1) 30 18 := fnd_congr 30 18 (fun b _ h2 => tk2_eq h (by omega))
theorem fnd_pos {P : Nat → Bool} {m k : Nat} (h : 0 < cntF P m k 0) : ∃ j, fndF P m k = some j := by
  cases e : fndF P m k with
  | some j => exact ⟨j, rfl⟩
  | none =>
    rw [cnt_none m k 0 (fndF_none m k e)] at h
    omega
theorem free_pos {f w : Nat → Int32} (h : 0 < freeN f w) : ∃ b, fndF (freeB f w) 30 18 = some b ∧ 18 ≤ b ∧ b < 48 ∧ tkB f b = false ∧ mb w b = false := by
  obtain ⟨b, hb⟩ := fnd_pos h
  obtain ⟨h1, h2, h3, _⟩ := fndF_some 30 18 b hb
  unfold freeB at h3
  simp only [Bool.and_eq_true, Bool.not_eq_true'] at h3
  exact ⟨b, hb, h1, by omega, h3.1, h3.2⟩
