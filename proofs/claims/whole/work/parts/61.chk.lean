/-! THE CHECK, in both -/
theorem cEx_f {f : Nat → Int32} {c : cS9} : (cEx f c).1 = cfF f c.1 := by
  unfold cEx
  split <;> rfl
theorem cf_1 {f g : Nat → Int32} (h : ¬ pass1 f = 0) : cfF f g = upd (fillF 5 (nI 0) g) 0 (nI (pass1 f)) := if_neg h
theorem cf_2 {f g : Nat → Int32} (h : pass1 f = 0) (h2 : ¬ pass2 f = 0) : cfF f g = upd (fillF 5 (nI 0) g) 1 (nI (pass2 f)) := by
  unfold cfF
  rw [if_pos h, if_neg h2]
theorem cf_3 {f g : Nat → Int32} (h : pass1 f = 0) (h2 : pass2 f = 0) : cfF f g = upd (upd (upd (fillF 5 (nI 0) g) 2 (nI (pass3 f))) 3 (nI (pass4 f))) 4 (nI (pass5 f)) := by
  unfold cfF
  rw [if_pos h, if_pos h2]
theorem fa_1 {f g : Nat → Int32} (h : ¬ pass1 f = 0) : faultsF f g = upd (fz g) 1 (nI (pass1 f)) := if_neg h
theorem fa_2 {f g : Nat → Int32} (h : pass1 f = 0) (h2 : ¬ pass2 f = 0) : faultsF f g = upd (fz g) 2 (nI (pass2 f)) := by
  unfold faultsF
  rw [if_pos h, if_neg h2]
theorem fa_3 {f g : Nat → Int32} (h : pass1 f = 0) (h2 : pass2 f = 0) : faultsF f g = upd (upd (upd (fz g) 3 (nI (pass3 f))) 4 (nI (pass4 f))) 5 (nI (pass5 f)) := by
  unfold faultsF
  rw [if_pos h, if_pos h2]
theorem cf_fa {f g g' : Nat → Int32} {p : Nat} (h1 : 1 ≤ p) (h2 : p ≤ 5) : cfF f g (p - 1) = faultsF f g' p := by
  have hc : p = 1 ∨ p = 2 ∨ p = 3 ∨ p = 4 ∨ p = 5 := by omega
  by_cases a : pass1 f = 0
  · by_cases b : pass2 f = 0
    · rw [cf_3 a b, fa_3 a b]
      generalize pass3 f = p3
      generalize pass4 f = p4
      generalize pass5 f = p5
      rcases hc with rfl | rfl | rfl | rfl | rfl <;> rfl
    · rw [cf_2 a b, fa_2 a b]
      generalize pass2 f = p2
      rcases hc with rfl | rfl | rfl | rfl | rfl <;> rfl
  · rw [cf_1 a, fa_1 a]
    generalize pass1 f = p1
    rcases hc with rfl | rfl | rfl | rfl | rfl <;> rfl
theorem pass3_le (f : Nat → Int32) : pass3 f ≤ 15 := cntF_le 15 1 0
theorem pass4_le (f : Nat → Int32) : pass4 f ≤ 15 := cntF_le 15 1 0
theorem pass5_le (f : Nat → Int32) : pass5 f ≤ 96 := by
  unfold pass5
  rw [f5_c]
  have a := cntF_le (P := ib (f 8 ^^^ (bksF f 15 1 (nI 262143, nI 0)).1)) 32 0 0
  have b := cntF_le (P := ib (f 9 ^^^ (bksF f 15 1 (nI 262143, nI 0)).2)) 32 0 0
  have c := cntF_le (P := ib (f 10 ^^^ inoF f 15 1 (nI 1))) 32 0 0
  omega
theorem any_5 {g : Nat → Int32} {a b c d e : Nat} (h1 : g 1 = nI a) (h2 : g 2 = nI b) (h3 : g 3 = nI c) (h4 : g 4 = nI d) (h5 : g 5 = nI e) (ha : a < 1000) (hb : b < 1000) (hc : c < 1000) (hd : d < 1000) (he : e < 1000) : anyF g 5 1 = false ↔ a = 0 ∧ b = 0 ∧ c = 0 ∧ d = 0 ∧ e = 0 := by
  show (decide (nI 0 < g 1) || (decide (nI 0 < g 2) || (decide (nI 0 < g 3) || (decide (nI 0 < g 4) || (decide (nI 0 < g 5) || false))))) = false ↔ _
  rw [h1, h2, h3, h4, h5]
  simp only [Bool.or_eq_false_iff, decide_eq_false_iff_not]
  rw [nI_ltI (a := 0) (b := a) (by omega) (by omega), nI_ltI (a := 0) (b := b) (by omega) (by omega), nI_ltI (a := 0) (b := c) (by omega) (by omega), nI_ltI (a := 0) (b := d) (by omega) (by omega), nI_ltI (a := 0) (b := e) (by omega) (by omega)]
  simp only [and_true]
  omega
theorem sum_5 {g : Nat → Int32} {a b c d e : Nat} (h1 : g 0 = nI a) (h2 : g 1 = nI b) (h3 : g 2 = nI c) (h4 : g 3 = nI d) (h5 : g 4 = nI e) (ha : a < 1000) (hb : b < 1000) (hc : c < 1000) (hd : d < 1000) (he : e < 1000) : sumF g 5 0 (nI 0) = nI 0 ↔ a = 0 ∧ b = 0 ∧ c = 0 ∧ d = 0 ∧ e = 0 := by
  show nI 0 + g 0 + g 1 + g 2 + g 3 + g 4 = nI 0 ↔ _
  rw [h1, h2, h3, h4, h5, nI_add, nI_add, nI_add, nI_add, nI_add, nI_eq (by omega) (by omega)]
  omega
theorem sum_any {f g g' : Nat → Int32} : sumF (cfF f g) 5 0 (nI 0) = nI 0 ↔ anyF (faultsF f g') 5 1 = false := by
  have l1 := pass1_le f
  have l3 := pass3_le f
  have l4 := pass4_le f
  have l5 := pass5_le f
  have go : ∃ a b c d e, faultsF f g' 1 = nI a ∧ faultsF f g' 2 = nI b ∧ faultsF f g' 3 = nI c ∧ faultsF f g' 4 = nI d ∧ faultsF f g' 5 = nI e ∧ a < 1000 ∧ b < 1000 ∧ c < 1000 ∧ d < 1000 ∧ e < 1000 := by
    by_cases p1 : pass1 f = 0
    · have l2 := pass2_le (pass1_dir p1)
      by_cases p2 : pass2 f = 0
      · rw [fa_3 p1 p2]
        exact ⟨0, 0, pass3 f, pass4 f, pass5 f, rfl, rfl, rfl, rfl, rfl, by omega, by omega, by omega, by omega, by omega⟩
      · rw [fa_2 p1 p2]
        exact ⟨0, pass2 f, 0, 0, 0, rfl, rfl, rfl, rfl, rfl, by omega, by omega, by omega, by omega, by omega⟩
    · rw [fa_1 p1]
      exact ⟨pass1 f, 0, 0, 0, 0, rfl, rfl, rfl, rfl, rfl, by omega, by omega, by omega, by omega, by omega⟩
  obtain ⟨a, b, c, d, e, g1, g2, g3, g4, g5, b1, b2, b3, b4, b5⟩ := go
  rw [any_5 g1 g2 g3 g4 g5 b1 b2 b3 b4 b5]
  exact sum_5 ((cf_fa (g := g) (g' := g') (p := 1) (by omega) (by omega)).trans g1) ((cf_fa (g := g) (g' := g') (p := 2) (by omega) (by omega)).trans g2) ((cf_fa (g := g) (g' := g') (p := 3) (by omega) (by omega)).trans g3) ((cf_fa (g := g) (g' := g') (p := 4) (by omega) (by omega)).trans g4) ((cf_fa (g := g) (g' := g') (p := 5) (by omega) (by omega)).trans g5) b1 b2 b3 b4 b5
theorem any_0 {f g : Nat → Int32} (h : anyF (faultsF f g) 5 1 = false) : pass1 f = 0 ∧ pass2 f = 0 ∧ pass3 f = 0 ∧ pass4 f = 0 ∧ pass5 f = 0 := by
  have l1 := pass1_le f
  have l3 := pass3_le f
  have l4 := pass4_le f
  have l5 := pass5_le f
  by_cases p1 : pass1 f = 0
  · have l2 := pass2_le (pass1_dir p1)
    by_cases p2 : pass2 f = 0
    · have e := fa_3 (g := g) p1 p2
      have := (any_5 (g := faultsF f g) (a := 0) (b := 0) (c := pass3 f) (d := pass4 f) (e := pass5 f) (by rw [e]; rfl) (by rw [e]; rfl) (by rw [e]; rfl) (by rw [e]; rfl) (by rw [e]; rfl) (by omega) (by omega) (by omega) (by omega) (by omega)).mp h
      exact ⟨p1, p2, this.2.2.1, this.2.2.2.1, this.2.2.2.2⟩
    · have e := fa_2 (g := g) p1 p2
      have := (any_5 (g := faultsF f g) (a := 0) (b := pass2 f) (c := 0) (d := 0) (e := 0) (by rw [e]; rfl) (by rw [e]; rfl) (by rw [e]; rfl) (by rw [e]; rfl) (by rw [e]; rfl) (by omega) (by omega) (by omega) (by omega) (by omega)).mp h
      exact absurd this.2.1 p2
  · have e := fa_1 (g := g) p1
    have := (any_5 (g := faultsF f g) (a := pass1 f) (b := 0) (c := 0) (d := 0) (e := 0) (by rw [e]; rfl) (by rw [e]; rfl) (by rw [e]; rfl) (by rw [e]; rfl) (by rw [e]; rfl) (by omega) (by omega) (by omega) (by omega) (by omega)).mp h
    exact absurd this.1 p1
section RUN
variable {d1 : cS1} {d4 : cS4} {d6 : cS6} {d9 : cS9} {e1 : rS1} {e2 : rS2} {e3 : rS3} {e4 : rS4}
theorem O_check {p : Int32} (hs : RS d1 d4 d6 e1 e2 e3) : OpR tT 18 [.ref 0, .int p] 166 [.ref 13, .int p] d1 d4 d6 d9 e1 e2 e3 e4 := by
  have hs0 := hs
  obtain ⟨hr, hw, ho, m, hm2, hm, hM⟩ := hs
  have hmd : d1.2.2.2.2.2.2.2 = nI m := hr.2.2.2.2.2.2.2.2.2.trans hm
  have h4 : d1.1 = e1.1 := hr.2.2.2.1
  by_cases c : noB p (nI 1) (nI 5) = true
  · refine ⟨1, none, d1, d4, d6, d9, ⟨⟨by omega, by decide⟩, fun z => by omega⟩, fun X nx ok Q R => ?_, fun X nx ok Q R => ?_⟩
    · rw [q_ccheck hmd hm2, if_pos c]
      exact Iff.rfl
    · obtain ⟨fd, hq⟩ := q_rcheck (X := X) (nx := nx) (ok := ok) (Q := Q) (R := R) (e2 := e2) (e3 := e3) (e4 := e4) (p := p) hm hm2
      rw [if_pos c] at hq
      exact ⟨some (.int (nI 0)), e1, e2, e3, (e4.1, e4.2.1, nI 1), hq, rfl, ⟨fun z => by omega, vT_v (by decide +kernel)⟩, hs0⟩
  · by_cases c0 : m = 0
    · obtain ⟨p', g1, g2, rfl⟩ := noB_1 (v := p) (b := 5) (by omega) (by simpa using c)
      refine ⟨0, some (.int ((cEx d1.1 d9).1 ((nI p').toNatClampNeg - 1))), d1, d4, d6, cEx d1.1 d9, ⟨⟨by omega, by decide⟩, fun _ => vT_v (by decide +kernel)⟩, fun X nx ok Q R => ?_, fun X nx ok Q R => ?_⟩
      · rw [q_ccheck hmd hm2, if_neg c, if_pos c0]
        exact Iff.rfl
      · obtain ⟨fd, hq⟩ := q_rcheck (X := X) (nx := nx) (ok := ok) (Q := Q) (R := R) (e2 := e2) (e3 := e3) (e4 := e4) (p := nI p') hm hm2
        rw [if_neg c, if_pos c0] at hq
        refine ⟨_, e1, e2, e3, _, hq, rfl, ⟨fun z => ?_, vT_v (by decide +kernel)⟩, hs0⟩
        rw [cEx_f, h4, nI_clamp (by omega), cf_fa (g' := e4.1) g1 g2]
    · refine ⟨2, none, d1, d4, d6, d9, ⟨⟨by omega, by decide⟩, fun z => by omega⟩, fun X nx ok Q R => ?_, fun X nx ok Q R => ?_⟩
      · rw [q_ccheck hmd hm2, if_neg c, if_neg c0]
        exact Iff.rfl
      · obtain ⟨fd, hq⟩ := q_rcheck (X := X) (nx := nx) (ok := ok) (Q := Q) (R := R) (e2 := e2) (e3 := e3) (e4 := e4) (p := p) hm hm2
        rw [if_neg c, if_neg c0] at hq
        exact ⟨some (.int (nI 0)), e1, e2, e3, (e4.1, e4.2.1, nI 2), hq, rfl, ⟨fun z => by omega, vT_v (by decide +kernel)⟩, hs0⟩
end RUN
