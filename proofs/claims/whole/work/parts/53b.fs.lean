theorem tk_free {f : Nat → Int32} {K L S : Nat → Nat} {N : Nat → Nat → Nat} {b : Nat} (h : Sa f K L S N) (hf : tkB f b = false) (hb : 18 ≤ b) : ∀ i j, ¬ N i j = b := by
  intro i j e
  have := h.2.2 i j (by omega)
  rw [e, hf] at this
  cases this
/-- file or directory i gets block b as its number j -/
theorem Sx_take {f f' : Nat → Int32} {K L S S' : Nat → Nat} {N E : Nat → Nat → Nat} {i j b : Nat} (h : Sx f K L S N E) (hi : ¬ K i = 0) (hj : j < 2) (h0 : N i j = 0) (hf : tkB f b = false) (hb : 18 ≤ b) (hb2 : b < 48)
    (hS : (K i = 1 ∧ S' = S) ∨ (K i = 2 ∧ S i = 8 ∧ j = 1 ∧ S' = sN S i 16))
    (hw : f' (16 + 4 * i + (2 + j)) = nI b) (hs : f' (16 + 4 * i + 1) = nI (S' i)) (he : ∀ q, ¬ q = 16 + 4 * i + (2 + j) → ¬ q = 16 + 4 * i + 1 → f' q = tkM f b q) : Sx f' K L S' (sE N i j b) E := by
  obtain ⟨⟨a1, a2, a3⟩, hbb, hc, hd⟩ := h
  have hi2 := hc.1 i hi
  have hfr := tk_free ⟨a1, a2, a3⟩ hf hb
  have hS2 : ∀ x, ¬ x = i → S' x = S x := by
    intro x hx
    rcases hS with ⟨-, e⟩ | ⟨-, -, -, e⟩
    · rw [e]
    · rw [e, sN_n hx]
  have hSge : ∀ x, S x ≤ S' x := by
    intro x
    by_cases c : x = i
    · subst c
      rcases hS with ⟨-, e⟩ | ⟨-, e1, -, e⟩
      · rw [e]; exact Nat.le_refl _
      · rw [e, sN_s]; omega
    · rw [hS2 x c]; exact Nat.le_refl _
  have hlo : ∀ q, 10 ≤ q → q < 144 → ¬ q = 16 + 4 * i + (2 + j) → ¬ q = 16 + 4 * i + 1 → f' q = f q := fun q h1 h2 h3 h4 => by
    rw [he q h3 h4, tkM_o hb h1 (by omega) hb2]
  have hN2 : ∀ x y, ¬ (x = i ∧ y = j) → sE N i j b x y = N x y := fun x y h => sE_n h
  refine ⟨⟨fun x h1 h2 => ?_, fun x h1 h2 => ?_, fun x y hn => ?_⟩, fun d k h1 h2 => ?_, ⟨hc.1, fun x => ⟨(hc.2.1 x).1, ?_⟩, fun x hx => ?_, fun x y hn => ?_, fun x y x' y' hn hxy => ?_, fun x hx => ?_⟩, ⟨fun d k hne => ?_, hd.2.1, hd.2.2⟩⟩
  · obtain ⟨g1, g2, g3, g4⟩ := a1 x h1 h2
    by_cases c : x = i
    · subst c
      rw [hlo _ (by omega) (by omega) (by omega) (by omega)]
      refine ⟨g1, hs, ?_, ?_⟩
      · by_cases q : j = 0
        · subst q
          rw [sE_s]
          exact hw
        · rw [hN2 _ _ (fun z => q z.2.symm), hlo _ (by omega) (by omega) (by omega) (by omega)]
          exact g3
      · by_cases q : j = 1
        · subst q
          rw [sE_s]
          exact hw
        · rw [hN2 _ _ (fun z => q z.2.symm), hlo _ (by omega) (by omega) (by omega) (by omega)]
          exact g4
    · rw [hN2 _ _ (fun z => c z.1), hN2 _ _ (fun z => c z.1), hS2 x c, hlo _ (by omega) (by omega) (by omega) (by omega), hlo _ (by omega) (by omega) (by omega) (by omega), hlo _ (by omega) (by omega) (by omega) (by omega), hlo _ (by omega) (by omega) (by omega) (by omega)]
      exact ⟨g1, g2, g3, g4⟩
  · rw [hlo _ (by omega) (by omega) (by omega) (by omega)]
    exact a2 x h1 h2
  · have hp : ∀ c, c < 48 → tkB f' c = tkB (tkM f b) c := fun c hc => by
      unfold tkB
      rw [he _ (by omega) (by omega)]
    by_cases c : x = i ∧ y = j
    · obtain ⟨rfl, rfl⟩ := c
      rw [sE_s, hp b hb2, tkB_tk hb hb2 hb2]
      simp
    · rw [hN2 _ _ c] at hn ⊢
      have hlt := (hc.2.2.2.1 x y hn).2.2.2
      rw [hp _ hlt, tkB_tk hb hb2 hlt, a3 x y hn]
      rfl
  · by_cases c : d = i
    · subst c
      rcases hS with ⟨e1, -⟩ | ⟨e1, e2, e3, e4⟩
      · rw [e1] at h1; omega
      · subst e3
        rw [e4, sN_s] at h2
        by_cases q : k < 8
        · obtain ⟨m1, m2, m3, m4, m5⟩ := Sc_dirN hc h1 (k := k) (by omega)
          have hk8 : k / 8 = 0 := by omega
          have hfr2 := hfr d (k / 8)
          rw [hN2 _ _ (by omega), he _ (by omega) (by omega), tkM_o hb (by omega) (by omega) hb2]
          exact hbb d k h1 (by omega)
        · have hk8 : k / 8 = 1 := by omega
          have hE0 : E d k = 0 := by
            by_cases z : E d k = 0
            · exact z
            · have := (hd.1 d k z).2
              omega
          rw [hk8, sE_s, hE0, he _ (by omega) (by omega), tkM_z (by omega) (by omega)]
    · rw [hS2 d c] at h2
      obtain ⟨m1, m2, m3, m4, m5⟩ := Sc_dirN hc h1 h2
      have hfr2 := hfr d (k / 8)
      rw [hN2 _ _ (fun z => c z.1), he _ (by omega) (by omega), tkM_o hb (by omega) (by omega) hb2]
      exact hbb d k h1 h2
  · by_cases c : x = i
    · subst c
      rcases hS with ⟨-, e⟩ | ⟨-, -, -, e⟩
      · rw [e]; exact (hc.2.1 x).2
      · rw [e, sN_s]; omega
    · rw [hS2 x c]; exact (hc.2.1 x).2
  · have c : ¬ x = i := fun e => hi (e ▸ hx)
    rw [hS2 x c]
    exact hc.2.2.1 x hx
  · by_cases c : x = i ∧ y = j
    · obtain ⟨rfl, rfl⟩ := c
      rw [sE_s]
      exact ⟨hi, hj, hb, hb2⟩
    · rw [hN2 _ _ c] at hn ⊢
      exact hc.2.2.2.1 x y hn
  · by_cases c : x = i ∧ y = j
    · obtain ⟨rfl, rfl⟩ := c
      rw [sE_s] at hxy
      by_cases c2 : x' = x ∧ y' = y
      · exact ⟨c2.1.symm, c2.2.symm⟩
      · rw [hN2 _ _ c2] at hxy
        exact absurd hxy.symm (hfr x' y')
    · rw [hN2 _ _ c] at hn hxy
      by_cases c2 : x' = i ∧ y' = j
      · obtain ⟨rfl, rfl⟩ := c2
        rw [sE_s] at hxy
        exact absurd hxy (hfr x y)
      · rw [hN2 _ _ c2] at hxy
        exact hc.2.2.2.2.1 x y x' y' hn hxy
  · obtain ⟨g1, g2, g3⟩ := hc.2.2.2.2.2 x hx
    by_cases c : x = i
    · subst c
      rcases hS with ⟨e1, -⟩ | ⟨e1, e2, e3, e4⟩
      · rw [e1] at hx; omega
      · subst e3
        rw [e4, sN_s, sE_s, hN2 _ _ (by omega)]
        exact ⟨Or.inr rfl, g2, fun _ => rfl, fun _ => by omega⟩
    · rw [hS2 x c, hN2 _ _ (fun z => c z.1), hN2 _ _ (fun z => c z.1)]
      exact ⟨g1, g2, g3⟩
  · have := hd.1 d k hne
    exact ⟨this.1, Nat.lt_of_lt_of_le this.2 (hSge d)⟩
/-- file i's block number j is released -/
theorem Sx_rel {f f' : Nat → Int32} {K L S : Nat → Nat} {N E : Nat → Nat → Nat} {i j : Nat} (h : Sx f K L S N E) (hi : K i = 1) (hj : j < 2) (h0 : ¬ N i j = 0)
    (hw : f' (16 + 4 * i + (2 + j)) = nI 0) (he : ∀ q, ¬ q = 16 + 4 * i + (2 + j) → f' q = frM f (N i j) q) : Sx f' K L S (sE N i j 0) E := by
  obtain ⟨⟨a1, a2, a3⟩, hbb, hc, hd⟩ := h
  have hi2 := hc.1 i (by omega)
  obtain ⟨-, -, b1, b2⟩ := hc.2.2.2.1 i j h0
  have hlo : ∀ q, 10 ≤ q → ¬ q = 16 + 4 * i + (2 + j) → f' q = f q := fun q h1 h3 => by
    rw [he q h3, frM_o b2 h1]
  have hN2 : ∀ x y, ¬ (x = i ∧ y = j) → sE N i j 0 x y = N x y := fun x y h => sE_n h
  have hN0 : ∀ x y, ¬ sE N i j 0 x y = 0 → ¬ (x = i ∧ y = j) := fun x y h z => by
    obtain ⟨rfl, rfl⟩ := z
    exact h sE_s
  refine ⟨⟨fun x h1 h2 => ?_, fun x h1 h2 => ?_, fun x y hn => ?_⟩, fun d k h1 h2 => ?_, ⟨hc.1, hc.2.1, hc.2.2.1, fun x y hn => ?_, fun x y x' y' hn hxy => ?_, fun x hx => ?_⟩, hd⟩
  · obtain ⟨g1, g2, g3, g4⟩ := a1 x h1 h2
    by_cases c : x = i
    · subst c
      rw [hlo _ (by omega) (by omega), hlo _ (by omega) (by omega)]
      refine ⟨g1, g2, ?_, ?_⟩
      · by_cases q : j = 0
        · subst q
          rw [sE_s]
          exact hw
        · rw [hN2 _ _ (fun z => q z.2.symm), hlo _ (by omega) (by omega)]
          exact g3
      · by_cases q : j = 1
        · subst q
          rw [sE_s]
          exact hw
        · rw [hN2 _ _ (fun z => q z.2.symm), hlo _ (by omega) (by omega)]
          exact g4
    · rw [hN2 _ _ (fun z => c z.1), hN2 _ _ (fun z => c z.1), hlo _ (by omega) (by omega), hlo _ (by omega) (by omega), hlo _ (by omega) (by omega), hlo _ (by omega) (by omega)]
      exact ⟨g1, g2, g3, g4⟩
  · rw [hlo _ (by omega) (by omega)]
    exact a2 x h1 h2
  · have c := hN0 x y hn
    rw [hN2 _ _ c] at hn ⊢
    have hlt := (hc.2.2.2.1 x y hn).2.2.2
    have hp : tkB f' (N x y) = tkB (frM f (N i j)) (N x y) := by
      unfold tkB
      rw [he _ (by omega)]
    rw [hp, tkB_fr b2 hlt, a3 x y hn]
    have hne : ¬ N x y = N i j := fun e => c (hc.2.2.2.2.1 x y i j hn e)
    simp [hne]
  · obtain ⟨m1, m2, m3, m4, m5⟩ := Sc_dirN hc h1 h2
    have c : ¬ d = i := fun e => by rw [e] at h1; omega
    rw [hN2 _ _ (fun z => c z.1), hlo _ (by omega) (by omega)]
    exact hbb d k h1 h2
  · have c := hN0 x y hn
    rw [hN2 _ _ c] at hn ⊢
    exact hc.2.2.2.1 x y hn
  · have c := hN0 x y hn
    have c2 := hN0 x' y' (by rw [← hxy]; exact hn)
    rw [hN2 _ _ c] at hn hxy
    rw [hN2 _ _ c2] at hxy
    exact hc.2.2.2.2.1 x y x' y' hn hxy
  · have c : ¬ x = i := fun e => by rw [e] at hx; omega
    rw [hN2 _ _ (fun z => c z.1), hN2 _ _ (fun z => c z.1)]
    exact hc.2.2.2.2.2 x hx
/-- inode i, which was free, is a new file with a link -/
theorem Sx_newF {f f' : Nat → Int32} {K L S : Nat → Nat} {N E : Nat → Nat → Nat} {i : Nat} (h : Sx f K L S N E) (hi : 1 ≤ i) (hi2 : i < 16) (h0 : K i = 0)
    (hw : f' (16 + 4 * i) = nI 17) (hbit : ∀ x, x < 16 → ib (f' 10) x = (ib (f 10) x || decide (x = i))) (he : ∀ q, ¬ q = 16 + 4 * i → ¬ q = 10 → f' q = f q) : Sx f' (sN K i 1) (sN L i 1) S N E := by
  obtain ⟨⟨a1, a2, a3⟩, hbb, hc, hd⟩ := h
  have hK2 : ∀ x, ¬ x = i → sN K i 1 x = K x := fun x h => sN_n h
  have hKz : ∀ x, ¬ K x = 0 → ¬ x = i := fun x h e => h (e ▸ h0)
  have hKd : ∀ x, sN K i 1 x = 2 → ¬ x = i ∧ K x = 2 := fun x h => by
    by_cases c : x = i
    · subst c
      rw [sN_s] at h
      omega
    · rw [hK2 x c] at h
      exact ⟨c, h⟩
  refine ⟨⟨fun x h1 h2 => ?_, fun x h1 h2 => ?_, fun x y hn => ?_⟩, fun d k h1 h2 => ?_, ⟨fun x hx => ?_, fun x => ⟨?_, (hc.2.1 x).2⟩, fun x hx => ?_, fun x y hn => ?_, hc.2.2.2.2.1, fun x hx => hc.2.2.2.2.2 x (hKd x hx).2⟩, ⟨fun d k hne => ?_, fun d k hne => ?_, hd.2.2⟩⟩
  · obtain ⟨g1, g2, g3, g4⟩ := a1 x h1 h2
    by_cases c : x = i
    · subst c
      rw [hw, sN_s, sN_s, he _ (by omega) (by omega), he _ (by omega) (by omega), he _ (by omega) (by omega)]
      exact ⟨rfl, g2, g3, g4⟩
    · rw [hK2 x c, sN_n c, he _ (by omega) (by omega), he _ (by omega) (by omega), he _ (by omega) (by omega), he _ (by omega) (by omega)]
      exact ⟨g1, g2, g3, g4⟩
  · rw [hbit x h2, a2 x h1 h2]
    by_cases c : x = i
    · subst c
      rw [sN_s]
      simp
    · rw [hK2 x c]
      simp [c]
  · have hlt := (hc.2.2.2.1 x y hn).2.2.2
    have := a3 x y hn
    unfold tkB at this ⊢
    rw [he _ (by omega) (by omega)]
    exact this
  · obtain ⟨c, g⟩ := hKd d h1
    obtain ⟨m1, m2, m3, m4, m5⟩ := Sc_dirN hc g h2
    rw [he _ (by omega) (by omega)]
    exact hbb d k g h2
  · by_cases c : x = i
    · subst c
      exact ⟨hi, hi2⟩
    · rw [hK2 x c] at hx
      exact hc.1 x hx
  · by_cases c : x = i
    · subst c
      rw [sN_s]
      omega
    · rw [hK2 x c]
      exact (hc.2.1 x).1
  · have c : ¬ x = i := fun e => by rw [e, sN_s] at hx; omega
    rw [hK2 x c] at hx
    rw [sN_n c]
    exact hc.2.2.1 x hx
  · obtain ⟨g1, g2⟩ := hc.2.2.2.1 x y hn
    rw [hK2 x (hKz x g1)]
    exact ⟨g1, g2⟩
  · have := hd.1 d k hne
    rw [hK2 d (hKz d (by omega))]
    exact this
  · obtain ⟨g1, g2, g3⟩ := hd.2.1 d k hne
    rw [hK2 _ (hKz _ g3)]
    exact ⟨g1, g2, g3⟩
/-- inode i, which was free, is a new directory with a link and block b -/
theorem Sx_newD {f f' : Nat → Int32} {K L S : Nat → Nat} {N E : Nat → Nat → Nat} {i b : Nat} (h : Sx f K L S N E) (hi : 1 ≤ i) (hi2 : i < 16) (h0 : K i = 0) (hf : tkB f b = false) (hb : 18 ≤ b) (hb2 : b < 48)
    (hw : f' (16 + 4 * i) = nI 18) (hw1 : f' (16 + 4 * i + 1) = nI 8) (hw2 : f' (16 + 4 * i + 2) = nI b) (hbit : ∀ x, x < 16 → ib (f' 10) x = (ib (f 10) x || decide (x = i))) (he : ∀ q, ¬ q = 16 + 4 * i → ¬ q = 16 + 4 * i + 1 → ¬ q = 16 + 4 * i + 2 → ¬ q = 10 → f' q = tkM f b q) : Sx f' (sN K i 2) (sN L i 1) (sN S i 8) (sE N i 0 b) E := by
  obtain ⟨⟨a1, a2, a3⟩, hbb, hc, hd⟩ := h
  have hfr := tk_free ⟨a1, a2, a3⟩ hf hb
  have hK2 : ∀ x, ¬ x = i → sN K i 2 x = K x := fun x h => sN_n h
  have hS2 : ∀ x, ¬ x = i → sN S i 8 x = S x := fun x h => sN_n h
  have hN2 : ∀ x y, ¬ (x = i ∧ y = 0) → sE N i 0 b x y = N x y := fun x y h => sE_n h
  have hKz : ∀ x, ¬ K x = 0 → ¬ x = i := fun x h e => h (e ▸ h0)
  have hN1 : N i 1 = 0 := Sc_no0 hc h0
  have hlo : ∀ q, 11 ≤ q → q < 144 → ¬ q = 16 + 4 * i → ¬ q = 16 + 4 * i + 1 → ¬ q = 16 + 4 * i + 2 → f' q = f q := fun q h1 h2 h3 h4 h5 => by
    rw [he q h3 h4 h5 (by omega), tkM_o hb (by omega) (by omega) hb2]
  refine ⟨⟨fun x h1 h2 => ?_, fun x h1 h2 => ?_, fun x y hn => ?_⟩, fun d k h1 h2 => ?_, ⟨fun x hx => ?_, fun x => ?_, fun x hx => ?_, fun x y hn => ?_, fun x y x' y' hn hxy => ?_, fun x hx => ?_⟩, ⟨fun d k hne => ?_, fun d k hne => ?_, hd.2.2⟩⟩
  · obtain ⟨g1, g2, g3, g4⟩ := a1 x h1 h2
    by_cases c : x = i
    · subst c
      rw [hw, hw1, hw2, sN_s, sN_s, sN_s, sE_s, hN2 _ _ (by omega), hlo _ (by omega) (by omega) (by omega) (by omega) (by omega)]
      exact ⟨rfl, rfl, rfl, g4⟩
    · rw [hK2 x c, hS2 x c, sN_n c, hN2 _ _ (fun z => c z.1), hN2 _ _ (fun z => c z.1), hlo _ (by omega) (by omega) (by omega) (by omega) (by omega), hlo _ (by omega) (by omega) (by omega) (by omega) (by omega), hlo _ (by omega) (by omega) (by omega) (by omega) (by omega), hlo _ (by omega) (by omega) (by omega) (by omega) (by omega)]
      exact ⟨g1, g2, g3, g4⟩
  · rw [hbit x h2, a2 x h1 h2]
    by_cases c : x = i
    · subst c
      rw [sN_s]
      simp
    · rw [hK2 x c]
      simp [c]
  · have hp : ∀ c, c < 48 → tkB f' c = tkB (tkM f b) c := fun c hc => by
      unfold tkB
      rw [he _ (by omega) (by omega) (by omega) (by omega)]
    by_cases c : x = i ∧ y = 0
    · obtain ⟨rfl, rfl⟩ := c
      rw [sE_s, hp b hb2, tkB_tk hb hb2 hb2]
      simp
    · rw [hN2 _ _ c] at hn ⊢
      have hlt := (hc.2.2.2.1 x y hn).2.2.2
      rw [hp _ hlt, tkB_tk hb hb2 hlt, a3 x y hn]
      rfl
  · by_cases c : d = i
    · subst c
      rw [sN_s] at h2
      have hk8 : k / 8 = 0 := by omega
      have hE0 : E d k = 0 := by
        by_cases z : E d k = 0
        · exact z
        · have := (hd.1 d k z).1
          omega
      rw [hk8, sE_s, hE0, he _ (by omega) (by omega) (by omega) (by omega), tkM_z (by omega) (by omega)]
    · rw [hK2 d c] at h1
      rw [hS2 d c] at h2
      obtain ⟨m1, m2, m3, m4, m5⟩ := Sc_dirN hc h1 h2
      have hfr2 := hfr d (k / 8)
      rw [hN2 _ _ (fun z => c z.1), he _ (by omega) (by omega) (by omega) (by omega), tkM_o hb (by omega) (by omega) hb2]
      exact hbb d k h1 h2
  · by_cases c : x = i
    · subst c
      exact ⟨hi, hi2⟩
    · rw [hK2 x c] at hx
      exact hc.1 x hx
  · by_cases c : x = i
    · subst c
      rw [sN_s, sN_s]
      omega
    · rw [hK2 x c, hS2 x c]
      exact hc.2.1 x
  · have c : ¬ x = i := fun e => by rw [e, sN_s] at hx; omega
    rw [hK2 x c] at hx
    rw [sN_n c, hS2 x c]
    exact hc.2.2.1 x hx
  · by_cases c : x = i ∧ y = 0
    · obtain ⟨rfl, rfl⟩ := c
      rw [sE_s, sN_s]
      exact ⟨by omega, by omega, hb, hb2⟩
    · rw [hN2 _ _ c] at hn ⊢
      obtain ⟨g1, g2⟩ := hc.2.2.2.1 x y hn
      rw [hK2 x (hKz x g1)]
      exact ⟨g1, g2⟩
  · by_cases c : x = i ∧ y = 0
    · obtain ⟨rfl, rfl⟩ := c
      rw [sE_s] at hxy
      by_cases c2 : x' = x ∧ y' = 0
      · exact ⟨c2.1.symm, c2.2.symm⟩
      · rw [hN2 _ _ c2] at hxy
        exact absurd hxy.symm (hfr x' y')
    · rw [hN2 _ _ c] at hn hxy
      by_cases c2 : x' = i ∧ y' = 0
      · obtain ⟨rfl, rfl⟩ := c2
        rw [sE_s] at hxy
        exact absurd hxy (hfr x y)
      · rw [hN2 _ _ c2] at hxy
        exact hc.2.2.2.2.1 x y x' y' hn hxy
  · by_cases c : x = i
    · subst c
      rw [sN_s, sE_s, hN2 _ _ (by omega), hN1]
      exact ⟨Or.inl rfl, by omega, fun h => absurd rfl h, fun h => by omega⟩
    · rw [hK2 x c] at hx
      rw [hS2 x c, hN2 _ _ (fun z => c z.1), hN2 _ _ (fun z => c z.1)]
      exact hc.2.2.2.2.2 x hx
  · have := hd.1 d k hne
    have c := hKz d (by omega)
    rw [hK2 d c, hS2 d c]
    exact this
  · obtain ⟨g1, g2, g3⟩ := hd.2.1 d k hne
    rw [hK2 _ (hKz _ g3)]
    exact ⟨g1, g2, g3⟩
def zN (N : Nat → Nat → Nat) (i : Nat) : Nat → Nat → Nat := fun x y => if x = i then 0 else N x y
theorem zN_s {N : Nat → Nat → Nat} {i x y : Nat} (h : x = i) : zN N i x y = 0 := if_pos h
theorem zN_n {N : Nat → Nat → Nat} {i x y : Nat} (h : ¬ x = i) : zN N i x y = N x y := if_neg h
/-- inode i, which no entry has and which has none, is free -/
theorem Sx_drop {f f' : Nat → Int32} {K L S : Nat → Nat} {N E : Nat → Nat → Nat} {i : Nat} (h : Sx f K L S N E) (hi : ¬ K i = 0) (hE : ∀ d k, ¬ E d k = 0 → ¬ E d k / 32 = i) (hE2 : ∀ k, E i k = 0)
    (hw : ∀ j, j < 4 → f' (16 + 4 * i + j) = nI 0) (hbit : ∀ x, x < 16 → ib (f' 10) x = (ib (f 10) x && !decide (x = i))) (htk : ∀ c, c < 48 → ¬ c = N i 0 → ¬ c = N i 1 → tkB f' c = tkB f c) (he : ∀ q, 11 ≤ q → (q < 16 + 4 * i ∨ 16 + 4 * i + 4 ≤ q) → f' q = f q) : Sx f' (sN K i 0) (sN L i 0) (sN S i 0) (zN N i) E := by
  obtain ⟨⟨a1, a2, a3⟩, hbb, hc, hd⟩ := h
  have hi2 := hc.1 i hi
  have hK2 : ∀ x, ¬ x = i → sN K i 0 x = K x := fun x h => sN_n h
  have hS2 : ∀ x, ¬ x = i → sN S i 0 x = S x := fun x h => sN_n h
  have hKz : ∀ x, ¬ sN K i 0 x = 0 → ¬ x = i := fun x h e => h (by rw [e, sN_s])
  refine ⟨⟨fun x h1 h2 => ?_, fun x h1 h2 => ?_, fun x y hn => ?_⟩, fun d k h1 h2 => ?_, ⟨fun x hx => ?_, fun x => ?_, fun x hx => ?_, fun x y hn => ?_, fun x y x' y' hn hxy => ?_, fun x hx => ?_⟩, ⟨fun d k hne => ?_, fun d k hne => ?_, hd.2.2⟩⟩
  · obtain ⟨g1, g2, g3, g4⟩ := a1 x h1 h2
    by_cases c : x = i
    · subst c
      have w0 := hw 0 (by omega)
      rw [Nat.add_zero] at w0
      rw [w0, hw 1 (by omega), hw 2 (by omega), hw 3 (by omega), sN_s, sN_s, sN_s, zN_s rfl, zN_s rfl]
      exact ⟨rfl, rfl, rfl, rfl⟩
    · rw [hK2 x c, hS2 x c, sN_n c, zN_n c, zN_n c, he _ (by omega) (by omega), he _ (by omega) (by omega), he _ (by omega) (by omega), he _ (by omega) (by omega)]
      exact ⟨g1, g2, g3, g4⟩
  · rw [hbit x h2, a2 x h1 h2]
    by_cases c : x = i
    · subst c
      rw [sN_s]
      simp
    · rw [hK2 x c]
      simp [c]
  · by_cases c : x = i
    · rw [zN_s c] at hn
      exact absurd rfl hn
    · rw [zN_n c] at hn ⊢
      have hlt := (hc.2.2.2.1 x y hn).2.2.2
      rw [htk _ hlt (fun e => c (hc.2.2.2.2.1 _ _ _ _ hn e).1) (fun e => c (hc.2.2.2.2.1 _ _ _ _ hn e).1)]
      exact a3 x y hn
  · have c := hKz d (by omega)
    rw [hK2 d c] at h1
    rw [hS2 d c] at h2
    obtain ⟨m1, m2, m3, m4, m5⟩ := Sc_dirN hc h1 h2
    rw [zN_n c, he _ (by omega) (by omega)]
    exact hbb d k h1 h2
  · have c := hKz x hx
    rw [hK2 x c] at hx
    exact hc.1 x hx
  · by_cases c : x = i
    · subst c
      rw [sN_s, sN_s]
      omega
    · rw [hK2 x c, hS2 x c]
      exact hc.2.1 x
  · by_cases c : x = i
    · subst c
      rw [sN_s, sN_s]
      exact ⟨rfl, rfl⟩
    · rw [hK2 x c] at hx
      rw [sN_n c, hS2 x c]
      exact hc.2.2.1 x hx
  · by_cases c : x = i
    · rw [zN_s c] at hn
      exact absurd rfl hn
    · rw [zN_n c] at hn ⊢
      rw [hK2 x c]
      exact hc.2.2.2.1 x y hn
  · by_cases c : x = i
    · rw [zN_s c] at hn
      exact absurd rfl hn
    · rw [zN_n c] at hn hxy
      by_cases c2 : x' = i
      · rw [zN_s c2] at hxy
        exact absurd hxy hn
      · rw [zN_n c2] at hxy
        exact hc.2.2.2.2.1 x y x' y' hn hxy
  · have c := hKz x (by omega)
    rw [hK2 x c] at hx
    rw [hS2 x c, zN_n c, zN_n c]
    exact hc.2.2.2.2.2 x hx
  · have g := hd.1 d k hne
    have c : ¬ d = i := fun e => hne (e ▸ hE2 k)
    rw [hK2 d c, hS2 d c]
    exact g
  · obtain ⟨g1, g2, g3⟩ := hd.2.1 d k hne
    rw [hK2 _ (hE d k hne)]
    exact ⟨g1, g2, g3⟩
