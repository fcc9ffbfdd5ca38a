/-! AN ENTRY IS MADE, IN CLASS AND REFERENCE -/
theorem cnt_1eq {g : Nat → Int32} {a : Nat} (h : mb g a = true) : cntF (mb (upd g a (nI 1))) 48 0 0 = cntF (mb g) 48 0 0 := cnt_congr 48 0 0 (fun i _ _ => mb_idem h)
theorem nI_ne {a b : Nat} (h : ¬ a = b) (ha : a < 2 ^ 31) (hb : b < 2 ^ 31) : ¬ nI a = nI b := fun e => h ((nI_eq ha hb).mp e)
theorem SI_put {e : rS2} {a : Nat} {v : Int32} (h : SI e) (ha : 8 ≤ a) : SI (rPutE a v e) := by
  obtain ⟨h1, h2, h3, h4⟩ := h
  refine ⟨fun b hb hm => ?_, h2, fun b hb hm => ?_, fun hm => ?_⟩
  · have hm2 : mb (upd e.2.1 (a / 8) (nI 1)) b = true := hm
    rw [mb_1] at hm2
    by_cases c : b = a / 8
    · omega
    · simp [c] at hm2
      exact h1 b hb hm2
  · show mb (upd e.2.1 (a / 8) (nI 1)) 1 = true
    rw [mb_1, h3 b hb hm]
    simp
  · show mb (upd e.2.1 (a / 8) (nI 1)) 1 = true
    rw [mb_1, h4 hm]
    simp
theorem SI_tk {e : rS2} {b : Nat} (h : SI e) (hb : 18 ≤ b) : SI (rTake b false e) ∧ mb (rTake b false e).2.1 1 = true ∧ mb (rTake b false e).2.1 b = true := by
  obtain ⟨h1, h2, h3, h4⟩ := h
  have hk : (rTake b false e).2.1 = upd (upd e.2.1 1 (nI 1)) b (nI 1) := rfl
  have h11 : mb (rTake b false e).2.1 1 = true := by
    rw [hk, mb_1, mb_1]
    simp
  refine ⟨⟨fun c hc hm => ?_, h2, fun c hc hm => h11, fun hm => h11⟩, h11, ?_⟩
  · rw [hk, mb_1, mb_1] at hm
    by_cases c1 : c = b
    · omega
    · by_cases c2 : c = 1
      · omega
      · simp [c1, c2] at hm
        exact h1 c hc hm
  · rw [hk, mb_1]
    simp
theorem SI_grow {e : rS2} {d b : Nat} (h : SI e) : SI (rGrow d b e) := by
  obtain ⟨h1, h2, h3, h4⟩ := h
  have hk : (rGrow d b e).2.1 = upd e.2.1 (2 + d / 2) (nI 1) := rfl
  refine ⟨fun c hc hm => ?_, h2, fun c hc hm => ?_, fun hm => ?_⟩
  · rw [hk, mb_1] at hm
    by_cases c1 : c = 2 + d / 2
    · omega
    · simp [c1] at hm
      exact h1 c hc hm
  · rw [hk, mb_1, h3 c hc hm]
    simp
  · rw [hk, mb_1, h4 hm]
    simp
theorem hr_nd {f w : Nat → Int32} {w' : Int64} {d s c : Nat} (h1 : fndF (nmE f d (nI 0)) s 0 = fndF (mtch f d (nI 0)) s 0) (h2 : tkN f w' = freeN f w) (hs : s = 8 ∨ s = 16) : (hrB f w' d s c = true) ↔ ndN f d s + c ≤ freeN f w := by
  have := freeN_le (f := f) (w := w)
  unfold hrB ndN
  rw [h1, h2]
  by_cases q : fndF (mtch f d (nI 0)) s 0 = none
  · rw [if_pos q, if_pos q]
    rcases hs with rfl | rfl
    · rw [if_pos rfl]
      simp
      omega
    · rw [if_neg (by omega)]
      simp
      omega
  · rw [if_neg q, if_neg q]
    simp
/-- what is known when an entry has been made -/
def EntR (d : cS4) (e : rS2) (K L S : Nat → Nat) (N E : Nat → Nat → Nat) (dd n i : Nat) (d' : cS4) (e' : rS2) (S' : Nat → Nat) (N' : Nat → Nat → Nat) (k : Nat) : Prop :=
  rEnters e dd n i e' ∧ cAdds d dd n i d' ∧ MR d' e' ∧ SI e' ∧ Sx e'.1 K L S' N' (sE E dd k (n + 32 * i)) ∧ E dd k = 0 ∧ k < 16 ∧ (∀ x y, ¬ N x y = 0 → N' x y = N x y) ∧ (∀ x, ¬ x = dd → S' x = S x) ∧ S dd ≤ S' dd ∧
  nCh e' ≤ nCh e + 3 ∧ (mb e.2.1 1 = true → nCh e' ≤ nCh e + 2) ∧
  ((fndF (nmN E dd 0) (S dd) 0 = some k ∧ k < S dd ∧ e' = rPutE (8 * N dd (k / 8) + k % 8) (nI (n + 32 * i)) e) ∨ (fndF (nmN E dd 0) (S dd) 0 = none ∧ ∃ b, fndF (freeB e.1 e.2.2.2.1) 30 18 = some b ∧ 18 ≤ b ∧ b < 48 ∧ e' = rPutE (8 * b) (nI (n + 32 * i)) (rGrow dd b (rTake b false e))))
theorem J_enter {d : cS4} {e : rS2} {K L S : Nat → Nat} {N E : Nat → Nat → Nat} {dd n i : Nat} (hm : MR d e) (hsi : SI e) (hx : Sx e.1 K L S N E) (hd : K dd = 2) (hn1 : 1 ≤ n) (hn2 : n ≤ 26) (hi : ¬ K i = 0) (hfr : fndF (nmN E dd n) (S dd) 0 = none) (hroom : ndN e.1 dd (S dd) ≤ freeN e.1 e.2.2.2.1) : ∃ d' e' S' N' k, EntR d e K L S N E dd n i d' e' S' N' k := by
  have hc := hx.2.2.1
  have hdd := hc.1 dd (by omega)
  have hi2 := hc.1 i hi
  have hS := (hc.2.1 dd).2
  have hdir := hc.2.2.2.2.2 dd hd
  have hdn := r_dNum hx hd
  have hdn2 : dNum d.1 dd (S dd) := by rw [hm.1]; exact hdn
  have hfm := r_mtch hx hd (n := 0) (by omega)
  have hfn := r_nmE hx hd (n := 0) (by omega)
  have hv32 : (n + 32 * i) % 32 = n := by omega
  have hv : (n + 32 * i) / 32 = i := by omega
  have hname : ∀ l, ¬ E dd l % 32 = (n + 32 * i) % 32 := fun l q => by
    by_cases z : E dd l = 0
    · rw [z] at q; omega
    · have := fnd_none_iff.mp hfr l (hx.2.2.2.1 dd l z).2
      unfold nmN at this
      exact absurd (by omega : E dd l % 32 = n) (of_decide_eq_false this)
  cases hk : fndF (nmN E dd 0) (S dd) 0 with
  | some k =>
    obtain ⟨_, k1, k2, _⟩ := fndF_some (S dd) 0 k hk
    have hk16 : k < 16 := by omega
    have hE0 : E dd k = 0 := by
      unfold nmN at k2
      have k3 := of_decide_eq_true k2
      by_cases z : E dd k = 0
      · exact z
      · have := (hx.2.2.2.2.1 dd k z).1
        omega
    obtain ⟨n1, n2, n3, n4, n5⟩ := Sc_dirN hc hd (k := k) (by omega)
    have hep := r_epos hx hdd.1 hdd.2 hk16
    have hA : rEnters e dd n i (rPutE (epos e.1 dd k) (nI (n + 32 * i)) e) := rEnters_A hdn (by rw [hfm]; exact hk)
    have hB : cAdds d dd n i (chg (epos d.1 dd k) (nI (n + 32 * i)) d) := cAdds_A hdn2 (by rw [hm.1, hfn]; exact hk)
    have hval : e.1 (epos e.1 dd k) = nI 0 := by
      rw [hep, hx.2.1 dd k hd (by omega), hE0]
    have hmr := MR_chg hm (a := epos e.1 dd k) (v := nI (n + 32 * i)) (by rw [hep]; omega) (by rw [hval]; exact nI_ne (by omega) (by omega) (by omega))
    rw [hm.1] at hB
    refine ⟨_, _, S, N, k, hA, hB, hmr, SI_put hsi (by rw [hep]; omega), ?_, hE0, hk16, fun _ _ _ => rfl, fun _ _ => rfl, Nat.le_refl _, ?_, fun _ => ?_, Or.inl ⟨hk, by omega, by rw [hep]⟩⟩
    · show Sx (upd e.1 (epos e.1 dd k) (nI (n + 32 * i))) K L S N _
      rw [hep]
      exact Sx_put hx hd (by omega) (Or.inr ⟨by omega, by omega, by rw [hv]; exact hi, fun l _ => hname l⟩)
    · have := cnt_1le (g := e.2.1) (a := epos e.1 dd k / 8)
      show cntF (mb (upd e.2.1 (epos e.1 dd k / 8) (nI 1))) 48 0 0 ≤ cntF (mb e.2.1) 48 0 0 + 3
      omega
    · have := cnt_1le (g := e.2.1) (a := epos e.1 dd k / 8)
      show cntF (mb (upd e.2.1 (epos e.1 dd k / 8) (nI 1))) 48 0 0 ≤ cntF (mb e.2.1) 48 0 0 + 2
      omega
  | none =>
    have hf30 := freeN_le (f := e.1) (w := e.2.2.2.1)
    have hS8 : S dd = 8 ∧ 0 < freeN e.1 e.2.2.2.1 := by
      unfold ndN at hroom
      rw [hfm, hk, if_pos rfl] at hroom
      by_cases q : S dd = 8
      · rw [if_pos q] at hroom
        exact ⟨q, by omega⟩
      · rw [if_neg q] at hroom
        omega
    obtain ⟨hS8, hf0⟩ := hS8
    obtain ⟨b, hb, b1, b2, b3, b4⟩ := free_pos hf0
    have hN1 : N dd 1 = 0 := by
      by_cases z : N dd 1 = 0
      · exact z
      · have := hdir.2.2.mp z
        omega
    have hw := hx.1.1 dd hdd.1 hdd.2
    have hxg : Sx (rGrow dd b (rTake b false e)).1 K L (sN S dd 16) (sE N dd 1 b) E := by
      refine Sx_take (f := e.1) hx (by omega) (by omega) hN1 b3 b1 b2 (Or.inr ⟨hd, hS8, rfl, rfl⟩) ?_ ?_ (fun q q1 q2 => ?_)
      · show upd (upd (tkM e.1 b) (16 + 4 * dd + 1) (nI 16)) (16 + 4 * dd + 3) (nI b) (16 + 4 * dd + (2 + 1)) = nI b
        exact pk_us
      · show upd (upd (tkM e.1 b) (16 + 4 * dd + 1) (nI 16)) (16 + 4 * dd + 3) (nI b) (16 + 4 * dd + 1) = nI (sN S dd 16 dd)
        rw [pk_un (by omega), pk_us, sN_s]
      · show upd (upd (tkM e.1 b) (16 + 4 * dd + 1) (nI 16)) (16 + 4 * dd + 3) (nI b) q = tkM e.1 b q
        rw [pk_un (by omega), pk_un (by omega)]
    have hdg : dNum (rGrow dd b (rTake b false e)).1 dd 16 := by
      have := r_dNum hxg hd
      rw [sN_s] at this
      exact this
    have hE8 : E dd 8 = 0 := by
      by_cases z : E dd 8 = 0
      · exact z
      · have := (hx.2.2.2.1 dd 8 z).2
        omega
    have hkg : fndF (mtch (rGrow dd b (rTake b false e)).1 dd (nI 0)) 16 0 = some 8 := by
      have := r_mtch hxg hd (n := 0) (by omega)
      rw [sN_s] at this
      rw [this]
      cases q : fndF (nmN E dd 0) 16 0 with
      | none =>
        have := fnd_none_iff.mp q 8 (by omega)
        unfold nmN at this
        rw [hE8] at this
        cases this
      | some j =>
        obtain ⟨_, j1, j2, j3⟩ := fndF_some 16 0 j q
        have q1 : ¬ j < 8 := fun z => by
          have := fnd_none_iff.mp hk j (by omega)
          rw [this] at j2
          cases j2
        have q2 : ¬ 8 < j := fun z => by
          have := j3 8 (by omega) z
          unfold nmN at this
          rw [hE8] at this
          cases this
        have : j = 8 := by omega
        rw [this]
    have hep : epos (rGrow dd b (rTake b false e)).1 dd 8 = 8 * b := by
      rw [r_epos hxg hdd.1 hdd.2 (by omega), show 8 / 8 = 1 from rfl, sE_s, show 8 % 8 = 0 from rfl, Nat.add_zero]
    have hA : rEnters e dd n i (rPutE (epos (rGrow dd b (rTake b false e)).1 dd 8) (nI (n + 32 * i)) (rGrow dd b (rTake b false e))) := rEnters_B hdn (by rw [hfm]; exact hk) hb hdg hkg
    have hB : cAdds d dd n i (addB dd b (nI (n + 32 * i)) d) := cAdds_B hdn2 (by rw [hm.1, hfn]; exact hk) (by rw [tkf_eq hm]; exact hb)
    rw [hep] at hA
    have m1 := MR_tkD hm b2 b3
    have m2 := MR_chg m1 (a := 16 + 4 * dd + 2 + 1) (v := nI b) (by omega) (by
      show ¬ tkM e.1 b (16 + 4 * dd + 2 + 1) = nI b
      rw [tkM_o b1 (by omega) (by omega) b2, show 16 + 4 * dd + 2 + 1 = 16 + 4 * dd + 3 from rfl, hw.2.2.2, hN1]
      exact nI_ne (by omega) (by omega) (by omega))
    have m3 := MR_chg m2 (a := 16 + 4 * dd + 1) (v := nI 16) (by omega) (by
      show ¬ upd (tkM e.1 b) (16 + 4 * dd + 2 + 1) (nI b) (16 + 4 * dd + 1) = nI 16
      rw [pk_un (by omega), tkM_o b1 (by omega) (by omega) b2, hw.2.1, hS8]
      exact nI_ne (by omega) (by omega) (by omega))
    have m4 := MR_chg m3 (a := 8 * b) (v := nI (n + 32 * i)) (by omega) (by
      show ¬ upd (upd (tkM e.1 b) (16 + 4 * dd + 2 + 1) (nI b)) (16 + 4 * dd + 1) (nI 16) (8 * b) = nI (n + 32 * i)
      rw [pk_un (by omega), pk_un (by omega), tkM_z (by omega) (by omega)]
      exact nI_ne (by omega) (by omega) (by omega))
    have hcb : 8 * b / 8 = b := by omega
    obtain ⟨s1, s2, s3⟩ := SI_tk hsi b1
    have hmr : MR (addB dd b (nI (n + 32 * i)) d) (rPutE (8 * b) (nI (n + 32 * i)) (rGrow dd b (rTake b false e))) := by
      refine MR_congr m4 ?_ (fun c _ => ?_) (fun _ _ => rfl) (fun _ _ => rfl) rfl
      · show upd (upd (upd (tkM e.1 b) (16 + 4 * dd + 1) (nI 16)) (16 + 4 * dd + 3) (nI b)) (8 * b) (nI (n + 32 * i)) = upd (upd (upd (tkM e.1 b) (16 + 4 * dd + 2 + 1) (nI b)) (16 + 4 * dd + 1) (nI 16)) (8 * b) (nI (n + 32 * i))
        rw [upd_comm (a := 16 + 4 * dd + 1) (by omega)]
      · show mb (upd (upd (rTake b false e).2.1 (2 + dd / 2) (nI 1)) (8 * b / 8) (nI 1)) c = mb (upd (upd (upd (rTake b false e).2.1 ((16 + 4 * dd + 2 + 1) / 8) (nI 1)) ((16 + 4 * dd + 1) / 8) (nI 1)) (8 * b / 8) (nI 1)) c
        rw [show (16 + 4 * dd + 2 + 1) / 8 = 2 + dd / 2 by omega, show (16 + 4 * dd + 1) / 8 = 2 + dd / 2 by omega, upd_upd]
    have hcnt : cntF (mb (rPutE (8 * b) (nI (n + 32 * i)) (rGrow dd b (rTake b false e))).2.1) 48 0 0 ≤ cntF (mb (rTake b false e).2.1) 48 0 0 + 1 := by
      show cntF (mb (upd (upd (rTake b false e).2.1 (2 + dd / 2) (nI 1)) (8 * b / 8) (nI 1))) 48 0 0 ≤ _
      rw [hcb, cnt_1eq (by rw [mb_1, s3]; simp)]
      exact cnt_1le
    have hc0 : (rTake b false e).2.1 = upd (upd e.2.1 1 (nI 1)) b (nI 1) := rfl
    refine ⟨_, _, sN S dd 16, sE N dd 1 b, 8, hA, hB, hmr, SI_put (SI_grow s1) (by omega), ?_, hE8, by omega, fun x y hne => sE_n (fun z => hne (by rw [z.1, z.2]; exact hN1)), fun x hx => sN_n hx, by rw [sN_s]; omega, ?_, fun h1 => ?_, Or.inr ⟨hk, b, hb, b1, b2, rfl⟩⟩
    · have := Sx_put (d := dd) (k := 8) (v := n + 32 * i) hxg hd (by rw [sN_s]; omega) (Or.inr ⟨by omega, by omega, by rw [hv]; exact hi, fun l _ => hname l⟩)
      rw [show 8 / 8 = 1 from rfl, sE_s] at this
      exact this
    · have g1 := cnt_1le (g := upd e.2.1 1 (nI 1)) (a := b)
      have g2 := cnt_1le (g := e.2.1) (a := 1)
      rw [hc0] at hcnt
      show cntF _ 48 0 0 ≤ cntF (mb e.2.1) 48 0 0 + 3
      omega
    · have g1 := cnt_1le (g := upd e.2.1 1 (nI 1)) (a := b)
      rw [cnt_1eq h1] at g1
      rw [hc0] at hcnt
      show cntF _ 48 0 0 ≤ cntF (mb e.2.1) 48 0 0 + 2
      omega
