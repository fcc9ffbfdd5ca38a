theorem tkM_at {f g : Nat → Int32} {b q : Nat} (h1 : g q = f q) (h2 : g (8 + b / 32) = f (8 + b / 32)) : tkM g b q = tkM f b q := by
  unfold tkM zerF
  by_cases c : 8 * b ≤ q ∧ q < 8 * b + 8
  · rw [if_pos c, if_pos c]
  · rw [if_neg c, if_neg c, h2]
    by_cases c2 : q = 8 + b / 32
    · rw [c2, pk_us, pk_us]
    · rw [pk_un c2, pk_un c2, h1]
theorem tkB_at {f g : Nat → Int32} {b : Nat} (h2 : g (8 + b / 32) = f (8 + b / 32)) : tkB g b = tkB f b := by
  unfold tkB
  rw [h2]
theorem freeB_at {f g w : Nat → Int32} {b : Nat} (hb : b < 48) (h8 : g 8 = f 8) (h9 : g 9 = f 9) : freeB g w b = freeB f w b := by
  unfold freeB
  rw [tkB_at (f := f) (g := g) (by
    have : b / 32 = 0 ∨ b / 32 = 1 := by omega
    rcases this with e | e
    · rw [e]; exact h8
    · rw [e]; exact h9)]
theorem freeN_at {f g w : Nat → Int32} (h8 : g 8 = f 8) (h9 : g 9 = f 9) : freeN g w = freeN f w := cnt_congr 30 18 0 (fun b _ h2 => freeB_at (by omega) h8 h9)
theorem freef_at {f g w : Nat → Int32} (h8 : g 8 = f 8) (h9 : g 9 = f 9) : fndF (freeB g w) 30 18 = fndF (freeB f w) 30 18 := fnd_congr 30 18 (fun b _ h2 => freeB_at (by omega) h8 h9)
theorem cnt_upd2 {P Q : Nat → Bool} {s m k : Nat} (h1 : k ≤ s) (h2 : s < k + m) (h : ∀ i, k ≤ i → i < k + m → ¬ i = s → P i = Q i) : cntF Q m k 0 + b2n (P s) = cntF P m k 0 + b2n (Q s) := by
  have h3 := cnt_upd (P := P) (Q := fun i => if i = s then Q s else P i) (s := s) m k 0 h1 h2 (fun i hi => by show P i = if i = s then Q s else P i; rw [if_neg hi])
  have h4 : cntF Q m k 0 = cntF (fun i => if i = s then Q s else P i) m k 0 := cnt_congr m k 0 (fun i a b => by
    show Q i = if i = s then Q s else P i
    by_cases c : i = s
    · rw [if_pos c, c]
    · rw [if_neg c, h i a b c])
  rw [if_pos rfl] at h3
  rw [h4]
  exact h3
/-- a block less -/
theorem freeN_tk {f w : Nat → Int32} {b : Nat} (h1 : 18 ≤ b) (h2 : b < 48) (h3 : freeB f w b = true) : freeN (tkM f b) w + 1 = freeN f w := by
  have := cnt_upd2 (P := freeB f w) (Q := freeB (tkM f b) w) (s := b) (m := 30) (k := 18) h1 (by omega) (fun c hc1 hc2 hc => by
    unfold freeB
    rw [tkB_tk h1 h2 (by omega)]
    simp [hc])
  have e : freeB (tkM f b) w b = false := by
    unfold freeB
    rw [tkB_tk h1 h2 h2]
    simp
  rw [h3, e] at this
  exact this
theorem ndN_eq {f : Nat → Int32} {K L S : Nat → Nat} {N E : Nat → Nat → Nat} (h : Sx f K L S N E) {d : Nat} (hd : K d = 2) : ndN f d (S d) = if fndF (nmN E d 0) (S d) 0 = none then (if S d = 8 then 1 else 100) else 0 := by
  unfold ndN
  rw [r_mtch h hd (n := 0) (by omega)]
theorem freeI_0 {f : Nat → Int32} : (freeI f = 0) ↔ fndF (finB f) 15 1 = none := by
  constructor
  · intro h
    cases e : fndF (finB f) 15 1 with
    | none => rfl
    | some i =>
      obtain ⟨h1, h2, h3, _⟩ := fndF_some 15 1 i e
      have := (cnt_0 15 1 0 h).2 i h1 h2
      rw [this] at h3
      cases h3
  · intro h
    exact cnt_none 15 1 0 (fndF_none 15 1 h)
theorem fin_frK {f : Nat → Int32} {K L S : Nat → Nat} {N E : Nat → Nat → Nat} (h : Sx f K L S N E) (hL : ∀ i, L i ≤ 240) : fndF (finB f) 15 1 = fndF (frK f) 15 1 := fnd_congr 15 1 (fun i h1 h2 => r_fin h hL h1 (by omega))
theorem SI_newI {e : rS2} {i : Nat} {dir : Bool} (h : SI e) : SI (rNewI i dir e) ∧ mb (rNewI i dir e).2.1 1 = true ∧ nCh (rNewI i dir e) ≤ nCh e + 2 := by
  obtain ⟨h1, h2, h3, h4⟩ := h
  have hk : (rNewI i dir e).2.1 = upd (upd e.2.1 1 (nI 1)) (2 + i / 2) (nI 1) := rfl
  have h11 : mb (rNewI i dir e).2.1 1 = true := by
    rw [hk, mb_1, mb_1]
    simp
  refine ⟨⟨fun c hc hm => ?_, h2, fun c hc hm => h11, fun hm => h11⟩, h11, ?_⟩
  · rw [hk, mb_1, mb_1] at hm
    by_cases c1 : c = 2 + i / 2
    · omega
    · by_cases c2 : c = 1
      · omega
      · simp [c1, c2] at hm
        exact h1 c hc hm
  · have g1 := cnt_1le (g := upd e.2.1 1 (nI 1)) (a := 2 + i / 2)
    have g2 := cnt_1le (g := e.2.1) (a := 1)
    show cntF (mb (upd (upd e.2.1 1 (nI 1)) (2 + i / 2) (nI 1))) 48 0 0 ≤ cntF (mb e.2.1) 48 0 0 + 2
    omega
/-- a new inode, in both -/
theorem MR_newF {d : cS4} {e : rS2} {i : Nat} (h : MR d e) (hi : i < 16) (hb : ib (e.1 10) i = false) (w0 : e.1 (16 + 4 * i) = nI 0) (w1 : e.1 (16 + 4 * i + 1) = nI 0) (w2 : e.1 (16 + 4 * i + 2) = nI 0) (w3 : e.1 (16 + 4 * i + 3) = nI 0) : MR (chg (16 + 4 * i) (nI 17) (chg 10 (d.1 10 ||| nI 1 <<< (nI i &&& nI 31)) d)) (rNewI i false e) := by
  rw [h.1]
  have m1 := MR_chg h (a := 10) (v := e.1 10 ||| nI 1 <<< (nI i &&& nI 31)) (by omega) (or_bit_ne (by omega) hb)
  have m2 := MR_chg m1 (a := 16 + 4 * i) (v := nI 17) (by omega) (by
    show ¬ upd e.1 10 _ (16 + 4 * i) = nI 17
    rw [pk_un (by omega), w0]
    decide)
  refine MR_congr m2 ?_ (fun c _ => ?_) (fun _ _ => rfl) (fun _ _ => rfl) rfl
  · show upd (upd (upd (upd (upd e.1 10 (e.1 10 ||| nI 1 <<< (nI i &&& nI 31))) (16 + 4 * i) (nI 17)) (16 + 4 * i + 1) (nI 0)) (16 + 4 * i + 2) (nI 0)) (16 + 4 * i + 3) (nI 0) = upd (upd e.1 10 (e.1 10 ||| nI 1 <<< (nI i &&& nI 31))) (16 + 4 * i) (nI 17)
    rw [upd_id (a := 16 + 4 * i + 1), upd_id (a := 16 + 4 * i + 2), upd_id (a := 16 + 4 * i + 3)]
    · rw [pk_un (by omega), pk_un (by omega)]; exact w3
    · rw [pk_un (by omega), pk_un (by omega)]; exact w2
    · rw [pk_un (by omega), pk_un (by omega)]; exact w1
  · show mb (upd (upd e.2.1 1 (nI 1)) (2 + i / 2) (nI 1)) c = mb (upd (upd e.2.1 (10 / 8) (nI 1)) ((16 + 4 * i) / 8) (nI 1)) c
    rw [show (16 + 4 * i) / 8 = 2 + i / 2 by omega]
theorem MR_newD {d : cS4} {e : rS2} {i : Nat} (h : MR d e) (hi : i < 16) (hb : ib (e.1 10) i = false) (w0 : e.1 (16 + 4 * i) = nI 0) (w1 : e.1 (16 + 4 * i + 1) = nI 0) (w2 : e.1 (16 + 4 * i + 2) = nI 0) (w3 : e.1 (16 + 4 * i + 3) = nI 0) : MR (mkD1 i d) (rNewI i true e) := by
  unfold mkD1
  rw [h.1]
  have m1 := MR_chg h (a := 10) (v := e.1 10 ||| nI 1 <<< (nI i &&& nI 31)) (by omega) (or_bit_ne (by omega) hb)
  have m2 := MR_chg m1 (a := 16 + 4 * i) (v := nI 18) (by omega) (by
    show ¬ upd e.1 10 _ (16 + 4 * i) = nI 18
    rw [pk_un (by omega), w0]
    decide)
  have m3 := MR_chg m2 (a := 16 + 4 * i + 1) (v := nI 8) (by omega) (by
    show ¬ upd (upd e.1 10 _) (16 + 4 * i) (nI 18) (16 + 4 * i + 1) = nI 8
    rw [pk_un (by omega), pk_un (by omega), w1]
    decide)
  refine MR_congr m3 ?_ (fun c _ => ?_) (fun _ _ => rfl) (fun _ _ => rfl) rfl
  · show upd (upd (upd (upd (upd e.1 10 (e.1 10 ||| nI 1 <<< (nI i &&& nI 31))) (16 + 4 * i) (nI 18)) (16 + 4 * i + 1) (nI 8)) (16 + 4 * i + 2) (nI 0)) (16 + 4 * i + 3) (nI 0) = upd (upd (upd e.1 10 (e.1 10 ||| nI 1 <<< (nI i &&& nI 31))) (16 + 4 * i) (nI 18)) (16 + 4 * i + 1) (nI 8)
    rw [upd_id (a := 16 + 4 * i + 2), upd_id (a := 16 + 4 * i + 3)]
    · rw [pk_un (by omega), pk_un (by omega), pk_un (by omega)]; exact w3
    · rw [pk_un (by omega), pk_un (by omega), pk_un (by omega)]; exact w2
  · show mb (upd (upd e.2.1 1 (nI 1)) (2 + i / 2) (nI 1)) c = mb (upd (upd (upd e.2.1 (10 / 8) (nI 1)) ((16 + 4 * i) / 8) (nI 1)) ((16 + 4 * i + 1) / 8) (nI 1)) c
    rw [show (16 + 4 * i) / 8 = 2 + i / 2 by omega, show (16 + 4 * i + 1) / 8 = 2 + i / 2 by omega, upd_upd]
/-- the inode and its block, in both, as create makes them -/
theorem J_new {d : cS4} {e : rS2} {K L S : Nat → Nat} {N E : Nat → Nat → Nat} {i : Nat} {dir : Bool} (hm : MR d e) (hsi : SI e) (hx : Sx e.1 K L S N E) (h1 : 1 ≤ i) (h2 : i < 16) (hi : K i = 0) (hf : dir = true → 0 < freeN e.1 e.2.2.2.1) :
    ∃ b d' t S' N', (dir = true → fndF (freeB (rNewI i true e).1 (rNewI i true e).2.2.2.1) 30 18 = some b) ∧ (∀ (X : pScr) (nx : Nat) (ok : Bool) (Q : pRes → Prop) (d1 : cS1) (d6 : cS6) (d9 : cS9) (R : pMem), (pW X (if dir = true then 85 else 84) 0 [.ref 4, .int (nI i)] [] (cSW d1 d d6 d9 R) nx ok Q ↔ Q (.inl none, cSW d1 d' d6 d9 R, nx, ok, 0, 0))) ∧
      MR d' (rCre i b dir e) ∧ SI (rCre i b dir e) ∧ (t = 1 ∨ t = 2) ∧ Sx (rCre i b dir e).1 (sN K i t) (sN L i 1) S' N' E ∧ (∀ x, ¬ x = i → S' x = S x) ∧ (rCre i b dir e).2.2.2.1 = e.2.2.2.1 ∧ freeN (rCre i b dir e).1 e.2.2.2.1 + b2n dir = freeN e.1 e.2.2.2.1 ∧ mb (rCre i b dir e).2.1 1 = true ∧ nCh (rCre i b dir e) ≤ nCh e + 2 + b2n dir := by
  obtain ⟨w0, w1, w2, w3⟩ := hx.1.1 i h1 h2
  have hc := hx.2.2.1
  obtain ⟨l0, s0⟩ := hc.2.2.1 i hi
  rw [hi, l0] at w0
  rw [s0] at w1
  rw [Sc_no0 hc hi] at w2 w3
  have hbit : ib (e.1 10) i = false := by rw [hx.1.2.1 i h1 h2, hi]; rfl
  cases dir with
  | false =>
    obtain ⟨s1, s2, s3⟩ := SI_newI (i := i) (dir := false) hsi
    have hmr := MR_newF hm h2 hbit w0 w1 w2 w3
    have hme : (rNewI i false e).1 = upd (upd e.1 10 (e.1 10 ||| nI 1 <<< (nI i &&& nI 31))) (16 + 4 * i) (nI 17) := by
      show upd (upd (upd (upd (upd e.1 10 (e.1 10 ||| nI 1 <<< (nI i &&& nI 31))) (16 + 4 * i) (nI 17)) (16 + 4 * i + 1) (nI 0)) (16 + 4 * i + 2) (nI 0)) (16 + 4 * i + 3) (nI 0) = _
      rw [upd_id (a := 16 + 4 * i + 1), upd_id (a := 16 + 4 * i + 2), upd_id (a := 16 + 4 * i + 3)]
      · rw [pk_un (by omega), pk_un (by omega)]; exact w3
      · rw [pk_un (by omega), pk_un (by omega)]; exact w2
      · rw [pk_un (by omega), pk_un (by omega)]; exact w1
    have hxn : Sx (rNewI i false e).1 (sN K i 1) (sN L i 1) S N E := by
      rw [hme]
      refine Sx_newF hx h1 h2 hi pk_us (fun x hx16 => ?_) (fun q q1 q2 => ?_)
      · rw [pk_un (by omega), pk_us, ib_set (by omega)]
      · rw [pk_un q1, pk_un q2]
    refine ⟨0, _, 1, S, N, fun z => (by cases z), fun X nx ok Q d1 d6 d9 R => q_mkF h2, hmr, s1, Or.inl rfl, hxn, fun _ _ => rfl, rfl, ?_, s2, s3⟩
    show freeN (rNewI i false e).1 e.2.2.2.1 + 0 = _
    rw [hme, freeN_at (f := e.1)]
    · rfl
    · rw [pk_un (by omega), pk_un (by omega)]
    · rw [pk_un (by omega), pk_un (by omega)]
  | true =>
    obtain ⟨b, hb, b1, b2, b3, b4⟩ := free_pos (hf rfl)
    obtain ⟨s1, s2, s3⟩ := SI_newI (i := i) (dir := true) hsi
    have hmr := MR_newD hm h2 hbit w0 w1 w2 w3
    have hme : (rNewI i true e).1 = upd (upd (upd e.1 10 (e.1 10 ||| nI 1 <<< (nI i &&& nI 31))) (16 + 4 * i) (nI 18)) (16 + 4 * i + 1) (nI 8) := by
      show upd (upd (upd (upd (upd e.1 10 (e.1 10 ||| nI 1 <<< (nI i &&& nI 31))) (16 + 4 * i) (nI 18)) (16 + 4 * i + 1) (nI 8)) (16 + 4 * i + 2) (nI 0)) (16 + 4 * i + 3) (nI 0) = _
      rw [upd_id (a := 16 + 4 * i + 2), upd_id (a := 16 + 4 * i + 3)]
      · rw [pk_un (by omega), pk_un (by omega), pk_un (by omega)]; exact w3
      · rw [pk_un (by omega), pk_un (by omega), pk_un (by omega)]; exact w2
    have hat : ∀ q, ¬ q = 10 → ¬ q = 16 + 4 * i → ¬ q = 16 + 4 * i + 1 → (rNewI i true e).1 q = e.1 q := fun q q1 q2 q3 => by
      rw [hme, pk_un q3, pk_un q2, pk_un q1]
    have hff : fndF (freeB (rNewI i true e).1 (rNewI i true e).2.2.2.1) 30 18 = some b := by
      rw [← hb]
      exact freef_at (hat 8 (by omega) (by omega) (by omega)) (hat 9 (by omega) (by omega) (by omega))
    have htb : tkB (rNewI i true e).1 b = false := by
      rw [tkB_at (f := e.1) (hat _ (by omega) (by omega) (by omega))]
      exact b3
    have hmt := MR_tkD hmr b2 htb
    obtain ⟨t1, t2, t3⟩ := SI_tk s1 b1
    have hmn := MR_chgS (v := nI b) hmt (a := 16 + 4 * i + 2) (by omega) (by
      show mb (upd (upd (upd (upd e.2.1 1 (nI 1)) (2 + i / 2) (nI 1)) 1 (nI 1)) b (nI 1)) ((16 + 4 * i + 2) / 8) = true
      rw [show (16 + 4 * i + 2) / 8 = 2 + i / 2 by omega, mb_1, mb_1, mb_1]
      simp)
    have htk : ∀ q, ¬ q = 16 + 4 * i → ¬ q = 16 + 4 * i + 1 → ¬ q = 10 → tkM (rNewI i true e).1 b q = tkM e.1 b q := fun q q1 q2 q3 => tkM_at (hat q q3 q1 q2) (hat _ (by omega) (by omega) (by omega))
    have hxn : Sx (rNewD i b (rTake b false (rNewI i true e))).1 (sN K i 2) (sN L i 1) (sN S i 8) (sE N i 0 b) E := by
      show Sx (upd (tkM (rNewI i true e).1 b) (16 + 4 * i + 2) (nI b)) _ _ _ _ _
      refine Sx_newD (b := b) hx h1 h2 hi b3 b1 b2 ?_ ?_ pk_us (fun x hx16 => ?_) (fun q q1 q2 q3 q4 => ?_)
      · rw [pk_un (by omega), tkM_o b1 (by omega) (by omega) b2, hme, pk_un (by omega), pk_us]
      · rw [pk_un (by omega), tkM_o b1 (by omega) (by omega) b2, hme, pk_us]
      · rw [pk_un (by omega), tkM_o b1 (by omega) (by omega) b2, hme, pk_un (by omega), pk_un (by omega), pk_us, ib_set (by omega)]
      · rw [pk_un q3]
        exact htk q q1 q2 q4
    refine ⟨b, _, 2, sN S i 8, sE N i 0 b, fun _ => hff, fun X nx ok Q d1 d6 d9 R => q_mkD h2 (by rw [tkf_eq hmr]; exact hff), hmn, t1, Or.inr rfl, hxn, fun x hx => sN_n hx, rfl, ?_, t2, ?_⟩
    · show freeN (upd (tkM (rNewI i true e).1 b) (16 + 4 * i + 2) (nI b)) e.2.2.2.1 + 1 = _
      rw [freeN_at (f := tkM e.1 b)]
      · refine freeN_tk b1 b2 ?_
        unfold freeB
        rw [b3, b4]
        rfl
      · rw [pk_un (by omega)]
        exact htk 8 (by omega) (by omega) (by omega)
      · rw [pk_un (by omega)]
        exact htk 9 (by omega) (by omega) (by omega)
    · have g1 := cnt_1le (g := upd (rNewI i true e).2.1 1 (nI 1)) (a := b)
      rw [cnt_1eq s2] at g1
      show cntF (mb (upd (upd (rNewI i true e).2.1 1 (nI 1)) b (nI 1))) 48 0 0 ≤ cntF (mb e.2.1) 48 0 0 + 2 + 1
      have s3' : cntF (mb (rNewI i true e).2.1) 48 0 0 ≤ cntF (mb e.2.1) 48 0 0 + 2 := s3
      omega
