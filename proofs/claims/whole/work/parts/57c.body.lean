theorem r_nl {f : Nat → Int32} {K L S : Nat → Nat} {N E : Nat → Nat → Nat} (h : Sx f K L S N E) (hL : ∀ i, L i ≤ 240) {d n : Nat} (h1 : 1 ≤ d) (h2 : d < 16) (hn : n < 32) : (nlB f d (S d) (nI n) = true) ↔ (K d = 2 ∧ fndF (nmN E d n) (S d) 0 = none) := by
  unfold nlB
  rw [Bool.and_eq_true, decide_eq_true_eq, r_isD h hL h1 h2]
  constructor
  · intro ⟨a, b⟩
    rw [r_nmE h a hn] at b
    exact ⟨a, b⟩
  · intro ⟨a, b⟩
    refine ⟨a, ?_⟩
    rw [r_nmE h a hn]
    exact b
theorem r_hr {d : cS4} {e : rS2} {K L S : Nat → Nat} {N E : Nat → Nat → Nat} (hm : MR d e) (h : Sx e.1 K L S N E) {dd c : Nat} (hd : K dd = 2) : (hrB e.1 d.2.2.2.1 dd (S dd) c = true) ↔ ndN e.1 dd (S dd) + c ≤ freeN e.1 e.2.2.2.1 := by
  have ht := tkN_eq hm
  rw [hm.1] at ht
  exact hr_nd ((r_nmE h hd (n := 0) (by omega)).trans (r_mtch h hd (n := 0) (by omega)).symm) ht (h.2.2.1.2.2.2.2.2 dd hd).1
theorem B_create {d4 : cS4} {e2 : rS2} {d n : Nat} {dir : Bool} (h : GI d4 e2) (h1 : 1 ≤ d) (h2 : d < 16) (hn1 : 1 ≤ n) (hn2 : n ≤ 26) : BodyR 8 12 [.ref 0, .int (nI d), .int (nI n), .int (bI dir), pDum] 140 37 [.ref 13, .int (nI d), .int (nI n), .int (bI dir), pDum] d4 e2 := by
  have hg := h
  obtain ⟨hm, hsi, K, L, S, N, E, hx, h3, h4⟩ := h
  have hL := F3_L hx.2.2.1 h3
  have hI := hm.1
  have hu := unr_0 hx hL h1 h2 (n := n) (by omega)
  have hfr := r_frK hx hL h1 h2
  have hD := r_isD hx hL h1 h2
  have hnl := r_nl hx hL h1 h2 (n := n) (by omega)
  have hfk := fin_frK hx hL
  have hdn : ¬ kd e2.1 d = nI 0 → ¬ kd e2.1 d = nI 1 → K d = 2 := fun z1 z2 => by
    rcases K_cases hx.2.2.1 d with c | c | c
    · exact absurd ((r_kd0 hx hL h1 h2 (show 0 < 16 by omega)).mpr c) z1
    · exact absurd ((r_kd0 hx hL h1 h2 (show 1 < 16 by omega)).mpr c) z2
    · exact c
  have hdn1 : isD d4.1 d = true → dNum d4.1 d (S d) := fun z => by
    rw [hI] at z ⊢
    exact r_dNum hx (hD.mp z)
  by_cases hs : (K d = 2 ∧ fndF (nmN E d n) (S d) 0 = none) ∧ ¬ freeI e2.1 = 0 ∧ ndN e2.1 d (S d) + b2n dir ≤ freeN e2.1 e2.2.2.2.1
  · obtain ⟨⟨c, hnm⟩, hfi, hroom⟩ := hs
    have hfi2 : ¬ fndF (finB e2.1) 15 1 = none := fun z => hfi (freeI_0.mpr z)
    obtain ⟨i, hi⟩ : ∃ i, fndF (finB e2.1) 15 1 = some i := by
      cases q : fndF (finB e2.1) 15 1 with
      | none => exact absurd q hfi2
      | some i => exact ⟨i, rfl⟩
    obtain ⟨i1, i2, i3, _⟩ := fndF_some 15 1 i hi
    have hi16 : i < 16 := by omega
    have hKi : K i = 0 := by
      rw [r_fin hx hL i1 hi16, r_frK hx hL i1 hi16] at i3
      exact of_decide_eq_true i3
    have hdi : ¬ d = i := fun z => by rw [z] at c; omega
    obtain ⟨b, d', t, S', N', j1, j2, j3, j4, j5, j6, j7, j8, j9, j10, j11⟩ := J_new (dir := dir) hm hsi hx i1 hi16 hKi (fun z => by rw [z] at hroom; have : b2n true = 1 := rfl; omega)
    have hKd : sN K i t d = 2 := by rw [sN_n hdi]; exact c
    have hnd2 : ndN (rCre i b dir e2).1 d (S' d) = ndN e2.1 d (S d) := by
      rw [ndN_eq j6 hKd, ndN_eq hx c, j7 d hdi]
    obtain ⟨d'', e'', S'', N'', k, en1, en2, en3, en4, en5, en6, en7, en8, en9, en10, en11, en12, _⟩ := J_enter (n := n) (i := i) j3 j4 j6 hKd hn1 hn2 (by rw [sN_s]; omega) (by rw [j7 d hdi]; exact hnm) (by rw [hnd2, j8]; omega)
    obtain ⟨f3, f4⟩ := F_create (v := n + 32 * i) hx.2.2.2 hx.2.2.1.1 h3 h4 i1 hKi c en7 en6 (by omega) j5
    have hcnt := en12 j10
    refine ⟨0, some (.int (nI i)), some (.int (nI i)), d'', e'', by omega, fun d1 d6 X nx ok Q d9 R => ?_, fun e1 e3 X nx ok Q e4 R => ?_, ⟨fun _ => ⟨rfl, vT_v (by decide +kernel)⟩, vT_v (by decide +kernel)⟩, ⟨en3, en4, _, _, _, _, _, en5, f3, f4⟩, ?_⟩
    · rw [q_fcreate (s := S d) (i := i) (b := b) (e := d') (e' := d'') h2 (by omega) hdn1 (fun _ _ j hj _ => ?_), hI, hfr, if_neg (by simp [c]), if_pos (hnl.mpr ⟨c, hnm⟩), if_neg ?_]
      · exact Iff.rfl
      · intro z
        rcases z with z | z
        · rw [← hfk] at z
          exact hfi2 z
        · have := (r_hr hm hx (c := b2n dir) c).mpr hroom
          rw [this] at z
          cases z
      · rw [hI, ← hfk, hi] at hj
        exact ⟨(Option.some.inj hj).symm, fun Q => j2 X nx ok Q d1 d6 d9 R, en2⟩
    · rw [q_bcreate (s := S d) (i := i) (b := b) (e2' := e'') h2 (fun z1 z2 => r_dNum hx (hdn z1 z2)) (fun _ _ => ⟨hi, j1, en1⟩), hu, if_neg (show ¬ K d = 0 by omega), if_neg (show ¬ K d = 1 by omega), if_pos hnm, if_pos rfl, if_neg (fun z => by rcases z with z | z; exact hfi z; omega)]
    · have : b2n dir ≤ 1 := by cases dir <;> decide
      omega
  · have hc : ∀ (d1 : cS1) (d6 : cS6) (X : pScr) (nx : Nat) (ok : Bool) (Q : pRes → Prop) (d9 : cS9) (R : pMem), _ := fun d1 d6 X nx ok Q d9 R => q_fcreate (X := X) (nx := nx) (ok := ok) (Q := Q) (d1 := d1) (d4 := d4) (d6 := d6) (d9 := d9) (R := R) (s := S d) (n := n) (dir := dir) (i := 0) (b := 0) (e := d4) (e' := d4) h2 (by omega) hdn1 (fun _ q2 j hj q3 => by
      rw [hI] at q2 hj q3
      obtain ⟨c, hnm⟩ := hnl.mp q2
      refine absurd ⟨⟨c, hnm⟩, fun z => ?_, (r_hr hm hx c).mp q3⟩ hs
      rw [freeI_0, hfk] at z
      rw [z] at hj
      cases hj)
    have hr : ∀ (e1 : rS1) (e3 : rS3) (X : pScr) (nx : Nat) (ok : Bool) (Q : pRes → Prop) (e4 : rS4) (R : pMem), _ := fun e1 e3 X nx ok Q e4 R => q_bcreate (X := X) (nx := nx) (ok := ok) (Q := Q) (e1 := e1) (e2 := e2) (e3 := e3) (e4 := e4) (R := R) (s := S d) (n := n) (dir := dir) (i := 0) (b := 0) (e2' := e2) h2 (fun z1 z2 => r_dNum hx (hdn z1 z2)) (fun q1 q2 => by
      rw [hu] at q1
      rcases K_cases hx.2.2.1 d with c | c | c
      · rw [if_pos c] at q1; omega
      · rw [if_neg (by omega), if_pos c] at q1; omega
      · rw [if_neg (by omega), if_neg (by omega)] at q1
        by_cases hnm : fndF (nmN E d n) (S d) 0 = none
        · exact absurd ⟨⟨c, hnm⟩, fun z => q2 (Or.inl z), by have := fun z => q2 (Or.inr z); omega⟩ hs
        · rw [if_neg hnm] at q1; omega)
    rcases K_cases hx.2.2.1 d with c | c | c
    · refine ⟨3, none, some (.int (nI 0)), d4, e2, by omega, fun d1 d6 X nx ok Q d9 R => ?_, fun e1 e3 X nx ok Q e4 R => ?_, ⟨fun z => by omega, vT_v (by decide +kernel)⟩, hg, by omega⟩
      · rw [hc, hI, hfr, if_pos (by simp [c])]
        exact Iff.rfl
      · rw [hr, hu, if_pos c, if_neg (show ¬ 3 = 0 by omega)]
    · refine ⟨4, none, some (.int (nI 0)), d4, e2, by omega, fun d1 d6 X nx ok Q d9 R => ?_, fun e1 e3 X nx ok Q e4 R => ?_, ⟨fun z => by omega, vT_v (by decide +kernel)⟩, hg, by omega⟩
      · rw [hc, hI, hfr, if_neg (by simp [c]), if_neg (fun z => by have := (hnl.mp z).1; omega)]
        exact Iff.rfl
      · rw [hr, hu, if_neg (show ¬ K d = 0 by omega), if_pos c, if_neg (show ¬ 4 = 0 by omega)]
    · by_cases hnm : fndF (nmN E d n) (S d) 0 = none
      · have hor : freeI e2.1 = 0 ∨ freeN e2.1 e2.2.2.2.1 < ndN e2.1 d (S d) + b2n dir := by
          by_cases z : freeI e2.1 = 0
          · exact Or.inl z
          · right
            by_cases z2 : ndN e2.1 d (S d) + b2n dir ≤ freeN e2.1 e2.2.2.2.1
            · exact absurd ⟨⟨c, hnm⟩, z, z2⟩ hs
            · omega
        refine ⟨2, none, some (.int (nI 0)), d4, e2, by omega, fun d1 d6 X nx ok Q d9 R => ?_, fun e1 e3 X nx ok Q e4 R => ?_, ⟨fun z => by omega, vT_v (by decide +kernel)⟩, hg, by omega⟩
        · rw [hc, hI, hfr, if_neg (by simp [c]), if_pos (hnl.mpr ⟨c, hnm⟩), if_pos ?_]
          · exact Iff.rfl
          · rcases hor with z | z
            · left
              rw [← hfk]
              exact freeI_0.mp z
            · right
              cases q : hrB e2.1 d4.2.2.2.1 d (S d) (b2n dir) with
              | false => rfl
              | true => have := (r_hr hm hx c).mp q; omega
        · rw [hr, hu, if_neg (show ¬ K d = 0 by omega), if_neg (show ¬ K d = 1 by omega), if_pos hnm, if_pos rfl, if_pos hor]
      · refine ⟨4, none, some (.int (nI 0)), d4, e2, by omega, fun d1 d6 X nx ok Q d9 R => ?_, fun e1 e3 X nx ok Q e4 R => ?_, ⟨fun z => by omega, vT_v (by decide +kernel)⟩, hg, by omega⟩
        · rw [hc, hI, hfr, if_neg (by simp [c]), if_neg (fun z => hnm (hnl.mp z).2)]
          exact Iff.rfl
        · rw [hr, hu, if_neg (show ¬ K d = 0 by omega), if_neg (show ¬ K d = 1 by omega), if_neg hnm, if_neg (show ¬ 4 = 0 by omega)]
