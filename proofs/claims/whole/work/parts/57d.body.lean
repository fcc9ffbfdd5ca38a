theorem lnk_0 {f w : Nat → Int32} {K L S : Nat → Nat} {N E : Nat → Nat → Nat} (h : Sx f K L S N E) (hL : ∀ i, L i ≤ 240) {d n i : Nat} (h1 : 1 ≤ d) (h2 : d < 16) (hi1 : 1 ≤ i) (hi2 : i < 16) (hn : n < 32) : lnkN f w d (S d) i (nI n) = if K d = 0 ∨ K i = 0 then 3 else if (K d = 2 ∧ fndF (nmN E d n) (S d) 0 = none) ∧ K i = 1 then (if freeN f w < ndN f d (S d) then 2 else 0) else 4 := by
  unfold lnkN
  rw [unr_0 h hL h1 h2 hn]
  simp only [r_kd0 h hL h1 h2 (show 0 < 16 by omega), r_kd0 h hL hi1 hi2 (show 0 < 16 by omega), r_kd0 h hL hi1 hi2 (show 2 < 16 by omega)]
  rcases K_cases h.2.2.1 d with c | c | c <;> rcases K_cases h.2.2.1 i with c2 | c2 | c2 <;> simp [c, c2]
theorem SI_lnk {e : rS2} {i : Nat} {m : Nat → Int32} (h : SI e) : SI (m, upd e.2.1 (2 + i / 2) (nI 1), e.2.2) := by
  obtain ⟨h1, h2, h3, h4⟩ := h
  refine ⟨fun c hc hm => ?_, h2, fun c hc hm => ?_, fun hm => ?_⟩
  · have hm2 : mb (upd e.2.1 (2 + i / 2) (nI 1)) c = true := hm
    rw [mb_1] at hm2
    by_cases c1 : c = 2 + i / 2
    · omega
    · simp [c1] at hm2
      exact h1 c hc hm2
  · show mb (upd e.2.1 (2 + i / 2) (nI 1)) 1 = true
    rw [mb_1, h3 c hc hm]
    simp
  · show mb (upd e.2.1 (2 + i / 2) (nI 1)) 1 = true
    rw [mb_1, h4 hm]
    simp
theorem tkM_upd {f : Nat → Int32} {a b : Nat} {v : Int32} (h1 : ¬ a = 8 + b / 32) (h2 : a < 8 * b ∨ 8 * b + 8 ≤ a) : tkM (upd f a v) b = upd (tkM f b) a v := by
  funext q
  by_cases c : q = a
  · subst c
    rw [pk_us]
    unfold tkM zerF
    rw [if_neg (by omega), pk_un h1, pk_us]
  · rw [pk_un c]
    exact tkM_at (pk_un c) (pk_un (fun z => h1 z.symm))
theorem B_link {d4 : cS4} {e2 : rS2} {d n i : Nat} (h : GI d4 e2) (h1 : 1 ≤ d) (h2 : d < 16) (hn1 : 1 ≤ n) (hn2 : n ≤ 26) (hi1 : 1 ≤ i) (hi2 : i < 16) : BodyR 9 16 [.ref 0, .int (nI d), .int (nI n), .int (nI i)] 141 47 [.ref 13, .int (nI d), .int (nI n), .int (nI i)] d4 e2 := by
  have hg := h
  obtain ⟨hm, hsi, K, L, S, N, E, hx, h3, h4⟩ := h
  have hL := F3_L hx.2.2.1 h3
  have hI := hm.1
  have hu := lnk_0 (w := e2.2.2.2.1) hx hL h1 h2 hi1 hi2 (n := n) (by omega)
  have hfr := r_frK hx hL h1 h2
  have hfri := r_frK hx hL hi1 hi2
  have hk1 := r_kd0 hx hL hi1 hi2 (show 1 < 16 by omega)
  have hD := r_isD hx hL h1 h2
  have hnl := r_nl hx hL h1 h2 (n := n) (by omega)
  have hdn : ¬ kd e2.1 d = nI 0 → ¬ kd e2.1 d = nI 1 → K d = 2 := fun z1 z2 => by
    rcases K_cases hx.2.2.1 d with c | c | c
    · exact absurd ((r_kd0 hx hL h1 h2 (show 0 < 16 by omega)).mpr c) z1
    · exact absurd ((r_kd0 hx hL h1 h2 (show 1 < 16 by omega)).mpr c) z2
    · exact c
  have hdn1 : isD d4.1 d = true → dNum d4.1 d (S d) := fun z => by
    rw [hI] at z ⊢
    exact r_dNum hx (hD.mp z)
  by_cases hs : ((K d = 2 ∧ fndF (nmN E d n) (S d) 0 = none) ∧ K i = 1) ∧ ndN e2.1 d (S d) ≤ freeN e2.1 e2.2.2.2.1
  · obtain ⟨⟨⟨c, hnm⟩, ci⟩, hroom⟩ := hs
    have hdi : ¬ d = i := fun z => by rw [z] at c; omega
    have hLi := hL i
    have hw0 := (hx.1.1 i hi1 hi2).1
    have hval : e2.1 (16 + 4 * i) + nI 16 = nI (K i + 16 * (L i + 1)) := by
      rw [hw0, nI_add, show K i + 16 * L i + 16 = K i + 16 * (L i + 1) by omega]
    have hxl : Sx (rLnk i e2).1 K (sN L i (L i + 1)) S N E := by
      show Sx (upd e2.1 (16 + 4 * i) (e2.1 (16 + 4 * i) + nI 16)) _ _ _ _ _
      rw [hval]
      exact Sx_links hx (by omega)
    have hml : MR (chg (16 + 4 * i) (e2.1 (16 + 4 * i) + nI 16) d4) (rLnk i e2) := by
      refine MR_congr (MR_chg hm (a := 16 + 4 * i) (v := e2.1 (16 + 4 * i) + nI 16) (by omega) (by rw [hval, hw0]; exact nI_ne (by omega) (by omega) (by omega))) rfl (fun b _ => ?_) (fun _ _ => rfl) (fun _ _ => rfl) rfl
      show mb (upd e2.2.1 (2 + i / 2) (nI 1)) b = mb (upd e2.2.1 ((16 + 4 * i) / 8) (nI 1)) b
      rw [show (16 + 4 * i) / 8 = 2 + i / 2 by omega]
    have hsl : SI (rLnk i e2) := SI_lnk hsi
    have hfl : ∀ q, ¬ q = 16 + 4 * i → (rLnk i e2).1 q = e2.1 q := fun q hq => pk_un hq
    have hnd2 : ndN (rLnk i e2).1 d (S d) = ndN e2.1 d (S d) := by rw [ndN_eq hxl c, ndN_eq hx c]
    have hfn2 : freeN (rLnk i e2).1 (rLnk i e2).2.2.2.1 = freeN e2.1 e2.2.2.2.1 := freeN_at (hfl 8 (by omega)) (hfl 9 (by omega))
    have hff2 : fndF (freeB (rLnk i e2).1 (rLnk i e2).2.2.2.1) 30 18 = fndF (freeB e2.1 e2.2.2.2.1) 30 18 := freef_at (hfl 8 (by omega)) (hfl 9 (by omega))
    obtain ⟨dA, eA, SA, NA, kA, a1, a2, a3, a4, a5, a6, a7, a8, a9, a10, a11, a12, a13⟩ := J_enter (n := n) (i := i) hm hsi hx c hn1 hn2 (by omega) hnm hroom
    obtain ⟨dB, eB, SB, NB, kB, b1, b2, b3, b4, b5, b6, b7, b8, b9, b10, b11, b12, b13⟩ := J_enter (n := n) (i := i) hml hsl hxl c hn1 hn2 (by omega) hnm (by rw [hnd2, hfn2]; exact hroom)
    have hwA : eA.1 (16 + 4 * i) = e2.1 (16 + 4 * i) := by
      rw [(a5.1.1 i hi1 hi2).1, hw0]
    have hfin : MR (chg (16 + 4 * i) (dA.1 (16 + 4 * i) + nI 16) dA) eB := by
      rw [a3.1, hwA]
      refine MR_congr (MR_chg a3 (a := 16 + 4 * i) (v := e2.1 (16 + 4 * i) + nI 16) (by omega) (by rw [hwA, hval, hw0]; exact nI_ne (by omega) (by omega) (by omega))) ?_ (fun q _ => ?_) ?_ ?_ ?_
      · rcases a13 with ⟨q1, q2, q3⟩ | ⟨q1, b, q2, q3, q4, q5⟩
        · rcases b13 with ⟨r1, r2, r3⟩ | ⟨r1, _⟩
          · rw [q1] at r1
            have hkk := Option.some.inj r1
            subst hkk
            obtain ⟨n1, n2, _⟩ := Sc_dirN hx.2.2.1 c (k := kA) (by omega)
            subst q3 r3
            show upd (upd e2.1 (16 + 4 * i) _) (8 * N d (kA / 8) + kA % 8) _ = upd (upd e2.1 (8 * N d (kA / 8) + kA % 8) _) (16 + 4 * i) _
            exact upd_comm (by omega)
          · rw [q1] at r1
            cases r1
        · rcases b13 with ⟨r1, r2, r3⟩ | ⟨r1, b', r2, r3, r4, r5⟩
          · rw [q1] at r1
            cases r1
          · rw [hff2, q2] at r2
            have hbb := Option.some.inj r2
            subst hbb
            subst q5 r5
            show upd (upd (upd (tkM (upd e2.1 (16 + 4 * i) _) b) (16 + 4 * d + 1) (nI 16)) (16 + 4 * d + 3) (nI b)) (8 * b) _ = upd (upd (upd (upd (tkM e2.1 b) (16 + 4 * d + 1) (nI 16)) (16 + 4 * d + 3) (nI b)) (8 * b) _) (16 + 4 * i) _
            rw [tkM_upd (by omega) (by omega), upd_comm (a := 16 + 4 * i) (b := 16 + 4 * d + 1) (by omega), upd_comm (a := 16 + 4 * i) (b := 16 + 4 * d + 3) (by omega), upd_comm (a := 16 + 4 * i) (b := 8 * b) (by omega)]
      · rcases a13 with ⟨q1, q2, q3⟩ | ⟨q1, b, q2, q3, q4, q5⟩
        · rcases b13 with ⟨r1, r2, r3⟩ | ⟨r1, _⟩
          · rw [q1] at r1
            have hkk := Option.some.inj r1
            subst hkk
            subst q3 r3
            show mb (upd (upd e2.2.1 (2 + i / 2) (nI 1)) ((8 * N d (kA / 8) + kA % 8) / 8) (nI 1)) q = mb (upd (upd e2.2.1 ((8 * N d (kA / 8) + kA % 8) / 8) (nI 1)) ((16 + 4 * i) / 8) (nI 1)) q
            rw [show (16 + 4 * i) / 8 = 2 + i / 2 by omega, upd_swap]
          · rw [q1] at r1
            cases r1
        · rcases b13 with ⟨r1, r2, r3⟩ | ⟨r1, b', r2, r3, r4, r5⟩
          · rw [q1] at r1
            cases r1
          · rw [hff2, q2] at r2
            have hbb := Option.some.inj r2
            subst hbb
            subst q5 r5
            show mb (upd (upd (upd (upd (upd e2.2.1 (2 + i / 2) (nI 1)) 1 (nI 1)) b (nI 1)) (2 + d / 2) (nI 1)) (8 * b / 8) (nI 1)) q = mb (upd (upd (upd (upd (upd e2.2.1 1 (nI 1)) b (nI 1)) (2 + d / 2) (nI 1)) (8 * b / 8) (nI 1)) ((16 + 4 * i) / 8) (nI 1)) q
            rw [show (16 + 4 * i) / 8 = 2 + i / 2 by omega]
            simp only [mb_1]
            cases mb e2.2.1 q <;> cases decide (q = 2 + i / 2) <;> simp
      · intro q _
        rcases a13 with ⟨q1, q2, q3⟩ | ⟨q1, b, q2, q3, q4, q5⟩ <;> rcases b13 with ⟨r1, r2, r3⟩ | ⟨r1, b', r2, r3, r4, r5⟩ <;> (try subst q3) <;> (try subst q5) <;> (try subst r3) <;> (try subst r5) <;> rfl
      · intro q _
        rcases a13 with ⟨q1, q2, q3⟩ | ⟨q1, b, q2, q3, q4, q5⟩ <;> rcases b13 with ⟨r1, r2, r3⟩ | ⟨r1, b', r2, r3, r4, r5⟩ <;> (try subst q3) <;> (try subst q5) <;> (try subst r3) <;> (try subst r5) <;> rfl
      · rcases a13 with ⟨q1, q2, q3⟩ | ⟨q1, b, q2, q3, q4, q5⟩ <;> rcases b13 with ⟨r1, r2, r3⟩ | ⟨r1, b', r2, r3, r4, r5⟩ <;> (try subst q3) <;> (try subst q5) <;> (try subst r3) <;> (try subst r5) <;> rfl
    obtain ⟨f3, f4⟩ := F_link (v := n + 32 * i) hx.2.2.2 hx.2.2.1.1 h3 h4 ci c b7 b6 (by omega)
    have hv0 : lnkN e2.1 e2.2.2.2.1 d (S d) i (nI n) = 0 := by
      rw [hu, if_neg (by omega), if_pos ⟨⟨c, hnm⟩, ci⟩, if_neg (by omega)]
    refine ⟨0, none, none, _, eB, by omega, fun d1 d6 X nx ok Q d9 R => ?_, fun e1 e3 X nx ok Q e4 R => ?_, ⟨fun _ => ⟨rfl, vT_n (by decide +kernel)⟩, vT_n (by decide +kernel)⟩, ⟨hfin, b4, _, _, _, _, _, b5, f3, f4⟩, ?_⟩
    · rw [q_flink (s := S d) (e' := dA) h2 hi2 (by omega) hdn1 (fun _ _ _ _ _ => a2), hI, hfr, hfri, if_neg (by simp [c, ci]), if_pos ⟨hnl.mpr ⟨c, hnm⟩, hk1.mpr ci⟩, if_pos ((r_hr hm hx (c := 0) c).mpr (by omega))]
      exact Iff.rfl
    · rw [q_blink (s := S d) (e2' := eB) h2 hi2 (fun z1 z2 => r_dNum hx (hdn z1 z2)) (fun _ => b1), hv0, if_pos rfl]
    · have g1 := cnt_1le (g := e2.2.1) (a := 2 + i / 2)
      have g2 : nCh (rLnk i e2) ≤ nCh e2 + 1 := g1
      omega
  · have hc : ∀ (d1 : cS1) (d6 : cS6) (X : pScr) (nx : Nat) (ok : Bool) (Q : pRes → Prop) (d9 : cS9) (R : pMem), _ := fun d1 d6 X nx ok Q d9 R => q_flink (X := X) (nx := nx) (ok := ok) (Q := Q) (d1 := d1) (d4 := d4) (d6 := d6) (d9 := d9) (R := R) (s := S d) (n := n) (i := i) (e' := d4) h2 hi2 (by omega) hdn1 (fun _ _ q1 q2 q3 => by
      rw [hI] at q1 q2 q3
      obtain ⟨c, hnm⟩ := hnl.mp q1
      have := (r_hr hm hx c).mp q3
      exact absurd ⟨⟨⟨c, hnm⟩, hk1.mp q2⟩, by omega⟩ hs)
    have hr : ∀ (e1 : rS1) (e3 : rS3) (X : pScr) (nx : Nat) (ok : Bool) (Q : pRes → Prop) (e4 : rS4) (R : pMem), _ := fun e1 e3 X nx ok Q e4 R => q_blink (X := X) (nx := nx) (ok := ok) (Q := Q) (e1 := e1) (e2 := e2) (e3 := e3) (e4 := e4) (R := R) (s := S d) (n := n) (i := i) (e2' := e2) h2 hi2 (fun z1 z2 => r_dNum hx (hdn z1 z2)) (fun q1 => by
      rw [hu] at q1
      by_cases z1 : K d = 0 ∨ K i = 0
      · rw [if_pos z1] at q1; omega
      · rw [if_neg z1] at q1
        by_cases z2 : (K d = 2 ∧ fndF (nmN E d n) (S d) 0 = none) ∧ K i = 1
        · rw [if_pos z2] at q1
          by_cases z3 : freeN e2.1 e2.2.2.2.1 < ndN e2.1 d (S d)
          · rw [if_pos z3] at q1; omega
          · exact absurd ⟨z2, by omega⟩ hs
        · rw [if_neg z2] at q1; omega)
    by_cases z1 : K d = 0 ∨ K i = 0
    · refine ⟨3, none, none, d4, e2, by omega, fun d1 d6 X nx ok Q d9 R => ?_, fun e1 e3 X nx ok Q e4 R => ?_, ⟨fun z => by omega, vT_n (by decide +kernel)⟩, hg, by omega⟩
      · rw [hc, hI, hfr, hfri, if_pos (by simpa using z1)]
        exact Iff.rfl
      · rw [hr, show lnkN e2.1 e2.2.2.2.1 d (S d) i (nI n) = 3 by rw [hu, if_pos z1], if_neg (show ¬ 3 = 0 by omega)]
    · by_cases z2 : (K d = 2 ∧ fndF (nmN E d n) (S d) 0 = none) ∧ K i = 1
      · have z3 : freeN e2.1 e2.2.2.2.1 < ndN e2.1 d (S d) := by
          by_cases z3 : ndN e2.1 d (S d) ≤ freeN e2.1 e2.2.2.2.1
          · exact absurd ⟨z2, z3⟩ hs
          · omega
        refine ⟨2, none, none, d4, e2, by omega, fun d1 d6 X nx ok Q d9 R => ?_, fun e1 e3 X nx ok Q e4 R => ?_, ⟨fun z => by omega, vT_n (by decide +kernel)⟩, hg, by omega⟩
        · rw [hc, hI, hfr, hfri, if_neg (by simpa using z1), if_pos ⟨hnl.mpr z2.1, hk1.mpr z2.2⟩, if_neg (fun q => by have := (r_hr hm hx (c := 0) z2.1.1).mp q; omega)]
          exact Iff.rfl
        · rw [hr, show lnkN e2.1 e2.2.2.2.1 d (S d) i (nI n) = 2 by rw [hu, if_neg z1, if_pos z2, if_pos z3], if_neg (show ¬ 2 = 0 by omega)]
      · refine ⟨4, none, none, d4, e2, by omega, fun d1 d6 X nx ok Q d9 R => ?_, fun e1 e3 X nx ok Q e4 R => ?_, ⟨fun z => by omega, vT_n (by decide +kernel)⟩, hg, by omega⟩
        · rw [hc, hI, hfr, hfri, if_neg (by simpa using z1), if_neg (fun q => z2 ⟨hnl.mp q.1, hk1.mp q.2⟩)]
          exact Iff.rfl
        · rw [hr, show lnkN e2.1 e2.2.2.2.1 d (S d) i (nI n) = 4 by rw [hu, if_neg z1, if_neg z2], if_neg (show ¬ 4 = 0 by omega)]
