theorem fnd_uniq {P : Nat → Bool} {m k : Nat} (h1 : P k = true) (h2 : k < m) (h3 : ∀ l, l < m → P l = true → l = k) : fndF P m 0 = some k := by
  cases e : fndF P m 0 with
  | none =>
    have := fnd_none_iff.mp e k h2
    rw [h1] at this
    cases this
  | some j =>
    obtain ⟨_, j1, j2, _⟩ := fndF_some m 0 j e
    rw [h3 j (by omega) j2]
/-- the only entry of that name -/
theorem nm_uniq {K S : Nat → Nat} {E : Nat → Nat → Nat} (hd : Sd K S E) {d n k l : Nat} (hn : 1 ≤ n) (h1 : E d k % 32 = n) (h2 : E d l % 32 = n) : l = k := by
  refine (hd.2.2 d l k (fun z => ?_) (by omega))
  rw [z] at h2
  omega
theorem ren_ao {f : Nat → Int32} {K L S : Nat → Nat} {N E : Nat → Nat → Nat} (hx : Sx f K L S N E) (hL : ∀ i, L i ≤ 240) (h3 : F3 K L E) (h4 : F4 K E) {i e : Nat} (hi1 : 1 ≤ i) (hi2 : i < 16) (he : K e = 2) : aoF f i 16 (some e) = (decide (kd f i = nI 2) && insF f i 20 e) := by
  have he2 := hx.2.2.1.1 e (by omega)
  obtain ⟨n, hn⟩ := h4 e he
  have hr := rch_short n e he2.2 hn
  have hup1 : up E 1 = 0 := by
    rcases up_spec E 1 with ⟨q, _⟩ | ⟨q1, q2, k, q3, q4⟩
    · exact q
    · have := Cn_pos (E := E) (by omega) q1 q2 q3 q4
      have := h3.2.2.1
      omega
  by_cases c : K i = 2
  · rw [decide_eq_true ((r_kd0 hx hL hi1 hi2 (by omega)).mpr c), r_ao hx hL hup1 14 e 16 20 he2.2 hr (by omega) (by omega)]
    rfl
  · rw [decide_eq_false (fun z => c ((r_kd0 hx hL hi1 hi2 (by omega)).mp z)), r_aof hx hL c 16 e he]
    rfl
theorem B_rename {d4 : cS4} {e2 : rS2} {d n e o : Nat} (h : GI d4 e2) (h1 : 1 ≤ d) (h2 : d < 16) (hn1 : 1 ≤ n) (hn2 : n ≤ 26) (he1 : 1 ≤ e) (he2 : e < 16) (ho1 : 1 ≤ o) (ho2 : o ≤ 26) : BodyR 11 21 [.ref 0, .int (nI d), .int (nI n), .int (nI e), .int (nI o), pDum, pDum] 147 59 [.ref 13, .int (nI d), .int (nI n), .int (nI e), .int (nI o), pDum, pDum, pDum] d4 e2 := by
  have hg := h
  obtain ⟨hm, hsi, K, L, S, N, E, hx, h3, h4⟩ := h
  have hL := F3_L hx.2.2.1 h3
  have hI := hm.1
  have hu := abs_0 hx hL h1 h2 (n := n) (by omega)
  have hue := unr_0 hx hL he1 he2 (n := o) (by omega)
  have hfr := r_frK hx hL h1 h2
  have hfre := r_frK hx hL he1 he2
  have hD := r_isD hx hL h1 h2
  have hDe := r_isD hx hL he1 he2
  have hnl := r_nl hx hL he1 he2 (n := o) (by omega)
  have hS16 : ∀ i, S i ≤ 16 := fun i => (hx.2.2.1.2.1 i).2
  have hK2 : ∀ x, 1 ≤ x → x < 16 → ¬ kd e2.1 x = nI 0 → ¬ kd e2.1 x = nI 1 → K x = 2 := fun x x1 x2 z1 z2 => by
    rcases K_cases hx.2.2.1 x with c | c | c
    · exact absurd ((r_kd0 hx hL x1 x2 (show 0 < 16 by omega)).mpr c) z1
    · exact absurd ((r_kd0 hx hL x1 x2 (show 1 < 16 by omega)).mpr c) z2
    · exact c
  have hdn1 : isD d4.1 d = true → dNum d4.1 d (S d) := fun z => by
    rw [hI] at z ⊢
    exact r_dNum hx (hD.mp z)
  have hen1 : isD d4.1 e = true → dNum d4.1 e (S e) := fun z => by
    rw [hI] at z ⊢
    exact r_dNum hx (hDe.mp z)
  have hall : dAll d4.1 := by rw [hI]; exact r_dAll hx hL
  have hch : K e = 2 → chF e2.1 20 e = true := fun c => by
    obtain ⟨m, hmm⟩ := h4 e c
    have hup1 : up E 1 = 0 := by
      rcases up_spec E 1 with ⟨q, _⟩ | ⟨q1, q2, k, q3, q4⟩
      · exact q
      · have := Cn_pos (E := E) (by omega) q1 q2 q3 q4
        have := h3.2.2.1
        omega
    exact r_ch hx hL hup1 14 e 20 he2 (rch_short m e he2 hmm) (by omega)
  by_cases hA : K d = 2 ∧ ¬ fndF (nmN E d n) (S d) 0 = none
  · obtain ⟨cd, hnn⟩ := hA
    obtain ⟨k, hk⟩ : ∃ k, fndF (nmN E d n) (S d) 0 = some k := by
      cases q : fndF (nmN E d n) (S d) 0 with
      | none => exact absurd q hnn
      | some k => exact ⟨k, rfl⟩
    obtain ⟨_, k1, k2, _⟩ := fndF_some (S d) 0 k hk
    have hk16 : k < 16 := by have := hS16 d; omega
    have hEn : E d k % 32 = n := of_decide_eq_true k2
    have hE0 : ¬ E d k = 0 := fun z => by rw [z] at hEn; omega
    have hEl := E_lt hx.2.2.1 hx.2.2.2 d k
    have hKi := (hx.2.2.2.2.1 d k hE0).2.2
    have hi := hx.2.2.1.1 _ hKi
    have hit := r_itm hx cd (k := k) (by omega)
    have hep := r_epos hx h1 h2 hk16
    obtain ⟨n1, n2, n3, n4, n5⟩ := Sc_dirN hx.2.2.1 cd (k := k) (by omega)
    have habs : absN e2.1 d (S d) (nI n) = 0 := by
      rw [hu, if_neg (by omega), if_neg (by omega), if_neg hnn]
    have hmk : fndF (mtch e2.1 d (nI n)) (S d) 0 = some k := by rw [r_mtch hx cd (by omega)]; exact hk
    have hnk : fndF (nmE e2.1 d (nI n)) (S d) 0 = some k := by rw [r_nmE hx cd (by omega)]; exact hk
    have hus : us 5 (itm e2.1 d k) = nI (E d k / 32) := by rw [hit, us5_n (by omega)]
    by_cases hs : (K e = 2 ∧ fndF (nmN E e o) (S e) 0 = none) ∧ aoF e2.1 (E d k / 32) 16 (some e) = false ∧ ndN e2.1 e (S e) ≤ freeN e2.1 e2.2.2.2.1
    · obtain ⟨⟨ce, hno⟩, hao, hroom⟩ := hs
      have hao2 := hao
      rw [ren_ao hx hL h3 h4 hi.1 hi.2 ce] at hao2
      obtain ⟨d', e', S', N', k', en1, en2, en3, en4, en5, en6, en7, en8, en9, en10, en11, en12, _⟩ := J_enter (n := o) (i := E d k / 32) hm hsi hx ce ho1 ho2 hKi hno hroom
      have hne : ¬ (d = e ∧ k = k') := fun z => by
        obtain ⟨rfl, rfl⟩ := z
        exact hE0 en6
      have hE1 : sE E e k' (o + 32 * (E d k / 32)) d k = E d k := sE_n hne
      have hSd : k < S' d := by
        by_cases z : d = e
        · subst z; omega
        · rw [en9 d z]; omega
      have hk3 : fndF (mtch e'.1 d (nI n)) (S' d) 0 = some k := by
        rw [r_mtch en5 cd (by omega)]
        refine fnd_uniq ?_ hSd (fun l hl hp => ?_)
        · unfold nmN
          rw [hE1]
          exact decide_eq_true hEn
        · unfold nmN at hp
          exact nm_uniq en5.2.2.2 (d := d) hn1 (by rw [hE1]; exact hEn) (of_decide_eq_true hp)
      have hep' : epos e'.1 d k = 8 * N d (k / 8) + k % 8 := by
        rw [r_epos en5 h1 h2 hk16, en8 _ _ n1]
      have hval : e'.1 (8 * N d (k / 8) + k % 8) = nI (E d k) := by
        have := en5.2.1 d k cd hSd
        rw [en8 _ _ n1, hE1] at this
        exact this
      have hmf := MR_chg en3 (a := 8 * N d (k / 8) + k % 8) (v := nI 0) (by omega) (by rw [hval]; exact nI_ne hE0 (by omega) (by omega))
      have hxf : Sx (rPutE (8 * N d (k / 8) + k % 8) (nI 0) e').1 K L S' N' (sE (sE E e k' (o + 32 * (E d k / 32))) d k 0) := by
        have := Sx_put (d := d) (k := k) (v := 0) en5 cd hSd (Or.inl rfl)
        rw [en8 _ _ n1] at this
        exact this
      obtain ⟨f3, f4⟩ := F_ren (v := o + 32 * (E d k / 32)) (k' := k') hx.2.2.2 hS16 hx.2.2.1.1 h3 h4 hE0 rfl ce en7 en6 (by omega) (fun ci => by
        obtain ⟨m, hmm⟩ := h4 e ce
        have hr := rch_short m e he2 hmm
        rw [decide_eq_true ((r_kd0 hx hL hi.1 hi.2 (by omega)).mpr ci), Bool.true_and] at hao2
        exact ⟨14, fun E' hE' => r_ins hx hL hE' 14 e 20 ce hr (by omega) hao2⟩)
      have hren : renN e2.1 e2.2.2.2.1 d (S d) e (S e) (E d k / 32) (nI n) (nI o) = 0 := by
        have hun : unrN e2.1 e (S e) (nI o) = 0 := by
          rw [hue, if_neg (by omega), if_neg (by omega), if_pos hno]
        unfold renN
        rw [if_pos habs, if_pos hun, hao2, if_neg (by simp), if_neg (by omega)]
      refine ⟨0, none, none, _, _, by omega, fun d1 d6 X nx ok Q d9 R => ?_, fun e1 e3 X nx ok Q e4 R => ?_, ⟨fun _ => ⟨rfl, vT_n (by decide +kernel)⟩, vT_n (by decide +kernel)⟩, ⟨hmf, SI_put en4 (by omega), _, _, _, _, _, hxf, f3, f4⟩, ?_⟩
      · rw [q_frename (s := S d) (s2 := S e) (k := k) (i := E d k / 32) (e' := d') h2 he2 (by omega) hdn1 hen1 hall (fun _ _ j hj => ?_), hI, hfr, if_neg (by simp [cd]), if_pos (hD.mpr cd), if_neg (by rw [hnk]; simp), hfre, if_neg (by simp [ce]), if_pos ⟨hnl.mpr ⟨ce, hno⟩, hao⟩, if_pos ((r_hr hm hx (c := 0) ce).mpr (by omega)), hep]
        · exact Iff.rfl
        · rw [hI, hnk] at hj
          rw [hI]
          exact ⟨(Option.some.inj hj).symm, hus, hi.2, fun _ _ _ _ => en2⟩
      · rw [q_bren (s := S d) (s2 := S e) (k := k) (v := E d k) (k3 := k) (s3 := S' d) (e2' := e') h2 he2 (fun z1 z2 => r_dNum hx (hK2 d h1 h2 z1 z2)) (fun z1 z2 => r_dNum hx (hK2 e he1 he2 z1 z2)) (r_dAll hx hL) (fun _ => ⟨hmk, hit, by omega, hi.2, fun _ => hch ce⟩) (fun _ => ⟨en1, r_dNum en5 cd, hk3⟩), if_pos hren, hep']
      · have g1 := cnt_1le (g := e'.2.1) (a := (8 * N d (k / 8) + k % 8) / 8)
        have g2 : nCh (rPutE (8 * N d (k / 8) + k % 8) (nI 0) e') ≤ nCh e' + 1 := g1
        omega
    · have hc : ∀ (d1 : cS1) (d6 : cS6) (X : pScr) (nx : Nat) (ok : Bool) (Q : pRes → Prop) (d9 : cS9) (R : pMem), _ := fun d1 d6 X nx ok Q d9 R => q_frename (X := X) (nx := nx) (ok := ok) (Q := Q) (d1 := d1) (d4 := d4) (d6 := d6) (d9 := d9) (R := R) (s := S d) (s2 := S e) (n := n) (o := o) (k := k) (i := E d k / 32) (e' := d4) h2 he2 (by omega) hdn1 hen1 hall (fun _ _ j hj => by
        rw [hI, hnk] at hj
        rw [hI]
        refine ⟨(Option.some.inj hj).symm, hus, hi.2, fun _ q1 q2 q3 => ?_⟩
        have hne := hnl.mp q1
        have := (r_hr hm hx hne.1).mp q3
        exact absurd ⟨hne, q2, by omega⟩ hs)
      have hr : ∀ (e1 : rS1) (e3 : rS3) (X : pScr) (nx : Nat) (ok : Bool) (Q : pRes → Prop) (e4 : rS4) (R : pMem), renN e2.1 e2.2.2.2.1 d (S d) e (S e) (E d k / 32) (nI n) (nI o) ≠ 0 → _ := fun e1 e3 X nx ok Q e4 R hne => q_bren (X := X) (nx := nx) (ok := ok) (Q := Q) (e1 := e1) (e2 := e2) (e3 := e3) (e4 := e4) (R := R) (s := S d) (s2 := S e) (n := n) (o := o) (k := k) (v := E d k) (k3 := k) (s3 := S d) (e2' := e2) h2 he2 (fun z1 z2 => r_dNum hx (hK2 d h1 h2 z1 z2)) (fun z1 z2 => r_dNum hx (hK2 e he1 he2 z1 z2)) (r_dAll hx hL) (fun _ => ⟨hmk, hit, by omega, hi.2, fun z => by
        rw [hue] at z
        rcases K_cases hx.2.2.1 e with c | c | c
        · rw [if_pos c] at z; omega
        · rw [if_neg (by omega), if_pos c] at z; omega
        · exact hch c⟩) (fun z => absurd z hne)
      have hren : renN e2.1 e2.2.2.2.1 d (S d) e (S e) (E d k / 32) (nI n) (nI o) = (if unrN e2.1 e (S e) (nI o) = 0 then (if (decide (kd e2.1 (E d k / 32) = nI 2) && insF e2.1 (E d k / 32) 20 e) = true then 4 else if freeN e2.1 e2.2.2.2.1 < ndN e2.1 e (S e) then 2 else 0) else unrN e2.1 e (S e) (nI o)) := if_pos habs
      rcases K_cases hx.2.2.1 e with c | c | c
      · have hv : renN e2.1 e2.2.2.2.1 d (S d) e (S e) (E d k / 32) (nI n) (nI o) = 3 := by
          rw [hren, hue, if_pos c, if_neg (show ¬ 3 = 0 by omega)]
        refine ⟨3, none, none, d4, e2, by omega, fun d1 d6 X nx ok Q d9 R => ?_, fun e1 e3 X nx ok Q e4 R => ?_, ⟨fun z => by omega, vT_n (by decide +kernel)⟩, hg, by omega⟩
        · rw [hc, hI, hfr, if_neg (by simp [cd]), if_pos (hD.mpr cd), if_neg (by rw [hnk]; simp), hfre, if_pos (by simp [c])]
          exact Iff.rfl
        · rw [hr _ _ _ _ _ _ _ _ (by omega), hv, if_neg (show ¬ 3 = 0 by omega)]
      · have hv : renN e2.1 e2.2.2.2.1 d (S d) e (S e) (E d k / 32) (nI n) (nI o) = 4 := by
          rw [hren, hue, if_neg (show ¬ K e = 0 by omega), if_pos c, if_neg (show ¬ 4 = 0 by omega)]
        refine ⟨4, none, none, d4, e2, by omega, fun d1 d6 X nx ok Q d9 R => ?_, fun e1 e3 X nx ok Q e4 R => ?_, ⟨fun z => by omega, vT_n (by decide +kernel)⟩, hg, by omega⟩
        · rw [hc, hI, hfr, if_neg (by simp [cd]), if_pos (hD.mpr cd), if_neg (by rw [hnk]; simp), hfre, if_neg (by simp [c]), if_neg (fun z => by have := (hnl.mp z.1).1; omega)]
          exact Iff.rfl
        · rw [hr _ _ _ _ _ _ _ _ (by omega), hv, if_neg (show ¬ 4 = 0 by omega)]
      · by_cases hno : fndF (nmN E e o) (S e) 0 = none
        · have hun : unrN e2.1 e (S e) (nI o) = 0 := by
            rw [hue, if_neg (by omega), if_neg (by omega), if_pos hno]
          have hra := ren_ao hx hL h3 h4 hi.1 hi.2 c
          by_cases hao : aoF e2.1 (E d k / 32) 16 (some e) = false
          · have z3 : freeN e2.1 e2.2.2.2.1 < ndN e2.1 e (S e) := by
              by_cases z3 : ndN e2.1 e (S e) ≤ freeN e2.1 e2.2.2.2.1
              · exact absurd ⟨⟨c, hno⟩, hao, z3⟩ hs
              · omega
            have hv : renN e2.1 e2.2.2.2.1 d (S d) e (S e) (E d k / 32) (nI n) (nI o) = 2 := by
              rw [hren, if_pos hun, ← hra, hao, if_neg (by simp), if_pos z3]
            refine ⟨2, none, none, d4, e2, by omega, fun d1 d6 X nx ok Q d9 R => ?_, fun e1 e3 X nx ok Q e4 R => ?_, ⟨fun z => by omega, vT_n (by decide +kernel)⟩, hg, by omega⟩
            · rw [hc, hI, hfr, if_neg (by simp [cd]), if_pos (hD.mpr cd), if_neg (by rw [hnk]; simp), hfre, if_neg (by simp [c]), if_pos ⟨hnl.mpr ⟨c, hno⟩, hao⟩, if_neg (fun q => by have := (r_hr hm hx (c := 0) c).mp q; omega)]
              exact Iff.rfl
            · rw [hr _ _ _ _ _ _ _ _ (by omega), hv, if_neg (show ¬ 2 = 0 by omega)]
          · have hv : renN e2.1 e2.2.2.2.1 d (S d) e (S e) (E d k / 32) (nI n) (nI o) = 4 := by
              rw [hren, if_pos hun, ← hra, if_pos (by simpa using hao)]
            refine ⟨4, none, none, d4, e2, by omega, fun d1 d6 X nx ok Q d9 R => ?_, fun e1 e3 X nx ok Q e4 R => ?_, ⟨fun z => by omega, vT_n (by decide +kernel)⟩, hg, by omega⟩
            · rw [hc, hI, hfr, if_neg (by simp [cd]), if_pos (hD.mpr cd), if_neg (by rw [hnk]; simp), hfre, if_neg (by simp [c]), if_neg (fun z => hao z.2)]
              exact Iff.rfl
            · rw [hr _ _ _ _ _ _ _ _ (by omega), hv, if_neg (show ¬ 4 = 0 by omega)]
        · have hv : renN e2.1 e2.2.2.2.1 d (S d) e (S e) (E d k / 32) (nI n) (nI o) = 4 := by
            rw [hren, hue, if_neg (show ¬ K e = 0 by omega), if_neg (show ¬ K e = 1 by omega), if_neg hno, if_neg (show ¬ 4 = 0 by omega)]
          refine ⟨4, none, none, d4, e2, by omega, fun d1 d6 X nx ok Q d9 R => ?_, fun e1 e3 X nx ok Q e4 R => ?_, ⟨fun z => by omega, vT_n (by decide +kernel)⟩, hg, by omega⟩
          · rw [hc, hI, hfr, if_neg (by simp [cd]), if_pos (hD.mpr cd), if_neg (by rw [hnk]; simp), hfre, if_neg (by simp [c]), if_neg (fun z => hno (hnl.mp z.1).2)]
            exact Iff.rfl
          · rw [hr _ _ _ _ _ _ _ _ (by omega), hv, if_neg (show ¬ 4 = 0 by omega)]
  · have hc : ∀ (d1 : cS1) (d6 : cS6) (X : pScr) (nx : Nat) (ok : Bool) (Q : pRes → Prop) (d9 : cS9) (R : pMem), _ := fun d1 d6 X nx ok Q d9 R => q_frename (X := X) (nx := nx) (ok := ok) (Q := Q) (d1 := d1) (d4 := d4) (d6 := d6) (d9 := d9) (R := R) (s := S d) (s2 := S e) (n := n) (o := o) (k := 0) (i := 0) (e' := d4) h2 he2 (by omega) hdn1 hen1 hall (fun _ q1 j hj => by
      rw [hI] at q1 hj
      have cd := hD.mp q1
      rw [r_nmE hx cd (by omega)] at hj
      exact absurd ⟨cd, by rw [hj]; simp⟩ hA)
    have hr : ∀ (e1 : rS1) (e3 : rS3) (X : pScr) (nx : Nat) (ok : Bool) (Q : pRes → Prop) (e4 : rS4) (R : pMem), absN e2.1 d (S d) (nI n) ≠ 0 → _ := fun e1 e3 X nx ok Q e4 R hne => q_bren (X := X) (nx := nx) (ok := ok) (Q := Q) (e1 := e1) (e2 := e2) (e3 := e3) (e4 := e4) (R := R) (s := S d) (s2 := S e) (n := n) (o := o) (k := 0) (v := 0) (k3 := 0) (s3 := S d) (e2' := e2) h2 he2 (fun z1 z2 => r_dNum hx (hK2 d h1 h2 z1 z2)) (fun z1 z2 => r_dNum hx (hK2 e he1 he2 z1 z2)) (r_dAll hx hL) (fun z => absurd z hne) (fun z => by
      unfold renN at z
      rw [if_neg hne] at z
      exact absurd z hne)
    have hren : absN e2.1 d (S d) (nI n) ≠ 0 → renN e2.1 e2.2.2.2.1 d (S d) e (S e) (0 / 32) (nI n) (nI o) = absN e2.1 d (S d) (nI n) := fun z => if_neg z
    rcases K_cases hx.2.2.1 d with c | c | c
    · have hv : absN e2.1 d (S d) (nI n) = 3 := by rw [hu, if_pos c]
      refine ⟨3, none, none, d4, e2, by omega, fun d1 d6 X nx ok Q d9 R => ?_, fun e1 e3 X nx ok Q e4 R => ?_, ⟨fun z => by omega, vT_n (by decide +kernel)⟩, hg, by omega⟩
      · rw [hc, hI, hfr, if_pos (by simp [c])]
        exact Iff.rfl
      · rw [hr _ _ _ _ _ _ _ _ (by omega), hren (by omega), hv, if_neg (show ¬ 3 = 0 by omega)]
    · have hv : absN e2.1 d (S d) (nI n) = 4 := by rw [hu, if_neg (by omega), if_pos c]
      refine ⟨4, none, none, d4, e2, by omega, fun d1 d6 X nx ok Q d9 R => ?_, fun e1 e3 X nx ok Q e4 R => ?_, ⟨fun z => by omega, vT_n (by decide +kernel)⟩, hg, by omega⟩
      · rw [hc, hI, hfr, if_neg (by simp [c]), if_neg (fun z => by have := hD.mp z; omega)]
        exact Iff.rfl
      · rw [hr _ _ _ _ _ _ _ _ (by omega), hren (by omega), hv, if_neg (show ¬ 4 = 0 by omega)]
    · have hnn : fndF (nmN E d n) (S d) 0 = none := by
        by_cases z : fndF (nmN E d n) (S d) 0 = none
        · exact z
        · exact absurd ⟨c, z⟩ hA
      have hv : absN e2.1 d (S d) (nI n) = 3 := by rw [hu, if_neg (by omega), if_neg (by omega), if_pos hnn]
      refine ⟨3, none, none, d4, e2, by omega, fun d1 d6 X nx ok Q d9 R => ?_, fun e1 e3 X nx ok Q e4 R => ?_, ⟨fun z => by omega, vT_n (by decide +kernel)⟩, hg, by omega⟩
      · rw [hc, hI, hfr, if_neg (by simp [c]), if_pos (hD.mpr c), if_pos (by rw [r_nmE hx c (by omega)]; exact hnn)]
        exact Iff.rfl
      · rw [hr _ _ _ _ _ _ _ _ (by omega), hren (by omega), hv, if_neg (show ¬ 3 = 0 by omega)]
