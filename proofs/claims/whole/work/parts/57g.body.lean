theorem r_nz {f : Nat → Int32} {K L S : Nat → Nat} {N E : Nat → Nat → Nat} (h : Sx f K L S N E) {i : Nat} (hi : K i = 2) : (fndF (nzE f i) (S i) 0 = none ↔ ∀ y, E i y = 0) ∧ (0 < cntF (nzE f i) (S i) 0 0 ↔ ¬ fndF (nzE f i) (S i) 0 = none) := by
  have hnz : ∀ k, k < S i → (nzE f i k = false ↔ E i k = 0) := fun k hk => by
    have hE := E_lt h.2.2.1 h.2.2.2 i k
    unfold nzE
    rw [r_itm h hi hk]
    simp
    exact nI_eq (by omega) (by omega)
  refine ⟨⟨fun z y => ?_, fun z => fnd_none_iff.mpr (fun k hk => (hnz k hk).mpr (z k))⟩, ⟨fun z q => ?_, fun z => ?_⟩⟩
  · by_cases c : E i y = 0
    · exact c
    · exact (hnz y (h.2.2.2.1 i y c).2).mp (fnd_none_iff.mp z y (h.2.2.2.1 i y c).2)
  · rw [cnt_none _ _ _ (fndF_none _ _ q)] at z
    omega
  · by_cases c : cntF (nzE f i) (S i) 0 0 = 0
    · exact absurd (fnd_none_iff.mpr (fun k hk => (cnt_0 _ _ _ c).2 k (by omega) (by omega))) z
    · omega
theorem B_unlink {d4 : cS4} {e2 : rS2} {d n : Nat} (h : GI d4 e2) (h1 : 1 ≤ d) (h2 : d < 16) (hn1 : 1 ≤ n) (hn2 : n ≤ 26) : BodyR 10 12 [.ref 0, .int (nI d), .int (nI n), pDum, pDum] 145 36 [.ref 13, .int (nI d), .int (nI n), pDum, pDum, pDum] d4 e2 := by
  have hg := h
  obtain ⟨hm, hsi, K, L, S, N, E, hx, h3, h4⟩ := h
  have hc0 := hx.2.2.1
  have hL := F3_L hc0 h3
  have hI := hm.1
  have hu := abs_0 hx hL h1 h2 (n := n) (by omega)
  have hfr := r_frK hx hL h1 h2
  have hD := r_isD hx hL h1 h2
  have hS16 : ∀ i, S i ≤ 16 := fun i => (hc0.2.1 i).2
  have hK2 : ∀ x, 1 ≤ x → x < 16 → ¬ kd e2.1 x = nI 0 → ¬ kd e2.1 x = nI 1 → K x = 2 := fun x x1 x2 z1 z2 => by
    rcases K_cases hc0 x with c | c | c
    · exact absurd ((r_kd0 hx hL x1 x2 (show 0 < 16 by omega)).mpr c) z1
    · exact absurd ((r_kd0 hx hL x1 x2 (show 1 < 16 by omega)).mpr c) z2
    · exact c
  have hdn1 : isD d4.1 d = true → dNum d4.1 d (S d) := fun z => by
    rw [hI] at z ⊢
    exact r_dNum hx (hD.mp z)
  by_cases hA : K d = 2 ∧ ¬ fndF (nmN E d n) (S d) 0 = none
  · obtain ⟨cd, hnn⟩ := hA
    obtain ⟨k, hk⟩ : ∃ k, fndF (nmN E d n) (S d) 0 = some k := by
      cases q : fndF (nmN E d n) (S d) 0 with
      | none => exact absurd q hnn
      | some k => exact ⟨k, rfl⟩
    obtain ⟨_, k1, k2, _⟩ := fndF_some (S d) 0 k hk
    have hk16 : k < 16 := by have := hS16 d; omega
    have hEn : E d k % 32 = n := of_decide_eq_true k2
    have hE0 : ¬ E d k = 0 := fun z => by rw [z] at hEn; omega
    have hEl := E_lt hc0 hx.2.2.2 d k
    obtain ⟨c1, c2, c3, c4, c5, c6, c7, c8, c9, c10, c11⟩ := Cn_erase hx.2.2.2 hS16 hc0.1 h3 hE0 rfl
    generalize hii : E d k / 32 = i at c1 c2 c3 c4 c5 c6 c7
    have hit := r_itm hx cd (k := k) (by omega)
    have hep := r_epos hx h1 h2 hk16
    obtain ⟨n1, n2, n3, n4, n5⟩ := Sc_dirN hc0 cd (k := k) (by omega)
    have habs : absN e2.1 d (S d) (nI n) = 0 := by
      rw [hu, if_neg (by omega), if_neg (by omega), if_neg hnn]
    have hmk : fndF (mtch e2.1 d (nI n)) (S d) 0 = some k := by rw [r_mtch hx cd (by omega)]; exact hk
    have hnk : fndF (nmE e2.1 d (nI n)) (S d) 0 = some k := by rw [r_nmE hx cd (by omega)]; exact hk
    have hus : us 5 (itm e2.1 d k) = nI i := by rw [hit, us5_n (by omega), hii]
    have hKi1 := r_kd0 hx hL c2 c3 (show 1 < 16 by omega)
    have hKi2 := r_kd0 hx hL c2 c3 (show 2 < 16 by omega)
    have hLi := hL i
    have hLp : 1 ≤ L i := by omega
    obtain ⟨w0, w1, w2, w3⟩ := hx.1.1 i c2 c3
    have hNb0 := N_lt hc0 i 0
    have hNb1 := N_lt hc0 i 1
    have hKi := (hc0.2.1 i).1
    -- the entry goes, and a link
    have hval : e2.1 (8 * N d (k / 8) + k % 8) = nI (E d k) := hx.2.1 d k cd (by omega)
    have m1 := MR_chg hm (a := 8 * N d (k / 8) + k % 8) (v := nI 0) (by omega) (by rw [hval]; exact nI_ne hE0 (by omega) (by omega))
    have hsub : nI (K i + 16 * L i) - nI 16 = nI (K i + 16 * (L i - 1)) := by
      rw [pk_sub (by omega), show K i + 16 * L i - 16 = K i + 16 * (L i - 1) by omega]
    have hv1 : (rPutE (8 * N d (k / 8) + k % 8) (nI 0) e2).1 (16 + 4 * i) = nI (K i + 16 * L i) := by
      show upd e2.1 (8 * N d (k / 8) + k % 8) (nI 0) (16 + 4 * i) = _
      rw [pk_un (by omega)]
      exact w0
    have m2' := MR_chg m1 (a := 16 + 4 * i) (v := nI (K i + 16 * (L i - 1))) (by omega) (by rw [hv1]; exact nI_ne (by omega) (by omega) (by omega))
    have hU : (rUnl i (rPutE (8 * N d (k / 8) + k % 8) (nI 0) e2)).1 = upd (upd e2.1 (8 * N d (k / 8) + k % 8) (nI 0)) (16 + 4 * i) (nI (K i + 16 * (L i - 1))) := by
      show upd (upd e2.1 (8 * N d (k / 8) + k % 8) (nI 0)) (16 + 4 * i) ((rPutE (8 * N d (k / 8) + k % 8) (nI 0) e2).1 (16 + 4 * i) - nI 16) = _
      rw [hv1, hsub]
    have m2 : MR (chg (16 + 4 * i) (nI (K i + 16 * (L i - 1))) (chg (8 * N d (k / 8) + k % 8) (nI 0) d4)) (rUnl i (rPutE (8 * N d (k / 8) + k % 8) (nI 0) e2)) := by
      refine MR_congr m2' ?_ (fun b _ => ?_) (fun _ _ => rfl) (fun _ _ => rfl) rfl
      · rw [hU]
        rfl
      · show mb (upd (upd e2.2.1 ((8 * N d (k / 8) + k % 8) / 8) (nI 1)) (2 + i / 2) (nI 1)) b = mb (upd (upd e2.2.1 ((8 * N d (k / 8) + k % 8) / 8) (nI 1)) ((16 + 4 * i) / 8) (nI 1)) b
        rw [show (16 + 4 * i) / 8 = 2 + i / 2 by omega]
    have hsU : SI (rUnl i (rPutE (8 * N d (k / 8) + k % 8) (nI 0) e2)) := SI_lnk (SI_put hsi (by omega))
    have hcU : nCh (rUnl i (rPutE (8 * N d (k / 8) + k % 8) (nI 0) e2)) ≤ nCh e2 + 2 := by
      have g1 := cnt_1le (g := e2.2.1) (a := (8 * N d (k / 8) + k % 8) / 8)
      have g2 := cnt_1le (g := upd e2.2.1 ((8 * N d (k / 8) + k % 8) / 8) (nI 1)) (a := 2 + i / 2)
      show cntF (mb (upd (upd e2.2.1 ((8 * N d (k / 8) + k % 8) / 8) (nI 1)) (2 + i / 2) (nI 1))) 48 0 0 ≤ cntF (mb e2.2.1) 48 0 0 + 2
      omega
    have hxE := Sx_put (d := d) (k := k) (v := 0) hx cd (by omega) (Or.inl rfl)
    have hcl : chg (16 + 4 * i) ((chg (epos d4.1 d k) (nI 0) d4).1 (16 + 4 * i) + nI 16 * (-nI 1)) (chg (epos d4.1 d k) (nI 0) d4) = chg (16 + 4 * i) (nI (K i + 16 * (L i - 1))) (chg (8 * N d (k / 8) + k % 8) (nI 0) d4) := by
      have hep2 : epos d4.1 d k = 8 * N d (k / 8) + k % 8 := by rw [hI]; exact hep
      rw [hep2, m1.1, hv1, sub16, hsub]
    generalize hX2 : chg (16 + 4 * i) (nI (K i + 16 * (L i - 1))) (chg (8 * N d (k / 8) + k % 8) (nI 0) d4) = X2 at m2 hcl
    generalize hUU : rUnl i (rPutE (8 * N d (k / 8) + k % 8) (nI 0) e2) = U at m2 hU hsU hcU
    have hX16 : X2.1 (16 + 4 * i) = nI (K i + 16 * (L i - 1)) := by rw [m2.1, hU, pk_us]
    have hus4 : us 4 (X2.1 (16 + 4 * i)) = nI (L i - 1) := by
      rw [hX16, us4_n (by omega), show (K i + 16 * (L i - 1)) / 16 = L i - 1 by omega]
    have hUn0 : U.1 (16 + 4 * i + 2) = nI (N i 0) := by rw [hU, pk_un (by omega), pk_un (by omega)]; exact w2
    have hUn1 : U.1 (16 + 4 * i + 3) = nI (N i 1) := by rw [hU, pk_un (by omega), pk_un (by omega)]; exact w3
    have hdbf : ∃ s, s < 2 ∧ X2.2.2.2.2 = nI s := by
      obtain ⟨s, q1, q2, _⟩ := m2.2.2.2.2
      exact ⟨s, q1, q2⟩
    obtain ⟨s, hs1, hs2⟩ := hdbf
    have hqc : ∀ (d1 : cS1) (d6 : cS6) (X : pScr) (nx : Nat) (ok : Bool) (Q : pRes → Prop) (d9 : cS9) (R : pMem), _ := fun d1 d6 X nx ok Q d9 R => q_funlink (X := X) (nx := nx) (ok := ok) (Q := Q) (d1 := d1) (d4 := d4) (d6 := d6) (d9 := d9) (R := R) (s := S d) (n := n) (k := k) (i := i) (s2 := S i) (b0 := N i 0) (b1 := N i 1) (m := s) h2 hdn1 (fun _ _ j hj => by
      rw [hI, hnk] at hj
      refine ⟨(Option.some.inj hj).symm, by rw [hI]; exact hus, c3, fun z => ?_, fun ee hee _ => ?_⟩
      · rw [hI] at z ⊢
        refine r_dNum hx ?_
        rcases K_cases hc0 i with c | c | c
        · exact absurd c c1
        · exact absurd (hKi1.mpr c) z
        · exact c
      · rw [hcl] at hee
        rw [hee]
        refine ⟨by omega, by omega, by rw [m2.1]; exact hUn0, ?_, hs2, hs1⟩
        have q1 : X2.1 (16 + 4 * i + 2 + 1) = nI (N i 1) := by rw [m2.1]; exact hUn1
        unfold frC
        by_cases z : N i 0 = 0
        · rw [if_pos z]
          exact q1
        · rw [if_neg z]
          show (chg (16 + 4 * i + 2) (nI 0) (chg (8 + N i 0 / 32) _ (dbf _ X2))).1 (16 + 4 * i + 2 + 1) = _
          rw [chg_im, chg_im, pk_un (by omega), pk_un (by omega)]
          exact q1)
    have hqr : ∀ (e1 : rS1) (e3 : rS3) (X : pScr) (nx : Nat) (ok : Bool) (Q : pRes → Prop) (e4 : rS4) (R : pMem), _ := fun e1 e3 X nx ok Q e4 R => q_bulk (X := X) (nx := nx) (ok := ok) (Q := Q) (e1 := e1) (e2 := e2) (e3 := e3) (e4 := e4) (R := R) (s := S d) (n := n) (k := k) (v := E d k) (s2 := S i) (b0 := N i 0) (b1 := N i 1) h2 (fun z1 z2 => r_dNum hx (hK2 d h1 h2 z1 z2)) (fun _ => by
      rw [hii]
      exact ⟨hmk, hit, by omega, c3, by rw [hep]; omega, fun z => r_dNum hx (hKi2.mp z), by omega, by omega, w2, w3⟩)
    rw [hii] at hqr
    by_cases hem : K i = 1 ∨ ∀ y, E i y = 0
    · have hem2 : ∀ y, E i y = 0 := fun y => by
        rcases hem with z | z
        · by_cases q : E i y = 0
          · exact q
          · have := (hx.2.2.2.1 i y q).1
            omega
        · exact z y
      have hulk : ulkN e2.1 d (S d) i (S i) (nI n) = 0 := by
        unfold ulkN
        rw [if_pos habs, if_neg ?_]
        intro z
        have ci := hKi2.mp z.1
        exact ((r_nz hx ci).2.mp z.2) ((r_nz hx ci).1.mpr hem2)
      have hcem : kd e2.1 i = nI 1 ∨ fndF (nzE e2.1 i) (S i) 0 = none := by
        rcases K_cases hc0 i with c | c | c
        · exact absurd c c1
        · exact Or.inl (hKi1.mpr c)
        · exact Or.inr ((r_nz hx c).1.mpr hem2)
      have hcU2 : ulkC (epos d4.1 d k) i (N i 0) (N i 1) d4 = if nI (L i - 1) = nI 0 then drpC i (N i 0) (N i 1) X2 else X2 := by
        unfold ulkC
        rw [hcl, hus4]
      have hrU2 : rUlk (epos e2.1 d k) i (N i 0) (N i 1) e2 = if nI 15 < nI (K i + 16 * (L i - 1)) then U else rDrp i (rRelI (N i 1) (decide (kd U.1 i = nI 2)) (rRelI (N i 0) (decide (kd U.1 i = nI 2)) U)) := by
        unfold rUlk
        rw [hep, hUU, hU, pk_us]
      by_cases hl : L i - 1 = 0
      · -- the last link
        have hL1 : L i = 1 := by omega
        obtain ⟨f3, f4, f5, f6⟩ := F_unlB hx.2.2.2 hS16 hc0.1 h3 h4 hE0 hii hl hem2
        have hxU := Sx_links (i := i) (l := 0) hxE c1
        have hkdU : kd U.1 i = nI (K i) := by
          unfold kd
          rw [hU, pk_us, nI_and15 (by omega), hl, show (K i + 16 * 0) % 16 = K i by omega]
        have htkU : ∀ c, tkB U.1 c = tkB e2.1 c ∨ ¬ c < 48 := fun c => by
          by_cases z : c < 48
          · left
            unfold tkB
            rw [hU, pk_un (by omega), pk_un (by omega)]
          · exact Or.inr z
        have htk2 : ∀ j, N i j = 0 ∨ tkB U.1 (N i j) = true := fun j => by
          by_cases z : N i j = 0
          · exact Or.inl z
          · right
            have := hc0.2.2.2.1 i j z
            rcases htkU (N i j) with q | q
            · rw [q]; exact hx.1.2.2 i j z
            · omega
        obtain ⟨j1, j2, j3, j4⟩ := J_drop (i := i) (b0 := N i 0) (b1 := N i 1) (dir := decide (kd U.1 i = nI 2)) m2 hsU c2 c3 (by
            rcases hNb0 with z | z
            · exact Or.inl z
            · rcases htk2 0 with q | q
              · omega
              · exact Or.inr ⟨z.1, z.2, q⟩) (by
            rcases hNb1 with z | z
            · exact Or.inl z
            · rcases htk2 1 with q | q
              · omega
              · refine Or.inr ⟨z.1, z.2, fun y => ?_, q⟩
                have := (hc0.2.2.2.2.1 i 1 i 0 (by omega) y).2
                omega) hUn0 hUn1 (by
            rw [← hUU]
            show mb (upd (upd e2.2.1 ((8 * N d (k / 8) + k % 8) / 8) (nI 1)) (2 + i / 2) (nI 1)) (2 + i / 2) = true
            rw [mb_1]
            simp) (by
            rw [hU, pk_un (by omega), pk_un (by omega), hx.1.2.1 i c2 c3]
            simp [c1]) (by rw [m2.1]) (fun z => by
            have := of_decide_eq_true z
            rw [hkdU] at this
            have ci := (nI_eq (by omega) (by omega)).mp this
            exact (hc0.2.2.2.2.2 i ci).2.1)
        have hxf : Sx (rDrp i (rRelI (N i 1) (decide (kd U.1 i = nI 2)) (rRelI (N i 0) (decide (kd U.1 i = nI 2)) U))).1 (sN K i 0) (sN L i 0) (sN S i 0) (zN N i) (sE E d k 0) := by
          rw [j4]
          refine Sx_drop (f := upd e2.1 (8 * N d (k / 8) + k % 8) (nI 0)) hxE c1 f5 (fun y => ?_) (fun j hj => ?_) (fun x hx16 => ?_) (fun c hc z0 z1 => ?_) (fun q q1 q2 => ?_)
          · by_cases z : i = d ∧ y = k
            · rw [z.1, z.2, sE_s]
            · rw [sE_n z]; exact hem2 y
          · rw [pk_un (by omega)]
            exact if_pos (by omega)
          · rw [pk_us, show (-nI 1) = (-1 : Int32) from rfl, ib_clr (by omega), hU, pk_un (by omega)]
          · unfold tkB
            rw [pk_un (by omega), show zerF (16 + 4 * i) 4 (frI (N i 1) (frI (N i 0) U.1)) (8 + c / 32) = frI (N i 1) (frI (N i 0) U.1) (8 + c / 32) from if_neg (by omega)]
            have := frI_tk (f := frI (N i 0) U.1) (b := N i 1) (c := c) (by omega) hc z1
            have := this.trans (frI_tk (f := U.1) (b := N i 0) (c := c) (by omega) hc z0)
            unfold tkB at this
            rw [this, hU, pk_un (by omega)]
          · rw [pk_un (by omega), show zerF (16 + 4 * i) 4 (frI (N i 1) (frI (N i 0) U.1)) q = frI (N i 1) (frI (N i 0) U.1) q from if_neg (by omega), frI_o (by omega) (by omega), frI_o (by omega) (by omega), hU, pk_un (by omega)]
        refine ⟨0, none, none, _, _, by omega, fun d1 d6 X nx ok Q d9 R => ?_, fun e1 e3 X nx ok Q e4 R => ?_, ⟨fun _ => ⟨rfl, vT_n (by decide +kernel)⟩, vT_n (by decide +kernel)⟩, ⟨j1, j2, _, _, _, _, _, hxf, f3, f4⟩, by omega⟩
        · rw [hqc, hcU2, if_pos (show nI (L i - 1) = nI 0 by rw [hl]), hI, hfr, if_neg (by simp [cd]), if_pos (hD.mpr cd), if_neg (by rw [hnk]; simp), if_pos hcem]
          exact Iff.rfl
        · rw [hqr, if_pos hulk, hrU2, if_neg (nI_nlt (by omega) (by omega))]
      · obtain ⟨f3, f4⟩ := F_unlA hx.2.2.2 hS16 hc0.1 h3 h4 hE0 hii hl
        have hxf : Sx U.1 K (sN L i (L i - 1)) S N (sE E d k 0) := by
          rw [hU]
          exact Sx_links hxE c1
        refine ⟨0, none, none, X2, U, by omega, fun d1 d6 X nx ok Q d9 R => ?_, fun e1 e3 X nx ok Q e4 R => ?_, ⟨fun _ => ⟨rfl, vT_n (by decide +kernel)⟩, vT_n (by decide +kernel)⟩, ⟨m2, hsU, _, _, _, _, _, hxf, f3, f4⟩, by omega⟩
        · rw [hqc, hcU2, if_neg (nI_ne hl (by omega) (by omega)), hI, hfr, if_neg (by simp [cd]), if_pos (hD.mpr cd), if_neg (by rw [hnk]; simp), if_pos hcem]
          exact Iff.rfl
        · rw [hqr, if_pos hulk, hrU2, if_pos (nI_lt (by omega) (by omega))]
    · have ci : K i = 2 := by
        rcases K_cases hc0 i with c | c | c
        · exact absurd c c1
        · exact absurd (Or.inl c) hem
        · exact c
      have hulk : ulkN e2.1 d (S d) i (S i) (nI n) = 4 := by
        unfold ulkN
        rw [if_pos habs, if_pos ⟨hKi2.mpr ci, (r_nz hx ci).2.mpr (fun z => hem (Or.inr ((r_nz hx ci).1.mp z)))⟩]
      refine ⟨4, none, none, d4, e2, by omega, fun d1 d6 X nx ok Q d9 R => ?_, fun e1 e3 X nx ok Q e4 R => ?_, ⟨fun z => by omega, vT_n (by decide +kernel)⟩, hg, by omega⟩
      · rw [hqc, hI, hfr, if_neg (by simp [cd]), if_pos (hD.mpr cd), if_neg (by rw [hnk]; simp), if_neg ?_]
        · exact Iff.rfl
        · intro z
          rcases z with z | z
          · have := hKi1.mp z
            omega
          · exact hem (Or.inr ((r_nz hx ci).1.mp z))
      · rw [hqr, hulk, if_neg (show ¬ 4 = 0 by omega)]
  · have hc : ∀ (d1 : cS1) (d6 : cS6) (X : pScr) (nx : Nat) (ok : Bool) (Q : pRes → Prop) (d9 : cS9) (R : pMem), _ := fun d1 d6 X nx ok Q d9 R => q_funlink (X := X) (nx := nx) (ok := ok) (Q := Q) (d1 := d1) (d4 := d4) (d6 := d6) (d9 := d9) (R := R) (s := S d) (n := n) (k := 0) (i := 0) (s2 := 0) (b0 := 0) (b1 := 0) (m := 0) h2 hdn1 (fun _ q1 j hj => by
      rw [hI] at q1 hj
      have cd := hD.mp q1
      rw [r_nmE hx cd (by omega)] at hj
      exact absurd ⟨cd, by rw [hj]; simp⟩ hA)
    have hr : ∀ (e1 : rS1) (e3 : rS3) (X : pScr) (nx : Nat) (ok : Bool) (Q : pRes → Prop) (e4 : rS4) (R : pMem), absN e2.1 d (S d) (nI n) ≠ 0 → _ := fun e1 e3 X nx ok Q e4 R hne => q_bulk (X := X) (nx := nx) (ok := ok) (Q := Q) (e1 := e1) (e2 := e2) (e3 := e3) (e4 := e4) (R := R) (s := S d) (n := n) (k := 0) (v := 0) (s2 := 0) (b0 := 0) (b1 := 0) h2 (fun z1 z2 => r_dNum hx (hK2 d h1 h2 z1 z2)) (fun z => absurd z hne)
    have hren : absN e2.1 d (S d) (nI n) ≠ 0 → ulkN e2.1 d (S d) (0 / 32) 0 (nI n) = absN e2.1 d (S d) (nI n) := fun z => if_neg z
    rcases K_cases hc0 d with c | c | c
    · have hv : absN e2.1 d (S d) (nI n) = 3 := by rw [hu, if_pos c]
      refine ⟨3, none, none, d4, e2, by omega, fun d1 d6 X nx ok Q d9 R => ?_, fun e1 e3 X nx ok Q e4 R => ?_, ⟨fun z => by omega, vT_n (by decide +kernel)⟩, hg, by omega⟩
      · rw [hc, hI, hfr, if_pos (by simp [c])]
        exact Iff.rfl
      · rw [hr _ _ _ _ _ _ _ _ (by omega), hren (by omega), hv, if_neg (show ¬ 3 = 0 by omega)]
    · have hv : absN e2.1 d (S d) (nI n) = 4 := by rw [hu, if_neg (by omega), if_pos c]
      refine ⟨4, none, none, d4, e2, by omega, fun d1 d6 X nx ok Q d9 R => ?_, fun e1 e3 X nx ok Q e4 R => ?_, ⟨fun z => by omega, vT_n (by decide +kernel)⟩, hg, by omega⟩
      · rw [hc, hI, hfr, if_neg (by simp [c]), if_neg (fun z => by have := hD.mp z; omega)]
        exact Iff.rfl
      · rw [hr _ _ _ _ _ _ _ _ (by omega), hren (by omega), hv, if_neg (show ¬ 4 = 0 by omega)]
    · have hnn : fndF (nmN E d n) (S d) 0 = none := by
        by_cases z : fndF (nmN E d n) (S d) 0 = none
        · exact z
        · exact absurd ⟨c, z⟩ hA
      have hv : absN e2.1 d (S d) (nI n) = 3 := by rw [hu, if_neg (by omega), if_neg (by omega), if_pos hnn]
      refine ⟨3, none, none, d4, e2, by omega, fun d1 d6 X nx ok Q d9 R => ?_, fun e1 e3 X nx ok Q e4 R => ?_, ⟨fun z => by omega, vT_n (by decide +kernel)⟩, hg, by omega⟩
      · rw [hc, hI, hfr, if_neg (by simp [c]), if_pos (hD.mpr c), if_pos (by rw [r_nmE hx c (by omega)]; exact hnn)]
        exact Iff.rfl
      · rw [hr _ _ _ _ _ _ _ _ (by omega), hren (by omega), hv, if_neg (show ¬ 3 = 0 by omega)]
