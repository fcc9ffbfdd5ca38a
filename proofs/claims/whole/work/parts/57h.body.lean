theorem SI_loose {e : rS2} {b : Nat} {m : Nat → Int32} (h : SI e) (hb : 18 ≤ b) : SI (m, e.2.1, upd e.2.2.1 b (nI 1), e.2.2.2) := by
  obtain ⟨h1, h2, h3, h4⟩ := h
  refine ⟨h1, fun c hc hm => ?_, h3, h4⟩
  have hm2 : mb (upd e.2.2.1 b (nI 1)) c = true := hm
  rw [mb_1] at hm2
  by_cases c1 : c = b
  · omega
  · simp [c1] at hm2
    exact h2 c hc hm2
/-- an int of a file that has a block for it -/
theorem J_put {d : cS4} {e : rS2} {K L S : Nat → Nat} {N E : Nat → Nat → Nat} {i k : Nat} {v : Int32} (hm : MR d e) (hsi : SI e) (hx : Sx e.1 K L S N E) (ci : K i = 1) (hk : k < 16) (hN : ¬ N i (k / 8) = 0) : MR (wSz i k (S i) (pI k (N i (k / 8)) v d)) (rWrt i k (N i (k / 8)) (S i) v e) ∧ SI (rWrt i k (N i (k / 8)) (S i) v e) ∧ nCh (rWrt i k (N i (k / 8)) (S i) v e) ≤ nCh e + 1 ∧ ∃ S', Sx (rWrt i k (N i (k / 8)) (S i) v e).1 K L S' N E := by
  have hc := hx.2.2.1
  have hi := hc.1 i (by omega)
  obtain ⟨-, -, b1, b2⟩ := hc.2.2.2.1 i (k / 8) hN
  obtain ⟨w0, w1, w2, w3⟩ := hx.1.1 i hi.1 hi.2
  have hSi := (hc.2.1 i).2
  have m1 : MR (pI k (N i (k / 8)) v d) (upd e.1 (8 * N i (k / 8) + k % 8) v, e.2.1, upd e.2.2.1 (N i (k / 8)) (nI 1), e.2.2.2) := by
    refine ⟨?_, hm.2.1, set_set hm.2.2.1 b2, hm.2.2.2.1, hm.2.2.2.2⟩
    show upd d.1 (8 * N i (k / 8) + k % 8) v = _
    rw [hm.1]
  have s1 : SI (upd e.1 (8 * N i (k / 8) + k % 8) v, e.2.1, upd e.2.2.1 (N i (k / 8)) (nI 1), e.2.2.2) := SI_loose hsi b1
  have x1 : Sx (upd e.1 (8 * N i (k / 8) + k % 8) v) K L S N E := Sx_blk (b := N i (k / 8)) hx b1 (fun d' j hd' he => by
    have := (hc.2.2.2.2.1 d' j i (k / 8) (by omega) he).1
    rw [this] at hd'
    omega) (fun q hq => pk_un (by omega))
  have hw1 : upd e.1 (8 * N i (k / 8) + k % 8) v (16 + 4 * i + 1) = nI (S i) := by
    rw [pk_un (by omega)]
    exact w1
  unfold wSz rWrt
  by_cases q : k < S i
  · rw [if_neg (by omega : ¬ S i < k + 1), if_pos q, chg_id (by rw [m1.1]; exact hw1)]
    refine ⟨m1, s1, ?_, S, x1⟩
    show cntF (mb e.2.1) 48 0 0 ≤ cntF (mb e.2.1) 48 0 0 + 1
    omega
  · rw [if_pos (by omega : S i < k + 1), if_neg q]
    refine ⟨MR_congr (MR_chg m1 (a := 16 + 4 * i + 1) (v := nI (k + 1)) (by omega) (by
      show ¬ upd e.1 (8 * N i (k / 8) + k % 8) v (16 + 4 * i + 1) = nI (k + 1)
      rw [hw1]
      exact nI_ne (by omega) (by omega) (by omega))) rfl (fun b _ => ?_) (fun _ _ => rfl) (fun _ _ => rfl) rfl, ?_, ?_, sN S i (k + 1), ?_⟩
    · show mb (upd e.2.1 (2 + i / 2) (nI 1)) b = mb (upd e.2.1 ((16 + 4 * i + 1) / 8) (nI 1)) b
      rw [show (16 + 4 * i + 1) / 8 = 2 + i / 2 by omega]
    · exact SI_lnk (i := i) s1
    · exact cnt_1le
    · exact Sx_size x1 ci (by omega)
theorem B_write {d4 : cS4} {e2 : rS2} {i k : Nat} {v : Int32} (h : GI d4 e2) (h1 : 1 ≤ i) (h2 : i < 16) (hk : k < 16) : BodyR 12 15 [.ref 0, .int (nI i), .int (nI k), .int v] 149 36 [.ref 13, .int (nI i), .int (nI k), .int v, pDum] d4 e2 := by
  have hg := h
  obtain ⟨hm, hsi, K, L, S, N, E, hx, h3, h4⟩ := h
  have hc0 := hx.2.2.1
  have hL := F3_L hc0 h3
  have hI := hm.1
  have hu := unf_0 hx hL h1 h2
  have hfr := r_frK hx hL h1 h2
  have hk1 := r_kd0 hx hL h1 h2 (show 1 < 16 by omega)
  obtain ⟨w0, w1, w2, w3⟩ := hx.1.1 i h1 h2
  have hnum := r_num hx h1 h2 (j := k / 8) (by omega)
  have hNb := N_lt hc0 i (k / 8)
  have hSi := (hc0.2.1 i).2
  have hqc : ∀ (d1 : cS1) (d6 : cS6) (X : pScr) (nx : Nat) (ok : Bool) (Q : pRes → Prop) (d9 : cS9) (R : pMem), _ := fun d1 d6 X nx ok Q d9 R => q_fwrite (X := X) (nx := nx) (ok := ok) (Q := Q) (d1 := d1) (d4 := d4) (d6 := d6) (d9 := d9) (R := R) (i := i) (k := k) (s := S i) (b0 := N i (k / 8)) (v := v) h2 hk (fun _ _ => by rw [hI]; exact ⟨w1, hSi, hnum, hNb⟩) (fun b hb => by
    obtain ⟨q1, q2, _⟩ := fndF_some 30 18 b hb
    refine ⟨by rw [chg_im, pk_us], fun hs => ?_⟩
    rw [chg_im, pk_un (by omega)]
    unfold tkC zImg
    show zerF (8 * b) 8 (chg _ _ d4).1 (16 + 4 * i + 1) = _
    rw [chg_im]
    unfold zerF
    rw [if_neg (by omega), pk_un (by omega)]
    exact hs)
  have hqr : ∀ (e1 : rS1) (e3 : rS3) (X : pScr) (nx : Nat) (ok : Bool) (Q : pRes → Prop) (e4 : rS4) (R : pMem), _ := fun e1 e3 X nx ok Q e4 R => q_bwrite (X := X) (nx := nx) (ok := ok) (Q := Q) (e1 := e1) (e2 := e2) (e3 := e3) (e4 := e4) (R := R) (i := i) (k := k) (s := S i) (b0 := N i (k / 8)) (v := v) h2 hk (fun _ => ⟨w1, hSi, hnum, hNb⟩)
  rcases K_cases hc0 i with c | c | c
  · refine ⟨3, none, none, d4, e2, by omega, fun d1 d6 X nx ok Q d9 R => ?_, fun e1 e3 X nx ok Q e4 R => ?_, ⟨fun z => by omega, vT_n (by decide +kernel)⟩, hg, by omega⟩
    · rw [hqc, hI, hfr, if_pos (by simp [c])]
      exact Iff.rfl
    · rw [hqr, show unfN e2.1 i = 3 by rw [hu, if_pos c], if_neg (show ¬ 3 = 0 by omega)]
  · have hu0 : unfN e2.1 i = 0 := by rw [hu, if_neg (by omega), if_neg (by omega)]
    have hfr0 : ¬ frK e2.1 i = true := by rw [hfr]; simp [c]
    by_cases hN : N i (k / 8) = 0
    · cases hf : fndF (freeB e2.1 e2.2.2.2.1) 30 18 with
      | none =>
        refine ⟨2, none, none, d4, e2, by omega, fun d1 d6 X nx ok Q d9 R => ?_, fun e1 e3 X nx ok Q e4 R => ?_, ⟨fun z => by omega, vT_n (by decide +kernel)⟩, hg, by omega⟩
        · rw [hqc, tkf_eq hm, hf, hI, if_neg hfr0, if_pos (hk1.mpr c), if_pos hN]
          exact Iff.rfl
        · rw [hqr, if_pos hu0, if_pos hN, hf]
      | some b =>
        obtain ⟨b1, b2', bf, _⟩ := fndF_some 30 18 b hf
        have b2 : b < 48 := by omega
        have btk : tkB e2.1 b = false := by
          unfold freeB at bf
          simp only [Bool.and_eq_true, Bool.not_eq_true'] at bf
          exact bf.1
        have m1 := MR_tkC hm b2 btk
        have m2 := MR_chg m1 (a := 16 + 4 * i + (2 + k / 8)) (v := nI b) (by omega) (by
          show ¬ tkM e2.1 b (16 + 4 * i + (2 + k / 8)) = nI b
          rw [tkM_o b1 (by omega) (by omega) b2, hnum, hN]
          exact nI_ne (by omega) (by omega) (by omega))
        have x2 : Sx (upd (tkM e2.1 b) (16 + 4 * i + (2 + k / 8)) (nI b)) K L S (sE N i (k / 8) b) E := by
          refine Sx_take hx (by omega) (by omega) hN btk b1 b2 (Or.inl ⟨c, rfl⟩) pk_us ?_ (fun q q1 q2 => pk_un q1)
          rw [pk_un (by omega), tkM_o b1 (by omega) (by omega) b2]
          exact w1
        have s2 : SI (rPutE (16 + 4 * i + (2 + k / 8)) (nI b) (tkM e2.1 b, upd e2.2.1 1 (nI 1), e2.2.2)) := by
          refine SI_put ⟨fun x hx hm => ?_, hsi.2.1, fun x hx hm => ?_, fun hm => ?_⟩ (by omega)
          · have hm2 : mb (upd e2.2.1 1 (nI 1)) x = true := hm
            rw [mb_1] at hm2
            by_cases z : x = 1
            · omega
            · simp [z] at hm2
              exact hsi.1 x hx hm2
          · show mb (upd e2.2.1 1 (nI 1)) 1 = true
            rw [mb_1]
            simp
          · show mb (upd e2.2.1 1 (nI 1)) 1 = true
            rw [mb_1]
            simp
        have hsb : sE N i (k / 8) b i (k / 8) = b := sE_s
        obtain ⟨p1, p2, p3, S', p4⟩ := J_put (v := v) (k := k) m2 s2 x2 c hk (by rw [hsb]; omega)
        rw [hsb] at p1 p2 p3 p4
        have hR : (rWrt i k b (S i) v (rFBlk i (k / 8) b (rTake b true e2))).1 = (rWrt i k b (S i) v (rPutE (16 + 4 * i + (2 + k / 8)) (nI b) (tkM e2.1 b, upd e2.2.1 1 (nI 1), e2.2.2))).1 ∧ (∀ x, mb (rWrt i k b (S i) v (rFBlk i (k / 8) b (rTake b true e2))).2.1 x = mb (rWrt i k b (S i) v (rPutE (16 + 4 * i + (2 + k / 8)) (nI b) (tkM e2.1 b, upd e2.2.1 1 (nI 1), e2.2.2))).2.1 x) ∧ (∀ x, mb (rWrt i k b (S i) v (rFBlk i (k / 8) b (rTake b true e2))).2.2.1 x = mb (rWrt i k b (S i) v (rPutE (16 + 4 * i + (2 + k / 8)) (nI b) (tkM e2.1 b, upd e2.2.1 1 (nI 1), e2.2.2))).2.2.1 x) ∧ (rWrt i k b (S i) v (rFBlk i (k / 8) b (rTake b true e2))).2.2.2.1 = e2.2.2.2.1 ∧ (rWrt i k b (S i) v (rFBlk i (k / 8) b (rTake b true e2))).2.2.2.2 = e2.2.2.2.2 ∧ (rWrt i k b (S i) v (rPutE (16 + 4 * i + (2 + k / 8)) (nI b) (tkM e2.1 b, upd e2.2.1 1 (nI 1), e2.2.2))).2.2.2.1 = e2.2.2.2.1 ∧ (rWrt i k b (S i) v (rPutE (16 + 4 * i + (2 + k / 8)) (nI b) (tkM e2.1 b, upd e2.2.1 1 (nI 1), e2.2.2))).2.2.2.2 = e2.2.2.2.2 := by
          have hd8 : (16 + 4 * i + (2 + k / 8)) / 8 = 2 + i / 2 := by omega
          unfold rWrt
          by_cases q : k < S i
          · rw [if_pos q, if_pos q]
            refine ⟨rfl, fun x => ?_, fun x => ?_, rfl, rfl, rfl, rfl⟩
            · show mb (upd (upd e2.2.1 1 (nI 1)) (2 + i / 2) (nI 1)) x = mb (upd (upd e2.2.1 1 (nI 1)) ((16 + 4 * i + (2 + k / 8)) / 8) (nI 1)) x
              rw [hd8]
            · show mb (upd (upd e2.2.2.1 b (nI 1)) b (nI 1)) x = mb (upd e2.2.2.1 b (nI 1)) x
              rw [upd_upd]
          · rw [if_neg q, if_neg q]
            refine ⟨rfl, fun x => ?_, fun x => ?_, rfl, rfl, rfl, rfl⟩
            · show mb (upd (upd (upd e2.2.1 1 (nI 1)) (2 + i / 2) (nI 1)) (2 + i / 2) (nI 1)) x = mb (upd (upd (upd e2.2.1 1 (nI 1)) ((16 + 4 * i + (2 + k / 8)) / 8) (nI 1)) (2 + i / 2) (nI 1)) x
              rw [hd8]
            · show mb (upd (upd e2.2.2.1 b (nI 1)) b (nI 1)) x = mb (upd e2.2.2.1 b (nI 1)) x
              rw [upd_upd]
        obtain ⟨r1, r2, r3, r4, r5, r6, r7⟩ := hR
        have hmf : MR (wSz i k (S i) (pI k b v (chg (16 + 4 * i + (2 + k / 8)) (nI b) (tkC b d4)))) (rWrt i k b (S i) v (rFBlk i (k / 8) b (rTake b true e2))) := MR_congr p1 r1 (fun x _ => r2 x) (fun x _ => r3 x) (fun x _ => by rw [r4, r6]) (by rw [r5, r7])
        have hsf : SI (rWrt i k b (S i) v (rFBlk i (k / 8) b (rTake b true e2))) := by
          obtain ⟨t1, t2, t3, t4⟩ := p2
          refine ⟨fun x hx hm => t1 x hx (by rw [← r2 x]; exact hm), fun x hx hm => t2 x hx (by rw [← r3 x]; exact hm), fun x hx hm => ?_, fun hm => ?_⟩
          · rw [r2 1]
            exact t3 x hx (by rw [r6, ← r4]; exact hm)
          · rw [r2 1]
            exact t4 (by rw [r7, ← r5]; exact hm)
        have hcf : nCh (rWrt i k b (S i) v (rFBlk i (k / 8) b (rTake b true e2))) ≤ nCh e2 + 5 := by
          have e0 : nCh (rWrt i k b (S i) v (rFBlk i (k / 8) b (rTake b true e2))) = nCh (rWrt i k b (S i) v (rPutE (16 + 4 * i + (2 + k / 8)) (nI b) (tkM e2.1 b, upd e2.2.1 1 (nI 1), e2.2.2))) := cnt_congr 48 0 0 (fun x _ _ => r2 x)
          have g1 := cnt_1le (g := e2.2.1) (a := 1)
          have g2 := cnt_1le (g := upd e2.2.1 1 (nI 1)) (a := (16 + 4 * i + (2 + k / 8)) / 8)
          have g3 : nCh (rPutE (16 + 4 * i + (2 + k / 8)) (nI b) (tkM e2.1 b, upd e2.2.1 1 (nI 1), e2.2.2)) ≤ nCh e2 + 2 := by
            show cntF (mb (upd (upd e2.2.1 1 (nI 1)) ((16 + 4 * i + (2 + k / 8)) / 8) (nI 1))) 48 0 0 ≤ cntF (mb e2.2.1) 48 0 0 + 2
            omega
          omega
        refine ⟨0, none, none, _, _, by omega, fun d1 d6 X nx ok Q d9 R => ?_, fun e1 e3 X nx ok Q e4 R => ?_, ⟨fun _ => ⟨rfl, vT_n (by decide +kernel)⟩, vT_n (by decide +kernel)⟩, ⟨hmf, hsf, K, L, S', sE N i (k / 8) b, E, by rw [r1]; exact p4, h3, h4⟩, hcf⟩
        · rw [hqc, tkf_eq hm, hf, hI, if_neg hfr0, if_pos (hk1.mpr c), if_pos hN]
          exact Iff.rfl
        · rw [hqr, if_pos hu0, if_pos hN, hf]
    · obtain ⟨p1, p2, p3, S', p4⟩ := J_put (v := v) (k := k) hm hsi hx c hk hN
      refine ⟨0, none, none, _, _, by omega, fun d1 d6 X nx ok Q d9 R => ?_, fun e1 e3 X nx ok Q e4 R => ?_, ⟨fun _ => ⟨rfl, vT_n (by decide +kernel)⟩, vT_n (by decide +kernel)⟩, ⟨p1, p2, K, L, S', N, E, p4, h3, h4⟩, by omega⟩
      · rw [hqc, hI, if_neg hfr0, if_pos (hk1.mpr c), if_neg hN]
        exact Iff.rfl
      · rw [hqr, if_pos hu0, if_neg hN]
  · refine ⟨4, none, none, d4, e2, by omega, fun d1 d6 X nx ok Q d9 R => ?_, fun e1 e3 X nx ok Q e4 R => ?_, ⟨fun z => by omega, vT_n (by decide +kernel)⟩, hg, by omega⟩
    · rw [hqc, hI, hfr, if_neg (by simp [c]), if_neg (fun z => by have := hk1.mp z; omega)]
      exact Iff.rfl
    · rw [hqr, show unfN e2.1 i = 4 by rw [hu, if_neg (by omega), if_pos c], if_neg (show ¬ 4 = 0 by omega)]
