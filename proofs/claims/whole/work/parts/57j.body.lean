def zapI (b n j : Nat) (e : rS2) : rS2 := if b = 0 then e else zapR b n j e
def relI (i j b : Nat) (e : rS2) : rS2 := if b = 0 then e else relR i j b e
theorem rTrS_I {i n j b : Nat} {e : rS2} : rTrS i n j b e = if n ≤ 8 * j then relI i j b e else zapI b n j e := by
  unfold rTrS relI zapI
  by_cases z : b = 0
  · rw [if_pos z, if_pos z, if_pos z]
    split <;> rfl
  · rw [if_neg z, if_neg z, if_neg z]
    rfl
theorem sE_id {N : Nat → Nat → Nat} {i j v : Nat} (h : N i j = v) : sE N i j v = N := by
  funext x y
  by_cases c : x = i ∧ y = j
  · rw [c.1, c.2, sE_s, h]
  · rw [sE_n c]
theorem relI_all {i j b : Nat} {d : cS4} {e : rS2} {K L S : Nat → Nat} {N E : Nat → Nat → Nat} (hm : MR d e) (hsi : SI e) (hx : Sx e.1 K L S N E) (ci : K i = 1) (hj : j < 2) (hb : N i j = b) : MR (frC (16 + 4 * i + (2 + j)) b d) (relI i j b e) ∧ SI (relI i j b e) ∧ Sx (relI i j b e).1 K L S (sE N i j 0) E ∧ nCh (relI i j b e) ≤ nCh e + 2 := by
  unfold relI
  by_cases z : b = 0
  · rw [if_pos z, sE_id (by rw [hb, z])]
    unfold frC
    rw [if_pos z]
    exact ⟨hm, hsi, hx, by omega⟩
  · rw [if_neg z]
    exact relR_all hm hsi hx ci hj hb z
/-- the class's state with image and loose blocks of u -/
def zpU (d : cS4) (u : (Nat → Int32) × Int64) : cS4 := (u.1, d.2.1, u.2, d.2.2.2)
theorem zpU_id {d : cS4} : zpU d (d.1, d.2.2.1) = d := rfl
theorem zapI_all {i b n j j' : Nat} {d : cS4} {e : rS2} {K L S : Nat → Nat} {N E : Nat → Nat → Nat} {u : (Nat → Int32) × Int64} (hm : MR d e) (hsi : SI e) (hx : Sx e.1 K L S N E) (ci : K i = 1) (hb : N i j' = b) (hu0 : b = 0 → u = (d.1, d.2.2.1)) (hu : ¬ b = 0 → u.1 = (zapF b n j 8 0 (e.1, e.2.2.1)).1 ∧ setR u.2 (zapF b n j 8 0 (e.1, e.2.2.1)).2) : MR (zpU d u) (zapI b n j e) ∧ SI (zapI b n j e) ∧ Sx (zapI b n j e).1 K L S N E ∧ nCh (zapI b n j e) = nCh e := by
  unfold zapI
  by_cases z : b = 0
  · rw [if_pos z, hu0 z]
    exact ⟨hm, hsi, hx, rfl⟩
  · rw [if_neg z]
    obtain ⟨-, -, b1, b2⟩ := hx.2.2.1.2.2.2.1 i j' (by omega)
    obtain ⟨u1, u2⟩ := hu z
    exact ⟨⟨u1, hm.2.1, u2, hm.2.2.2.1, hm.2.2.2.2⟩, zapR_SI hsi (by omega), zapR_Sx hx ci hb z, rfl⟩
theorem zap_swap {d : cS4} {e : rS2} {i b0 b1 n : Nat} (h : MR d (zapI b0 n 0 (relI i 1 b1 e))) (hi : i < 16) (hb0 : b0 = 0 ∨ 18 ≤ b0) (hb1 : b1 = 0 ∨ 18 ≤ b1 ∧ b1 < 48) (hne : b0 = 0 ∨ ¬ b0 = b1) : MR d (relI i 1 b1 (zapI b0 n 0 e)) := by
  unfold zapI relI at h ⊢
  by_cases z0 : b0 = 0
  · rw [if_pos z0] at h ⊢
    exact h
  · rw [if_neg z0] at h ⊢
    by_cases z1 : b1 = 0
    · rw [if_pos z1] at h ⊢
      exact h
    · rw [if_neg z1] at h ⊢
      exact zap_rel h hi (by omega) (by omega) (by omega) (by omega)
/-- class and reference, the file cut but for its size -/
theorem J_cut {d : cS4} {e : rS2} {K L S : Nat → Nat} {N E : Nat → Nat → Nat} {i n : Nat} (hm : MR d e) (hsi : SI e) (hx : Sx e.1 K L S N E) (ci : K i = 1) (hn : n ≤ 16) :
    ∃ c0 c1 D N', (∀ (X : pScr) (nx : Nat) (ok : Bool) (Q : pRes → Prop) (d1 : cS1) (d6 : cS6) (d9 : cS9) (R : pMem), (pW X 99 0 [.ref 4, .int (nI i), .int (nI n), pDum] [] (cSW d1 d d6 d9 R) nx ok Q ↔ Q (.inl none, cSW d1 (chg (16 + 4 * i + 1) (nI n) D) d6 d9 R, nx, ok, 0, 0))) ∧
      D = zpD n c0 c1 (cutB i n (N i 1) (cutA i n (N i 0) d)) ∧ MR D (rTrS i n 1 (N i 1) (rTrS i n 0 (N i 0) e)) ∧ SI (rTrS i n 1 (N i 1) (rTrS i n 0 (N i 0) e)) ∧ Sx (rTrS i n 1 (N i 1) (rTrS i n 0 (N i 0) e)).1 K L S N' E ∧ nCh (rTrS i n 1 (N i 1) (rTrS i n 0 (N i 0) e)) ≤ nCh e + 4 ∧ (rTrS i n 0 (N i 0) e).1 (16 + 4 * i + (2 + 1)) = nI (N i 1) := by
  have hc := hx.2.2.1
  have hi := hc.1 i (by omega)
  have hN0 := N_lt hc i 0
  have hN1 := N_lt hc i 1
  have hw := hx.1.1 i hi.1 hi.2
  have hne : N i 0 = 0 ∨ ¬ N i 0 = N i 1 := by
    by_cases z : N i 0 = 0
    · exact Or.inl z
    · right
      intro y
      have := (hc.2.2.2.2.1 i 0 i 1 z y).2
      omega
  have hqc : ∀ {c0 c1 : Nat}, (cutA i n (N i 0) d).1 (16 + 4 * i + 2 + 1) = nI (N i 1) → (c0 = 0 ∨ 18 ≤ c0 ∧ c0 < 48) → (c1 = 0 ∨ 18 ≤ c1 ∧ c1 < 48) → (cutB i n (N i 1) (cutA i n (N i 0) d)).1 (16 + 4 * i + (2 + 0)) = nI c0 → (cutB i n (N i 1) (cutA i n (N i 0) d)).1 (16 + 4 * i + (2 + 1)) = nI c1 → ∀ (X : pScr) (nx : Nat) (ok : Bool) (Q : pRes → Prop) (d1 : cS1) (d6 : cS6) (d9 : cS9) (R : pMem), (pW X 99 0 [.ref 4, .int (nI i), .int (nI n), pDum] [] (cSW d1 d d6 d9 R) nx ok Q ↔ Q (.inl none, cSW d1 (chg (16 + 4 * i + 1) (nI n) (zpD n c0 c1 (cutB i n (N i 1) (cutA i n (N i 0) d)))) d6 d9 R, nx, ok, 0, 0)) := by
    intro c0 c1 a1 a2 a3 a4 a5 X nx ok Q d1 d6 d9 R
    exact q_cut hi.2 hn (by omega) (by omega) (by rw [hm.1]; exact hw.2.2.1) a1 a2 a3 a4 a5
  by_cases z0 : n = 0
  · subst z0
    obtain ⟨a1, a2, a3, a4⟩ := relI_all (j := 0) (b := N i 0) hm hsi hx ci (by omega) rfl
    have hN1' : sE N i 0 0 i 1 = N i 1 := sE_n (by omega)
    obtain ⟨b1, b2, b3, b4⟩ := relI_all (j := 1) (b := N i 1) a1 a2 a3 ci (by omega) hN1'
    have hA : cutA i 0 (N i 0) d = frC (16 + 4 * i + (2 + 0)) (N i 0) d := if_pos rfl
    have hB : ∀ x, cutB i 0 (N i 1) x = frC (16 + 4 * i + (2 + 1)) (N i 1) x := fun x => if_pos (by omega)
    have hR0 : rTrS i 0 0 (N i 0) e = relI i 0 (N i 0) e := by rw [rTrS_I, if_pos (by omega)]
    have hR1 : ∀ x, rTrS i 0 1 (N i 1) x = relI i 1 (N i 1) x := fun x => by rw [rTrS_I, if_pos (by omega)]
    have hz : ∀ x, zpD 0 0 0 x = x := fun x => by
      unfold zpD
      rw [zpC_no 16 0 (x.1, x.2.2.1) (fun y _ _ => by split <;> rfl)]
    have hwB := b3.1.1 i hi.1 hi.2
    rw [sE_n (by omega), sE_s, sE_s] at hwB
    refine ⟨0, 0, _, sE (sE N i 0 0) i 1 0, hqc ?_ (Or.inl rfl) (Or.inl rfl) ?_ ?_, rfl, ?_, ?_, ?_, ?_, ?_⟩
    · rw [hA, a1.1]
      have := (a3.1.1 i hi.1 hi.2).2.2.2
      rw [hN1'] at this
      exact this
    · rw [hA, hB, b1.1]
      exact hwB.2.2.1
    · rw [hA, hB, b1.1]
      exact hwB.2.2.2
    · rw [hz, hA, hB, hR0, hR1]
      exact b1
    · rw [hR0, hR1]
      exact b2
    · rw [hR0, hR1]
      exact b3
    · rw [hR0, hR1]
      omega
    · rw [hR0]
      have := (a3.1.1 i hi.1 hi.2).2.2.2
      rw [hN1'] at this
      exact this
  · have hA : cutA i n (N i 0) d = d := if_neg z0
    have hR0 : rTrS i n 0 (N i 0) e = zapI (N i 0) n 0 e := by rw [rTrS_I, if_neg (by omega)]
    by_cases z8 : n ≤ 8
    · have hB : ∀ x, cutB i n (N i 1) x = frC (16 + 4 * i + (2 + 1)) (N i 1) x := fun x => if_pos z8
      have hR1 : ∀ x, rTrS i n 1 (N i 1) x = relI i 1 (N i 1) x := fun x => by rw [rTrS_I, if_pos (by omega)]
      have zeq : ∀ (f : Nat → Int32) (l : Int64), zpC (N i 0) 0 (16 - n) n (f, l) = zpC (N i 0) 0 (8 - n) n (f, l) := fun f l => by
        rw [show 16 - n = (8 - n) + 8 by omega, zpC_add, show n + (8 - n) = 8 by omega, zpC_no 8 8 _ (fun y y1 _ => if_neg (by omega))]
      have zskip : ∀ (f g : Nat → Int32), zapF (N i 0) n 0 8 0 (f, g) = zapF (N i 0) n 0 (8 - n) n (f, g) := fun f g => by
        rw [show 8 = n + (8 - n) by omega, zap_add, zap_skip n 0 (f, g) (by omega), Nat.zero_add, show n + (8 - n) - n = 8 - n by omega]
      -- the class frees, then makes 0
      obtain ⟨a1, a2, a3, a4⟩ := relI_all (j := 1) (b := N i 1) hm hsi hx ci (by omega) rfl
      have hN0' : sE N i 1 0 i 0 = N i 0 := sE_n (by omega)
      have hgo : ∀ (dd : cS4) (ee : rS2) (N' : Nat → Nat → Nat), MR dd ee → SI ee → Sx ee.1 K L S N' E → N' i 0 = N i 0 → MR (zpU dd (zpC (N i 0) 0 (16 - n) n (dd.1, dd.2.2.1))) (zapI (N i 0) n 0 ee) ∧ SI (zapI (N i 0) n 0 ee) ∧ Sx (zapI (N i 0) n 0 ee).1 K L S N' E ∧ nCh (zapI (N i 0) n 0 ee) = nCh ee := fun dd ee N' g1 g2 g3 g4 =>
        zapI_all (j' := 0) g1 g2 g3 ci g4 (fun z => by
          rw [zeq, z]
          exact zpC_no _ _ _ (fun y _ _ => by split <;> rfl)) (fun z => by
          rw [zeq, zskip, g1.1]
          exact zap_1 (by omega) (by omega) (8 - n) n _ _ _ (by omega) (by omega) g1.2.2.1)
      obtain ⟨b1, b2, b3, b4⟩ := hgo _ _ _ a1 a2 a3 hN0'
      -- the reference makes 0, then releases
      obtain ⟨p1, p2, p3, p4⟩ := hgo _ _ _ hm hsi hx rfl
      obtain ⟨q1, q2, q3, q4⟩ := relI_all (j := 1) (b := N i 1) p1 p2 p3 ci (by omega) rfl
      refine ⟨N i 0, 0, _, sE N i 1 0, hqc ?_ hN0 (Or.inl rfl) ?_ ?_, rfl, ?_, ?_, ?_, ?_, ?_⟩
      · rw [hA, hm.1]
        exact hw.2.2.2
      · rw [hA, hB, a1.1]
        have := (a3.1.1 i hi.1 hi.2).2.2.1
        rw [hN0'] at this
        exact this
      · rw [hA, hB, a1.1]
        have := (a3.1.1 i hi.1 hi.2).2.2.2
        rw [sE_s] at this
        exact this
      · rw [hA, hB, hR0, hR1]
        exact zap_swap b1 hi.2 (by omega) (by omega) hne
      · rw [hR0, hR1]
        exact q2
      · rw [hR0, hR1]
        exact q3
      · rw [hR0, hR1]
        omega
      · rw [hR0]
        exact (p3.1.1 i hi.1 hi.2).2.2.2
    · have hB : ∀ x, cutB i n (N i 1) x = x := fun x => if_neg z8
      have hR1 : ∀ x, rTrS i n 1 (N i 1) x = zapI (N i 1) n 1 x := fun x => by rw [rTrS_I, if_neg (by omega)]
      have hR00 : zapI (N i 0) n 0 e = e := by
        unfold zapI zapR
        by_cases z : N i 0 = 0
        · rw [if_pos z]
        · rw [if_neg z, zap_skip 8 0 (e.1, e.2.2.1) (by omega)]
      have zskip : ∀ (f g : Nat → Int32), zapF (N i 1) n 1 8 0 (f, g) = zapF (N i 1) n 1 (16 - n) (n - 8) (f, g) := fun f g => by
        rw [show 8 = (n - 8) + (16 - n) by omega, zap_add, zap_skip (n - 8) 0 (f, g) (by omega), Nat.zero_add]
        congr 1
        omega
      obtain ⟨p1, p2, p3, p4⟩ := zapI_all (b := N i 1) (n := n) (j := 1) (j' := 1) (u := zpC (N i 0) (N i 1) (16 - n) n (d.1, d.2.2.1)) hm hsi hx ci rfl (fun z => by
          rw [z]
          exact zpC_no _ _ _ (fun y y1 _ => if_neg (by omega))) (fun z => by
          have := zap_2 (c0 := N i 0) (n := n) (b := N i 1) (by omega) (by omega) (16 - n) (n - 8) e.1 d.2.2.1 e.2.2.1 (by omega) (by omega) hm.2.2.1
          rw [zskip, hm.1]
          rw [show 8 + (n - 8) = n by omega] at this
          exact this)
      refine ⟨N i 0, N i 1, _, N, hqc ?_ hN0 hN1 ?_ ?_, rfl, ?_, ?_, ?_, ?_, ?_⟩
      · rw [hA, hm.1]
        exact hw.2.2.2
      · rw [hA, hB, hm.1]
        exact hw.2.2.1
      · rw [hA, hB, hm.1]
        exact hw.2.2.2
      · rw [hA, hB, hR0, hR1, hR00]
        exact p1
      · rw [hR0, hR1, hR00]
        exact p2
      · rw [hR0, hR1, hR00]
        exact p3
      · rw [hR0, hR1, hR00]
        omega
      · rw [hR0, hR00]
        exact hw.2.2.2
theorem B_trunc {d4 : cS4} {e2 : rS2} {i n : Nat} (h : GI d4 e2) (h1 : 1 ≤ i) (h2 : i < 16) (hn : n ≤ 16) : BodyR 13 15 [.ref 0, .int (nI i), .int (nI n)] 150 36 [.ref 13, .int (nI i), .int (nI n), pDum, pDum, pDum, pDum] d4 e2 := by
  have hg := h
  obtain ⟨hm, hsi, K, L, S, N, E, hx, h3, h4⟩ := h
  have hc0 := hx.2.2.1
  have hL := F3_L hc0 h3
  have hI := hm.1
  have hu := unf_0 hx hL h1 h2
  have hfr := r_frK hx hL h1 h2
  have hk1 := r_kd0 hx hL h1 h2 (show 1 < 16 by omega)
  obtain ⟨w0, w1, w2, w3⟩ := hx.1.1 i h1 h2
  have hSi := (hc0.2.1 i).2
  rcases K_cases hc0 i with c | c | c
  · have hf3 : unfN e2.1 i = 3 := by rw [hu, if_pos c]
    refine ⟨3, none, none, d4, e2, by omega, fun d1 d6 X nx ok Q d9 R => ?_, fun e1 e3 X nx ok Q e4 R => ?_, ⟨fun z => by omega, vT_n (by decide +kernel)⟩, hg, by omega⟩
    · rw [q_ftrunc (e := d4) h2 hn (fun _ z => by rw [hI, hk1] at z; omega), hI, hfr, if_pos (by simp [c])]
      exact Iff.rfl
    · rw [q_btr (s := 0) (b0 := 0) (b1 := 0) h2 hn (fun z => by omega), hf3, if_neg (show ¬ 3 = 0 by omega)]
  · have hu0 : unfN e2.1 i = 0 := by rw [hu, if_neg (by omega), if_neg (by omega)]
    have hfr0 : ¬ frK e2.1 i = true := by rw [hfr]; simp [c]
    obtain ⟨c0, c1, D, N', j1, j2, j3, j4, j5, j6, j7⟩ := J_cut hm hsi hx c hn
    generalize hF : rTrS i n 1 (N i 1) (rTrS i n 0 (N i 0) e2) = F at j3 j4 j5 j6
    have hFs : F.1 (16 + 4 * i + 1) = nI (S i) := (j5.1.1 i h1 h2).2.1
    have hb0 := N_lt hc0 i 0
    have hb1 := N_lt hc0 i 1
    have hfin : MR (chg (16 + 4 * i + 1) (nI n) D) (rSz i n (S i) F) ∧ SI (rSz i n (S i) F) ∧ Sx (rSz i n (S i) F).1 K L (sN S i n) N' E ∧ nCh (rSz i n (S i) F) ≤ nCh F + 1 := by
      unfold rSz
      by_cases z : S i = n
      · rw [if_pos z, chg_id (by rw [j3.1, hFs, z])]
        have hid : upd F.1 (16 + 4 * i + 1) (nI n) = F.1 := upd_id (by rw [hFs, z])
        rw [hid]
        refine ⟨j3, j4, ?_, ?_⟩
        · rw [sN_id z]
          exact j5
        · show nCh F ≤ nCh F + 1
          omega
      · rw [if_neg z]
        refine ⟨MR_congr (MR_chg j3 (a := 16 + 4 * i + 1) (v := nI n) (by omega) (by rw [hFs]; exact nI_ne z (by omega) (by omega))) rfl (fun b _ => ?_) (fun _ _ => rfl) (fun _ _ => rfl) rfl, SI_lnk j4, Sx_size j5 c hn, cnt_1le⟩
        show mb (upd F.2.1 (2 + i / 2) (nI 1)) b = mb (upd F.2.1 ((16 + 4 * i + 1) / 8) (nI 1)) b
        rw [show (16 + 4 * i + 1) / 8 = 2 + i / 2 by omega]
    obtain ⟨g1, g2, g3, g4⟩ := hfin
    refine ⟨0, none, none, _, _, by omega, fun d1 d6 X nx ok Q d9 R => ?_, fun e1 e3 X nx ok Q e4 R => ?_, ⟨fun _ => ⟨rfl, vT_n (by decide +kernel)⟩, vT_n (by decide +kernel)⟩, ⟨g1, g2, K, L, _, N', E, g3, h3, h4⟩, by omega⟩
    · rw [q_ftrunc (e := chg (16 + 4 * i + 1) (nI n) D) h2 hn (fun _ _ Q => j1 X nx ok Q d1 d6 d9 R), hI, if_neg hfr0, if_pos (hk1.mpr c)]
      exact Iff.rfl
    · rw [q_btr (s := S i) (b0 := N i 0) (b1 := N i 1) h2 hn (fun _ => ⟨hSi, w2, hb0, j7, hb1, by rw [hF]; exact hFs⟩), if_pos hu0, hF]
  · have hf4 : unfN e2.1 i = 4 := by rw [hu, if_neg (by omega), if_pos c]
    refine ⟨4, none, none, d4, e2, by omega, fun d1 d6 X nx ok Q d9 R => ?_, fun e1 e3 X nx ok Q e4 R => ?_, ⟨fun z => by omega, vT_n (by decide +kernel)⟩, hg, by omega⟩
    · rw [q_ftrunc (e := d4) h2 hn (fun _ z => by rw [hI, hk1] at z; omega), hI, hfr, if_neg (by simp [c]), if_neg (fun z => by have := hk1.mp z; omega)]
      exact Iff.rfl
    · rw [q_btr (s := 0) (b0 := 0) (b1 := 0) h2 hn (fun z => by omega), hf4, if_neg (show ¬ 4 = 0 by omega)]
