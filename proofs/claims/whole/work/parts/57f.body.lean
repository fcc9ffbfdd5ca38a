/-- block b, if there is one, is free -/
def frI (b : Nat) (f : Nat → Int32) : Nat → Int32 := if b = 0 then f else frM f b
theorem frI_o {f : Nat → Int32} {b q : Nat} (hb : b < 48) (h : 10 ≤ q) : frI b f q = f q := by
  unfold frI
  by_cases c : b = 0
  · rw [if_pos c]
  · rw [if_neg c, frM_o hb h]
theorem frI_upd {f : Nat → Int32} {a b : Nat} {v : Int32} (hb : b < 48) (h : 10 ≤ a) : frI b (upd f a v) = upd (frI b f) a v := by
  unfold frI
  by_cases c : b = 0
  · rw [if_pos c, if_pos c]
  · rw [if_neg c, if_neg c]
    unfold frM
    rw [pk_un (by omega), upd_comm (by omega)]
theorem frI_tk {f : Nat → Int32} {b c : Nat} (hb : b < 48) (hc : c < 48) (h : ¬ c = b) : tkB (frI b f) c = tkB f c := by
  unfold frI
  by_cases z : b = 0
  · rw [if_pos z]
  · rw [if_neg z, tkB_fr hb hc]
    simp [h]
/-- the class frees a block's number, in both -/
def frE (a b : Nat) (e : rS2) : rS2 := if b = 0 then e else (upd (frM e.1 b) a (nI 0), upd (upd e.2.1 1 (nI 1)) b (nI 0), upd e.2.2.1 b (nI 0), upd e.2.2.2.1 b (nI 1), e.2.2.2.2)
theorem MR_frI {d : cS4} {e : rS2} {a b : Nat} (h : MR d e) (ha : a < 80) (ha2 : 16 ≤ a) (hb : b = 0 ∨ (18 ≤ b ∧ b < 48 ∧ tkB e.1 b = true)) (hn : e.1 a = nI b) (ht : mb e.2.1 (a / 8) = true) : MR (frC a b d) (frE a b e) := by
  unfold frE
  rcases hb with hb | ⟨b1, b2, b3⟩
  · rw [if_pos hb]
    unfold frC
    rw [if_pos hb]
    exact h
  · rw [if_neg (by omega)]
    refine MR_congr (MR_fr h ha ha2 b1 b2 hn b3) rfl (fun c _ => ?_) (fun _ _ => rfl) (fun _ _ => rfl) rfl
    show mb (upd (upd e.2.1 1 (nI 1)) b (nI 0)) c = mb (upd (upd (upd e.2.1 1 (nI 1)) (a / 8) (nI 1)) b (nI 0)) c
    rw [mb_z, mb_z, mb_idem (a := a / 8) (by rw [mb_1, ht]; simp)]
theorem frE_mem {a b : Nat} {e : rS2} (hn : e.1 a = nI b) : (frE a b e).1 = upd (frI b e.1) a (nI 0) := by
  unfold frE frI
  by_cases c : b = 0
  · rw [if_pos c, if_pos c, upd_id]
    rw [hn, c]
  · rw [if_neg c, if_neg c]
theorem frE_ch {a b : Nat} {e : rS2} {c : Nat} (hc : c < 18) (hb : b = 0 ∨ 18 ≤ b) (h : mb e.2.1 c = true) : mb (frE a b e).2.1 c = true := by
  unfold frE
  by_cases z : b = 0
  · rw [if_pos z]; exact h
  · rw [if_neg z]
    show mb (upd (upd e.2.1 1 (nI 1)) b (nI 0)) c = true
    rw [mb_z, mb_1, h]
    simp
    omega
theorem zer4 {f : Nat → Int32} {a : Nat} : zerF a 4 f = upd (upd (upd (upd f (a + 2) (nI 0)) (a + 3) (nI 0)) a (nI 0)) (a + 1) (nI 0) := by
  funext q
  unfold zerF
  by_cases c1 : q = a + 1
  · rw [c1, pk_us, if_pos (by omega)]
  · rw [pk_un c1]
    by_cases c0 : q = a
    · rw [c0, pk_us, if_pos (by omega)]
    · rw [pk_un c0]
      by_cases c3 : q = a + 3
      · rw [c3, pk_us, if_pos (by omega)]
      · rw [pk_un c3]
        by_cases c2 : q = a + 2
        · rw [c2, pk_us, if_pos (by omega)]
        · rw [pk_un c2, if_neg (by omega)]
theorem or_bI {s : Nat} {b : Bool} (hs : s < 2) : nI s ||| bI b = nI (if b = true then 1 else s) := by
  have : s = 0 ∨ s = 1 := by omega
  rcases this with rfl | rfl <;> cases b <;> decide
theorem sub16 {x : Int32} : x + nI 16 * (-nI 1) = x - nI 16 := by
  rw [show nI 16 * (-nI 1) = -nI 16 by decide, ← Int32.sub_eq_add_neg]
/-- the last link of inode i goes: in both -/
theorem J_drop {d : cS4} {e : rS2} {i b0 b1 : Nat} {dir : Bool} (h : MR d e) (hsi : SI e) (hi1 : 1 ≤ i) (hi2 : i < 16) (hb0 : b0 = 0 ∨ (18 ≤ b0 ∧ b0 < 48 ∧ tkB e.1 b0 = true)) (hb1 : b1 = 0 ∨ (18 ≤ b1 ∧ b1 < 48 ∧ ¬ b1 = b0 ∧ tkB e.1 b1 = true)) (h0 : e.1 (16 + 4 * i + 2) = nI b0) (h1 : e.1 (16 + 4 * i + 3) = nI b1) (ht : mb e.2.1 (2 + i / 2) = true) (hbit : ib (e.1 10) i = true) (hdir : decide (kd d.1 i = nI 2) = dir) (hd0 : dir = true → ¬ b0 = 0) :
    MR (drpC i b0 b1 d) (rDrp i (rRelI b1 dir (rRelI b0 dir e))) ∧ SI (rDrp i (rRelI b1 dir (rRelI b0 dir e))) ∧ nCh (rDrp i (rRelI b1 dir (rRelI b0 dir e))) ≤ nCh e + 3 ∧
    (rDrp i (rRelI b1 dir (rRelI b0 dir e))).1 = upd (zerF (16 + 4 * i) 4 (frI b1 (frI b0 e.1))) 10 (e.1 10 &&& ((nI 1 <<< (nI i &&& nI 31)) ^^^ (-nI 1))) := by
  have hb0' : b0 < 48 := by omega
  have hb1' : b1 < 48 := by omega
  have hR0 : ∀ (x : rS2), (rRelI b0 dir x).1 = frI b0 x.1 := fun x => by
    unfold rRelI frI
    by_cases c : b0 = 0
    · rw [if_pos c, if_pos c]
    · rw [if_neg c, if_neg c]; rfl
  have hR1 : ∀ (x : rS2), (rRelI b1 dir x).1 = frI b1 x.1 := fun x => by
    unfold rRelI frI
    by_cases c : b1 = 0
    · rw [if_pos c, if_pos c]
    · rw [if_neg c, if_neg c]; rfl
  have hmem : (rDrp i (rRelI b1 dir (rRelI b0 dir e))).1 = upd (zerF (16 + 4 * i) 4 (frI b1 (frI b0 e.1))) 10 (e.1 10 &&& ((nI 1 <<< (nI i &&& nI 31)) ^^^ (-nI 1))) := by
    show upd (zerF (16 + 4 * i) 4 (rRelI b1 dir (rRelI b0 dir e)).1) 10 ((rRelI b1 dir (rRelI b0 dir e)).1 10 &&& _) = _
    rw [hR1, hR0, frI_o hb1' (by omega), frI_o hb0' (by omega)]
  obtain ⟨s, hs, hs1, hs2⟩ := h.2.2.2.2
  -- the class's road
  have m0 : MR (dbf dir d) (e.1, e.2.1, e.2.2.1, e.2.2.2.1, nI (if dir = true then 1 else s)) := by
    refine ⟨h.1, h.2.1, h.2.2.1, h.2.2.2.1, if dir = true then 1 else s, by split <;> omega, ?_, rfl⟩
    show d.2.2.2.2 ||| bI dir = _
    rw [hs1, or_bI hs]
  have m1 := MR_frI (a := 16 + 4 * i + 2) (b := b0) m0 (by omega) (by omega) hb0 h0 (by rw [show (16 + 4 * i + 2) / 8 = 2 + i / 2 by omega]; exact ht)
  have hm1 := frE_mem (a := 16 + 4 * i + 2) (b := b0) (e := (e.1, e.2.1, e.2.2.1, e.2.2.2.1, nI (if dir = true then 1 else s))) h0
  have hm1' : (frE (16 + 4 * i + 2) b0 (e.1, e.2.1, e.2.2.1, e.2.2.2.1, nI (if dir = true then 1 else s))).1 = upd (frI b0 e.1) (16 + 4 * i + 2) (nI 0) := hm1
  have h1' : (frE (16 + 4 * i + 2) b0 (e.1, e.2.1, e.2.2.1, e.2.2.2.1, nI (if dir = true then 1 else s))).1 (16 + 4 * i + 3) = nI b1 := by
    rw [hm1', pk_un (by omega), frI_o hb0' (by omega)]
    exact h1
  have hc1 : mb (frE (16 + 4 * i + 2) b0 (e.1, e.2.1, e.2.2.1, e.2.2.2.1, nI (if dir = true then 1 else s))).2.1 (2 + i / 2) = true := frE_ch (by omega) (by omega) ht
  have m2 := MR_frI (a := 16 + 4 * i + 3) (b := b1) m1 (by omega) (by omega) (by
    rcases hb1 with q | ⟨q1, q2, q3, q4⟩
    · exact Or.inl q
    · refine Or.inr ⟨q1, q2, ?_⟩
      rw [hm1', tkB_at (f := frI b0 e.1) (pk_un (by omega)), frI_tk hb0' q2 q3]
      exact q4) h1' (by rw [show (16 + 4 * i + 3) / 8 = 2 + i / 2 by omega]; exact hc1)
  have hm2 := frE_mem (a := 16 + 4 * i + 3) (b := b1) h1'
  have hc2 : mb (frE (16 + 4 * i + 3) b1 (frE (16 + 4 * i + 2) b0 (e.1, e.2.1, e.2.2.1, e.2.2.2.1, nI (if dir = true then 1 else s)))).2.1 (2 + i / 2) = true := frE_ch (by omega) (by omega) hc1
  rw [hm1', frI_upd hb1' (by omega)] at hm2
  generalize hV : frE (16 + 4 * i + 3) b1 (frE (16 + 4 * i + 2) b0 (e.1, e.2.1, e.2.2.1, e.2.2.2.1, nI (if dir = true then 1 else s))) = V at m2 hm2 hc2
  have m3 := MR_chgS (a := 16 + 4 * i) (v := nI 0) m2 (by omega) (by rw [show (16 + 4 * i) / 8 = 2 + i / 2 by omega]; exact hc2)
  have m4 := MR_chgS (a := 16 + 4 * i + 1) (v := nI 0) m3 (by omega) (by rw [show (16 + 4 * i + 1) / 8 = 2 + i / 2 by omega]; exact hc2)
  have h10 : upd (upd V.1 (16 + 4 * i) (nI 0)) (16 + 4 * i + 1) (nI 0) 10 = e.1 10 := by
    rw [pk_un (by omega), pk_un (by omega), hm2, pk_un (by omega), pk_un (by omega), frI_o hb1' (by omega), frI_o hb0' (by omega)]
  have m5 := MR_chg (a := 10) (v := e.1 10 &&& ((nI 1 <<< (nI i &&& nI 31)) ^^^ (-nI 1))) m4 (by omega) (by
    show ¬ upd (upd V.1 (16 + 4 * i) (nI 0)) (16 + 4 * i + 1) (nI 0) 10 = _
    rw [h10]
    exact and_bit_ne (by omega) hbit)
  have hcls : drpC i b0 b1 d = chg 10 (e.1 10 &&& ((nI 1 <<< (nI i &&& nI 31)) ^^^ (-nI 1))) (chg (16 + 4 * i + 1) (nI 0) (chg (16 + 4 * i) (nI 0) (frC (16 + 4 * i + 3) b1 (frC (16 + 4 * i + 2) b0 (dbf dir d))))) := by
    unfold drpC drp2
    rw [hdir]
    have : (chg (16 + 4 * i + 1) (nI 0) (chg (16 + 4 * i) (nI 0) (frC (16 + 4 * i + 2 + 1) b1 (frC (16 + 4 * i + 2) b0 (dbf dir d))))).1 10 = e.1 10 := by
      have := m4.1
      rw [show 16 + 4 * i + 2 + 1 = 16 + 4 * i + 3 from rfl, this]
      exact h10
    rw [this]
  have hsets : ∀ b, b < 48 → mb V.2.1 b = mb (rRelI b1 dir (rRelI b0 dir e)).2.1 b ∧ mb V.2.2.1 b = mb (rRelI b1 dir (rRelI b0 dir e)).2.2.1 b ∧ mb V.2.2.2.1 b = mb (rRelI b1 dir (rRelI b0 dir e)).2.2.2.1 b := by
    intro b _
    rw [← hV]
    unfold frE rRelI
    by_cases c0 : b0 = 0 <;> by_cases c1 : b1 = 0
    · rw [if_pos c0, if_pos c0, if_pos c1, if_pos c1]
      exact ⟨rfl, rfl, rfl⟩
    · rw [if_pos c0, if_pos c0, if_neg c1, if_neg c1]
      exact ⟨rfl, rfl, rfl⟩
    · rw [if_neg c0, if_neg c0, if_pos c1, if_pos c1]
      exact ⟨rfl, rfl, rfl⟩
    · rw [if_neg c0, if_neg c0, if_neg c1, if_neg c1]
      exact ⟨rfl, rfl, rfl⟩
  have hsw : V.2.2.2.2 = (rRelI b1 dir (rRelI b0 dir e)).2.2.2.2 := by
    rw [← hV]
    unfold frE rRelI
    cases dir with
    | true =>
      have := hd0 rfl
      by_cases c1 : b1 = 0
      · rw [if_neg this, if_neg this, if_pos c1, if_pos c1]
        rfl
      · rw [if_neg this, if_neg this, if_neg c1, if_neg c1]
        rfl
    | false =>
      by_cases c0 : b0 = 0 <;> by_cases c1 : b1 = 0
      · rw [if_pos c0, if_pos c0, if_pos c1, if_pos c1]; exact hs2.symm
      · rw [if_pos c0, if_pos c0, if_neg c1, if_neg c1]; exact hs2.symm
      · rw [if_neg c0, if_neg c0, if_pos c1, if_pos c1]; exact hs2.symm
      · rw [if_neg c0, if_neg c0, if_neg c1, if_neg c1]; exact hs2.symm
  have hsub : ∀ (x : rS2) b y, y = 0 ∨ 18 ≤ y → mb (rRelI y dir x).2.1 b = true → mb x.2.1 b = true ∨ b = 1 := fun x b y hy hm => by
    unfold rRelI at hm
    by_cases c : y = 0
    · rw [if_pos c] at hm
      exact Or.inl hm
    · rw [if_neg c] at hm
      have hm2 : mb (upd (upd x.2.1 1 (nI 1)) y (nI 0)) b = true := hm
      rw [mb_z, mb_1] at hm2
      by_cases c2 : b = 1
      · exact Or.inr c2
      · simp [c2] at hm2
        exact Or.inl hm2.2
  have hcnt : ∀ (x : rS2) y, nCh (rRelI y dir x) ≤ nCh x + 1 := fun x y => by
    unfold rRelI
    by_cases c : y = 0
    · rw [if_pos c]; omega
    · rw [if_neg c]
      have g1 := cnt_0le (g := upd x.2.1 1 (nI 1)) (a := y)
      have g2 := cnt_1le (g := x.2.1) (a := 1)
      show cntF (mb (upd (upd x.2.1 1 (nI 1)) y (nI 0))) 48 0 0 ≤ cntF (mb x.2.1) 48 0 0 + 1
      omega
  have hloo : ∀ (x : rS2) y b, mb (rRelI y dir x).2.2.1 b = true → mb x.2.2.1 b = true := fun x y b hm => by
    unfold rRelI at hm
    by_cases c : y = 0
    · rw [if_pos c] at hm; exact hm
    · rw [if_neg c] at hm
      have hm2 : mb (upd x.2.2.1 y (nI 0)) b = true := hm
      rw [mb_z] at hm2
      simp at hm2
      exact hm2.2
  refine ⟨?_, ?_, ?_, hmem⟩
  · rw [hcls]
    refine MR_congr m5 ?_ (fun b hb => ?_) (fun b hb => ((hsets b hb).2.1).symm) (fun b hb => ((hsets b hb).2.2).symm) hsw.symm
    · rw [hmem, zer4]
      show _ = upd (upd (upd V.1 (16 + 4 * i) (nI 0)) (16 + 4 * i + 1) (nI 0)) 10 _
      rw [hm2]
    · show mb (upd (rRelI b1 dir (rRelI b0 dir e)).2.1 1 (nI 1)) b = mb (upd V.2.1 (10 / 8) (nI 1)) b
      rw [mb_1, mb_1, (hsets b hb).1]
  · have h11 : mb (rDrp i (rRelI b1 dir (rRelI b0 dir e))).2.1 1 = true := by
      show mb (upd (rRelI b1 dir (rRelI b0 dir e)).2.1 1 (nI 1)) 1 = true
      rw [mb_1]
      simp
    refine ⟨fun b hb hm => ?_, fun b hb hm => hsi.2.1 b hb (hloo _ _ _ (hloo _ _ _ hm)), fun _ _ _ => h11, fun _ => h11⟩
    have hm2 : mb (upd (rRelI b1 dir (rRelI b0 dir e)).2.1 1 (nI 1)) b = true := hm
    rw [mb_1] at hm2
    by_cases c : b = 1
    · omega
    · simp [c] at hm2
      rcases hsub _ b b1 (by omega) hm2 with q | q
      · rcases hsub _ b b0 (by omega) q with q2 | q2
        · exact hsi.1 b hb q2
        · omega
      · omega
  · have g1 := hcnt e b0
    have g2 := hcnt (rRelI b0 dir e) b1
    have g3 := cnt_1le (g := (rRelI b1 dir (rRelI b0 dir e)).2.1) (a := 1)
    have g4 : nCh (rDrp i (rRelI b1 dir (rRelI b0 dir e))) ≤ nCh (rRelI b1 dir (rRelI b0 dir e)) + 1 := g3
    omega
