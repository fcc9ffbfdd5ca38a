/-! FROM THE PURE MACHINE TO THE CLAIM -/
def lw_P (b : Addr) (xs : List Int32) (args : Array Value) (s : State) : Prop := args = #[.ref b] ∧ s.IntsAt b xs ∧ xs.length ≤ 2560 ∧ (Jvm.Cond.and given_1 narrow_1).before args s = true
def lw_Q (_ : Array Value) (s : State) (o : Outcome) (t : State) : Prop := o = .returned (some (.int 1)) ∧ Framed s o t [] 1058 12767
theorem lw_pre_spec {args : Array Value} {s : State} (h : (Jvm.Cond.and given_1 narrow_1).before args s = true) (hr : rest_1_c.before args s = true) : ∃ (b : Addr) (xs : List Int32), lw_P b xs args s := by
  have hs := flat_of_before _ h
  have hq := flat_of_before _ hr
  have hc : (Cond.count 1).before args s = true := hs _ (by decide +kernel)
  have harr : (Cond.arrayOf (.arg 0) .int).before args s = true := hs _ (by decide +kernel)
  have hle : (Cond.le (.length (.arg 0)) (.int 2560)).before args s = true := hs _ (by decide +kernel)
  have hlen : (Cond.isInt (.length (.arg 0))).before args s = true := hq _ (by decide +kernel)
  have hall : (Cond.all (.arg 0) (.isInt (.elem (.arg 0) (.index 0)))).before args s = true := hq _ (by decide +kernel)
  obtain ⟨b, xs, hb, hx⟩ := State.ints_of_pre rfl harr hlen hall
  have hsm : xs.length < 2 ^ 31 := hx.choose_spec.2.2.2
  have hev : (Term.length (.arg 0)).eval args s none [] s = some (.int xs.length.toInt32) := hx.length_eval hb
  have hv := Cond.le_ints hev (show (Term.int 2560).eval args s none [] s = some (.int 2560) from rfl)
  have hd : xs.length.toInt32 ≤ 2560 := by
    simpa [Cond.before, Cond.holds, hv] using hle
  have hN : xs.length ≤ 2560 := (Int32.ofNat_le_ofNat hsm (by decide)).mp (show Int32.ofNat xs.length ≤ Int32.ofNat 2560 from hd)
  exact ⟨b, xs, Cond.one_arg hc (show args[0]? = some (.ref b) from hb), hx, hN, h⟩
theorem lw_frame {s t : State} {o : Outcome} {args : Array Value} (h : Framed s o t [] 1058 12767) :
    Framed s o t (fieldLocs frame_1_writes args s ++ arrayLocs frame_1_arrays args s ++ staticLocs frame_1_statics s) 1058 12767 := h
/-- what is left: the pure machine comes to the law's end with true, for every script, within the room -/
def pGoal : Prop := ∀ X : pScr, X.1 ≤ 2560 → pW X pLaw 0 (pEnt pLaw [pScV]) [] (fun _ => none) 0 true (fun r => r.1 = .inl (some (.int 1)) ∧ r.2.2.2.2.1 ≤ 1058 ∧ r.2.2.2.2.2 ≤ 12767)
theorem pNw_all : ((List.range 6).all fun ci => pNwL.any fun q => q.2.1 == ci) = true := by decide +kernel
theorem pIns_in {ci : Nat} (h : ci < 6) : Jvm.Cond.instantiable (pCn ci) (pSl ci) ∈ lw_tbl := by
  obtain ⟨q, hq, he⟩ := List.any_eq_true.mp (List.all_eq_true.mp pNw_all ci (List.mem_range.mpr h))
  have h3 := List.all_eq_true.mp pNw_chk q hq
  simp only [Bool.and_eq_true, decide_eq_true_eq] at h3
  have e : q.2.1 = ci := by simpa using he
  subst e
  exact pAt_mem h3.1.1.2
theorem pNc_chk : ((List.range 5).all fun x => (List.range 5).all fun y => x == y || decide (Jvm.Cond.not (.castable (pXn x) (pXn y)) ∈ flatC (Jvm.Cond.and given_1 narrow_1))) = true := by decide +kernel
theorem jStart {s : State} {b L : Nat} {xs : Nat → Int32} (l : Launch) (hl : l.stackTraces = false) (hts : ∀ w ∈ lw_tbl, w.before #[Value.ref b] s = true) (hX : va_X b L xs s s.heap) (hbl : b < s.heap.size) (hL : L ≤ 2560) (hgv : (Jvm.Cond.and given_1 narrow_1).before #[Value.ref b] s = true) :
    ∃ (D : va_G) (cA : Nat → ClassId), jOk (l, s, D, cA, b, L, xs) ∧ jTh (l, s, D, cA, b, L, xs) ∧ jNc (l, s, D, cA, b, L, xs) := by
  have hs := flat_of_before _ hgv
  have hcl : ∀ ci : Nat, ∃ (c : ClassId) (iS : Nat → Nat), ci < 6 → u_Kn s (pCn ci) (pTf ci) (pSl ci) c iS := by
    intro ci
    by_cases h : ci < 6
    · obtain ⟨c, iS, hk⟩ := u_known (C := pCn ci) (T := pTf ci) (N := pSl ci) (n := pSl ci) hts (pC_ok ci h).2.2.2.1 (hts _ (pIns_in h))
      exact ⟨c, iS, fun _ => hk⟩
    · exact ⟨0, fun _ => 0, fun h1 => absurd h1 h⟩
  obtain ⟨a0, k0, c0, i1, i2, i3⟩ := Cond.arrayClass_spec (hts _ pAr_in.1)
  obtain ⟨a1, k1, c1, l1, l2, l3⟩ := Cond.arrayClass_spec (hts _ pAr_in.2.1)
  obtain ⟨a2, k2, c2, b1, b2, b3⟩ := Cond.arrayClass_spec (hts _ pAr_in.2.2)
  refine ⟨(fun ci => Classical.choose (hcl ci), fun ci => Classical.choose (Classical.choose_spec (hcl ci))), fun t => if t = 0 then a0 else if t = 1 then a1 else a2, ⟨hts, ⟨?_, ?_⟩, hX, hbl, Nat.lt_of_le_of_lt hL (by decide), hl⟩, ?_, ?_⟩
  · intro ci q hq
    have hlt : ci < 6 := (List.getElem?_eq_some_iff.mp hq).1
    have he := (pC_ok ci hlt).1
    cases he.symm.trans hq
    exact Classical.choose_spec (Classical.choose_spec (hcl ci)) hlt
  · intro k q hq
    match k, hq with
    | 0, hq => cases hq; exact ⟨fun n z => ⟨fun k h => (by cases h), k0, i2, c0, i3⟩, i1⟩
    | 1, hq => cases hq; exact ⟨fun n z => ⟨fun k h => (by cases h), k1, l2, c1, l3⟩, l1⟩
    | 2, hq => cases hq; exact ⟨fun n z => ⟨fun k h => (by cases h), k2, b2, c2, b3⟩, b1⟩
    | k + 3, hq => simp [jTy] at hq
  · exact ⟨vx_Zqof (hts _ (pAt_mem (i := 327) (by decide +kernel))) (hts _ (pAt_mem (i := 76) (by decide +kernel))) (hs _ (by decide +kernel)) (fun a ha => Nat.not_le.mpr ha), vx_Zqof (hts _ (pAt_mem (i := 329) (by decide +kernel))) (hts _ (pAt_mem (i := 76) (by decide +kernel))) (hs _ (by decide +kernel)) (fun a ha => Nat.not_le.mpr ha)⟩
  · intro x y hx hy hne
    have h1 := List.all_eq_true.mp (List.all_eq_true.mp pNc_chk x (List.mem_range.mpr hx)) y (List.mem_range.mpr hy)
    simp only [Bool.or_eq_true, beq_iff_eq, decide_eq_true_eq] at h1
    rcases h1 with h1 | h1
    · exact absurd h1 hne
    · exact va_Nc.of (hs _ h1)
set_option maxHeartbeats 4000000 in
theorem lw_walk (hp : pGoal) (l : Launch) (hl : l.stackTraces = false) (b : Addr) (xs : List Int32) : MetFree l x (headSpec (Jvm.Cond.code x code maxLocals ret :: tables_1) room_1) (lw_P b xs) (fun _ _ _ _ _ => True) lw_Q := by
  refine MetFree.of_bodyS (code := code) (maxLocals := maxLocals) (ret := ret) (by decide) ?_ ?_
  · intro args s m h hn
    obtain ⟨meth, c, h1, h2, h3, h4, h5, h6, -, -⟩ := Cond.code_spec hn (atoms_spec (ws := Jvm.Cond.code x code maxLocals ret :: tables_1) h _ List.mem_cons_self)
    exact ⟨meth, c, h1, h2, h3, h4, h5, h6⟩
  · intro p e s m args below meth c s₁ B hml0 hP _
    obtain ⟨rfl, hx, hbd, hgv⟩ := hP
    obtain ⟨scr, harrAt, hlist, hof, hsmall⟩ := hx
    obtain ⟨hcb, hkn, -, -⟩ := State.arrayAt?_spec harrAt
    have hts0 : ∀ c ∈ (Jvm.Cond.code x code maxLocals ret :: tables_1), c.before #[Value.ref b] s = true := atoms_spec (ws := Jvm.Cond.code x code maxLocals ret :: tables_1) B.pre
    have hts : ∀ w ∈ lw_tbl, w.before #[Value.ref b] s = true := k2_hts_sels lw_privs (fun w hw => hts0 w (List.mem_cons_of_mem _ hw)) lw_privs_ok
    have X₀ : Stand p l e room_1 s m #[Value.ref b] below meth c s₁ [] 0 0 := Stand.of_body B
    have hh0 : s₁.heap = s.heap := by rw [B.state]; rfl
    have hsz : scr.slots.size = xs.length := by rw [← Array.length_toList, hlist, List.length_map]
    have hval : ∀ j : Nat, j < xs.length → scr.slots[j]? = some (.int (xs.getD j 0)) := fun j hj => by
      rw [← Array.getElem?_toList, hlist]
      simp [hj]
    have hbl : b < s.heap.size := (Array.getElem?_eq_some_iff.mp hcb).1
    have hX : va_X b xs.length (fun j => xs.getD j 0) s s.heap := ⟨scr, hcb, hof, hkn, hsz, hval⟩
    obtain ⟨D, cA, hG, hTh, hN⟩ := jStart l hl hts hX hbl hbd hgv
    obtain ⟨n, r, hrun, hr1, hr2, hr3⟩ := hp (xs.length, fun j => xs.getD j 0) hbd
    obtain ⟨G, hGe⟩ : ∃ G : jG, G = (l, s, D, cA, b, xs.length, fun j => xs.getD j 0) := ⟨_, rfl⟩
    rw [← hGe] at hG hTh hN
    have hXe : G.X = (xs.length, fun j => xs.getD j 0) := by rw [hGe]
    have hse : G.s = s := by rw [hGe]
    have hle : G.l = l := by rw [hGe]
    have hbe : G.b = b := by rw [hGe]
    rw [← hXe] at hrun
    have hW := pSound hG hTh hN n pLaw 0 _ _ _ _ _ _ (by decide) hrun
    obtain ⟨meth', c', h1, h2, -, h4, -, -, h7, -⟩ := pCw_spec (k := pLaw) (show (pCw pLaw).before #[Value.ref b] s = true from hts0 _ List.mem_cons_self) B.named
    cases B.method.symm.trans h1
    cases X₀.code.symm.trans h2
    have hB : jB G = s.heap.size := by rw [hGe]; rfl
    have cx : jCx G pLaw p s m meth c := ⟨B.exec, B.bytes, h4, B.returns, B.notSynchronized, findClass_of_methodNamed B.named, (name_of_methodNamed B.named B.method).1, h7, by rw [hse]; exact State.WarmedH.refl s, by rw [hB]; exact Nat.le_refl _, fun q _ => by rw [hse]⟩
    have hH : jH G (fun _ => none) 0 true s.heap := ⟨fun k q h => by simp [jWs] at h, ⟨by rw [hB]; exact Nat.le_refl _, fun q _ => by rw [hse]⟩, (fun a o h => nomatch h), (fun a h => absurd h (Nat.not_lt_zero _)), fun _ => (show s.heap.size = jB G + 0 by rw [hB]; rfl)⟩
    have K := hW p e room_1 s m #[Value.ref b] below meth c s.heap [] 0 0 _ 1058 12767 cx (by decide +kernel) (by decide +kernel) (by omega) (by decide) (by omega) (by decide) hH (jEnt (by decide +kernel)) (fun q hq => by cases hq)
    rw [hle] at K
    obtain ⟨t, a1, o, b1, b2, b3, b4, Lc, b5, b6⟩ := K s₁ hh0 X₀
    unfold jOut at b3
    rw [hr1] at b3
    have hent : entryFrame m (#[Value.ref b] : Array Value) maxLocals = F0 m 0 (lg_sl ([pScV].map (jTr G)) ++ List.replicate (pN pLaw - (lg_sl ([pScV].map (jTr G))).length) Slot.unset).toArray (([] : List Value).map (jTr G)) := by
      have e1 : [pScV].map (jTr G) = [Value.ref b] := by show [Value.ref G.b] = _; rw [hbe]
      rw [e1]
      exact lg_entry_eq m [Value.ref b] maxLocals
    refine ⟨t, o, ?_, b1, b2, b3.1, ⟨_, b3.1⟩, b4, b5.weaken (fun y hy hlt => absurd hlt (Nat.not_lt.mpr (by rw [← hB]; exact b6 y hy))) (Nat.le_refl _) (Nat.le_refl _)⟩
    rw [hent]
    exact a1
theorem lw_comes (hp : pGoal) (l : Launch) (hl : l.stackTraces = false) : Comes l x (Jvm.Cond.code x code maxLocals ret :: tables_1) room_1 (fun tb e args s => Calls_1 tb e args s ∧ rest_1 tb e args s ∧ Pre_1 tb e args s)
    (fun _ _ args s o t => lw_Q args s o t) := by
  intro p e ha hc hk s m args below hf hfit hheap happ hpre
  obtain ⟨b, xs, hP⟩ := lw_pre_spec hpre.2.2 hpre.2.1
  obtain ⟨k, o, h1, h2, h3, hQ⟩ := lw_walk hp l hl b xs p e ha hc hk s m args below hf ((Spec.applies_iff_loose hf).mp happ).1 hP trivial
  exact ⟨k, o, h1, h2, h3, hQ⟩
theorem lw_limb (hp : pGoal) (L : Jvm.Cond) (hL : ∀ (args : Array Value) (s t : State), L.after args s (.returned (some (.int 1))) t = true) :
    ArmFor flags0 classFile x code maxLocals ret World_1 tables_1 room_1 Calls_1 rest_1 Pre_1
      (fun tb e a s o t => postC L tb e a s o t ∧ Framed s o t (fieldLocs frame_1_writes a s ++ arrayLocs frame_1_arrays a s ++ staticLocs frame_1_statics s) 1058 12767) := by
  intro l hfl _ _ p e ha hc hk s m args below hf hfit hheap happ hpre
  have hl : l.stackTraces = false := by unfold Launch.stackTraces; rw [hfl]; decide +kernel
  obtain ⟨k, o, h1, h2, h3, rfl, hF⟩ := lw_comes hp l hl p e ha hc hk s m args below hf hfit hheap happ hpre
  exact ⟨k, _, h1, h2, h3, hL args s _, lw_frame hF⟩
theorem i_vc_of (hp : pGoal) : Claimed_1_1 ∧ Claimed_1_2 := ⟨lw_limb hp limb_1_1 (fun args s t => by simp [limb_1_1, Cond.after, Cond.holds, Cond.value]), lw_limb hp limb_1_2 (fun args s t => Cond.after_iff.mpr (by
  first | (rw [show limb_1_2 = Cond.eq .result (.int 1) from rfl, Cond.eq_ints (x := 1) (y := 1) rfl rfl]; simp; done) | (simp [limb_1_2, Cond.value, Term.eval]; done)))⟩
