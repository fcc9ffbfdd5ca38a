/-! AN IMAGE THAT PASSES ALL FIVE IS A FILE SYSTEM -/
theorem tN_nI {n : Nat} (h : n < 2 ^ 31) : tN (nI n) = n := by
  unfold tN nI
  show (BitVec.ofNat 32 n).toNat = n
  rw [BitVec.toNat_ofNat]
  omega
theorem tN_inj {x y : Int32} (h : tN x = tN y) : x = y := Int32.toBitVec_inj.mp (BitVec.eq_of_toNat_eq h)
theorem tN_us {x : Int32} {k : Nat} (hk : k < 32) : tN (us k x) = tN x / 2 ^ k := tN_shr x k hk
/-- a word of a small kind and small links -/
theorem word_kl {w : Int32} {k l : Nat} (h1 : w &&& nI 15 = nI k) (hk : k < 16) (h2 : us 4 w = nI l) (hl : l < 1000) : w = nI (k + 16 * l) := by
  have e1 := pk_and w (m := nI 15) 4 (by decide)
  rw [h1] at e1
  have hlt := Nat.mod_lt w.toBitVec.toNat (show 0 < 2 ^ 4 by omega)
  have e2 : k = tN w % 2 ^ 4 := (nI_eq (by omega) (by omega)).mp e1
  have e3 := tN_us (x := w) (k := 4) (by omega)
  rw [h2, tN_nI (by omega)] at e3
  refine tN_inj ?_
  rw [tN_nI (by omega)]
  omega
theorem word_ni {w : Int32} {n j : Nat} (h1 : w &&& nI 31 = nI n) (hn : n < 32) (h2 : us 5 w = nI j) (hj : j < 1000) : w = nI (n + 32 * j) := by
  have e1 := pk_and w (m := nI 31) 5 (by decide)
  rw [h1] at e1
  have hlt := Nat.mod_lt w.toBitVec.toNat (show 0 < 2 ^ 5 by omega)
  have e2 : n = tN w % 2 ^ 5 := (nI_eq (by omega) (by omega)).mp e1
  have e3 := tN_us (x := w) (k := 5) (by omega)
  rw [h2, tN_nI (by omega)] at e3
  refine tN_inj ?_
  rw [tN_nI (by omega)]
  omega
def yK (f : Nat → Int32) (i : Nat) : Nat := if 1 ≤ i ∧ i < 16 then (kd f i).toNatClampNeg else 0
def yL (f : Nat → Int32) (i : Nat) : Nat := if yK f i = 0 then 0 else if i = 1 then 1 else heldN f i
def yS (f : Nat → Int32) (i : Nat) : Nat := if 1 ≤ i ∧ i < 16 then (f (16 + 4 * i + 1)).toNatClampNeg else 0
def yN (f : Nat → Int32) (i j : Nat) : Nat := if (1 ≤ i ∧ i < 16) ∧ j < 2 then (f (16 + 4 * i + (2 + j))).toNatClampNeg else 0
def yE (f : Nat → Int32) (d k : Nat) : Nat := if yK f d = 2 ∧ k < yS f d then (itm f d k).toNatClampNeg else 0
/-- what the inodes are, in numbers -/
def yI (f : Nat → Int32) (i : Nat) : Prop := kd f i = nI (yK f i) ∧ yK f i ≤ 2 ∧ f (16 + 4 * i + 1) = nI (yS f i) ∧ yS f i ≤ 16 ∧ f (16 + 4 * i + 2) = nI (yN f i 0) ∧ f (16 + 4 * i + 3) = nI (yN f i 1) ∧
  (yK f i = 0 → f (16 + 4 * i) = nI 0 ∧ yS f i = 0 ∧ yN f i 0 = 0 ∧ yN f i 1 = 0) ∧ (∀ j, j < 2 → ¬ yN f i j = 0 → 18 ≤ yN f i j ∧ yN f i j < 48 ∧ 8 * j < yS f i) ∧ (yK f i = 2 → (yS f i = 8 ∨ yS f i = 16) ∧ ¬ yN f i 0 = 0 ∧ (¬ yN f i 1 = 0 ↔ yS f i = 16))
theorem yI_of {f : Nat → Int32} {i : Nat} (h1 : 1 ≤ i) (h2 : i < 16) (h : inoOk f i) : yI f i := by
  have eK : ∀ k, k < 16 → kd f i = nI k → yK f i = k := fun k hk e => by
    unfold yK
    rw [if_pos ⟨h1, h2⟩, e, nI_clamp (by omega)]
  have eS : ∀ k, k < 100 → f (16 + 4 * i + 1) = nI k → yS f i = k := fun k hk e => by
    unfold yS
    rw [if_pos ⟨h1, h2⟩, e, nI_clamp (by omega)]
  have eN : ∀ j k, j < 2 → k < 100 → f (16 + 4 * i + (2 + j)) = nI k → yN f i j = k := fun j k hj hk e => by
    unfold yN
    rw [if_pos ⟨⟨h1, h2⟩, hj⟩, e, nI_clamp (by omega)]
  unfold yI
  rcases h with ⟨k0, w0, s0, n0, n1⟩ | ⟨k1, l1, s, hs, se, hn⟩ | ⟨k2, l2, s, hs, se, hn⟩
  · rw [eK 0 (by omega) k0, eS 0 (by omega) s0, eN 0 0 (by omega) (by omega) n0, eN 1 0 (by omega) (by omega) n1]
    refine ⟨k0, by omega, s0, by omega, n0, n1, fun _ => ⟨w0, rfl, rfl, rfl⟩, fun j hj hz => ?_, fun z => by omega⟩
    have hj2 : j = 0 ∨ j = 1 := by omega
    rcases hj2 with rfl | rfl
    · exact absurd (eN 0 0 (by omega) (by omega) n0) hz
    · exact absurd (eN 1 0 (by omega) (by omega) n1) hz
  · have hN : ∀ j, j < 2 → f (16 + 4 * i + (2 + j)) = nI (yN f i j) ∧ (¬ yN f i j = 0 → 18 ≤ yN f i j ∧ yN f i j < 48 ∧ 8 * j < s) := by
      intro j hj
      rcases hn j hj with e | ⟨b, b1, b2, e, b3⟩
      · rw [eN j 0 hj (by omega) e]
        exact ⟨e, fun z => absurd rfl z⟩
      · rw [eN j b hj (by omega) e]
        exact ⟨e, fun _ => ⟨b1, b2, b3⟩⟩
    rw [eK 1 (by omega) k1, eS s (by omega) se]
    exact ⟨k1, by omega, se, hs, (hN 0 (by omega)).1, (hN 1 (by omega)).1, fun z => by omega, fun j hj hz => (hN j hj).2 hz, fun z => by omega⟩
  · have hN : ∀ j, j < 2 → f (16 + 4 * i + (2 + j)) = nI (yN f i j) ∧ (¬ yN f i j = 0 → 18 ≤ yN f i j ∧ yN f i j < 48 ∧ 8 * j < s) ∧ (yN f i j = 0 → s ≤ 8 * j) := by
      intro j hj
      rcases hn j hj with ⟨e, b3⟩ | ⟨b, b1, b2, e, b3⟩
      · rw [eN j 0 hj (by omega) e]
        exact ⟨e, fun z => absurd rfl z, fun _ => b3⟩
      · rw [eN j b hj (by omega) e]
        exact ⟨e, fun _ => ⟨b1, b2, b3⟩, fun z => by omega⟩
    rw [eK 2 (by omega) k2, eS s (by omega) se]
    have a0 := hN 0 (by omega)
    have a1 := hN 1 (by omega)
    refine ⟨k2, by omega, se, by omega, a0.1, a1.1, fun z => by omega, fun j hj hz => (hN j hj).2.1 hz, fun _ => ⟨hs, fun z => ?_, fun z => ?_, fun z y => ?_⟩⟩
    · have := a0.2.2 z
      omega
    · have := (a1.2.1 z).2.2
      omega
    · have := a1.2.2 y
      omega
theorem yK_out {f : Nat → Int32} {i : Nat} (h : ¬ (1 ≤ i ∧ i < 16)) : yK f i = 0 := if_neg h
theorem yN_out {f : Nat → Int32} {i j : Nat} (h : ¬ yN f i j = 0) : (1 ≤ i ∧ i < 16) ∧ j < 2 := Classical.byContradiction fun c => h (if_neg c)
/-- the entries, in numbers -/
theorem yE_of {f : Nat → Int32} (hI : ∀ i, 1 ≤ i → i < 16 → yI f i) (p2 : pass2 f = 0) {d k : Nat} (hd : yK f d = 2) (hk : k < yS f d) : itm f d k = nI (yE f d k) ∧ (¬ yE f d k = 0 → 1 ≤ yE f d k % 32 ∧ yE f d k % 32 ≤ 26 ∧ 1 ≤ yE f d k / 32 ∧ yE f d k / 32 ≤ 15 ∧ ¬ yK f (yE f d k / 32) = 0) := by
  have hd2 : 1 ≤ d ∧ d < 16 := Classical.byContradiction fun c => by
    have := yK_out (f := f) c
    omega
  have hi := hI d hd2.1 hd2.2
  have hkd : kd f d = nI 2 := by rw [hi.1, hd]
  have hsz : szN f d = yS f d := by
    unfold szN
    rw [hi.2.2.1, nI_clamp (by have := hi.2.2.2.1; omega)]
  have he := (pass2_ent p2 hd2.1 hd2.2 (decide_eq_true hkd) (by rw [hsz]; exact hk)).1
  have eE : yE f d k = (itm f d k).toNatClampNeg := if_pos ⟨hd, hk⟩
  rcases he with he | ⟨n0, n1, n26, j, j1, j15, je, jk⟩
  · rw [he] at eE
    have e0 : yE f d k = 0 := eE
    rw [e0]
    exact ⟨he, fun z => absurd rfl z⟩
  · obtain ⟨n, hn, hne⟩ := pk_andE (itm f d k) (m := nI 31) 5 (by decide)
    have hn32 : n < 32 := hn
    rw [hne] at n1 n26
    have n1' : 1 ≤ n := Classical.byContradiction fun c => n1 (nI_lt (by omega) (by omega))
    have n26' : n ≤ 26 := Classical.byContradiction fun c => n26 (nI_lt (by omega) (by omega))
    have hv := word_ni hne hn32 je (by omega)
    have e0 : yE f d k = n + 32 * j := by rw [eE, hv, nI_clamp (by omega)]
    rw [e0]
    have ed : (n + 32 * j) / 32 = j := by omega
    refine ⟨hv, fun _ => ⟨by omega, by omega, by omega, by omega, ?_⟩⟩
    rw [ed]
    intro z
    have := (hI j j1 (by omega)).1
    rw [z] at this
    exact jk this
theorem dup_iff {f : Nat → Int32} {d : Nat} {n : Int32} : ∀ m l, dupF f d n m l = false → ∀ k, l ≤ k → k < l + m → ¬ itm f d k = nI 0 → ¬ itm f d k &&& nI 31 = n := by
  intro m
  induction m with
  | zero => intro l _ k h1 h2; omega
  | succ m ih =>
    intro l h k h1 h2 h3 h4
    rw [dupF_s] at h
    simp only [Bool.or_eq_false_iff] at h
    by_cases c : k = l
    · subst c
      have h5 := h.1
      simp [h3, h4] at h5
    · exact ih (l + 1) h.2 k (by omega) (by omega) h3 h4
theorem yE_nm {f : Nat → Int32} (hI : ∀ i, 1 ≤ i → i < 16 → yI f i) (p2 : pass2 f = 0) {d k l : Nat} (hkl : l < k) (hE : ¬ yE f d k = 0) (hL : ¬ yE f d l = 0) : ¬ yE f d k % 32 = yE f d l % 32 := by
  have hk : yK f d = 2 ∧ k < yS f d := Classical.byContradiction fun c => hE (if_neg c)
  have hd2 : 1 ≤ d ∧ d < 16 := Classical.byContradiction fun c => by
    have := yK_out (f := f) c
    omega
  have hi := hI d hd2.1 hd2.2
  have hs16 := hi.2.2.2.1
  have hkd : kd f d = nI 2 := by rw [hi.1, hk.1]
  have hsz : szN f d = yS f d := by
    unfold szN
    rw [hi.2.2.1, nI_clamp (by omega)]
  obtain ⟨a1, a2⟩ := yE_of hI p2 hk.1 hk.2
  obtain ⟨b1, b2⟩ := yE_of hI p2 (d := d) (k := l) hk.1 (by omega)
  obtain ⟨a3, a4, a5, a6, _⟩ := a2 hE
  obtain ⟨b3, b4, b5, b6, _⟩ := b2 hL
  have nz : ∀ n, ¬ n = 0 → n < 1000 → ¬ nI n = nI 0 := fun n h1 h2 z => h1 ((nI_eq (by omega) (by omega)).mp z)
  have hd := (pass2_ent p2 hd2.1 hd2.2 (decide_eq_true hkd) (show k < szN f d by rw [hsz]; exact hk.2)).2 (by rw [a1]; exact nz _ hE (by omega))
  have := dup_iff k 0 hd l (by omega) (by omega) (by rw [b1]; exact nz _ hL (by omega))
  rw [a1, b1, nI_and31 (by omega), nI_and31 (by omega)] at this
  intro z
  exact this (by rw [z])
theorem cnt_tail {P : Nat → Bool} {s : Nat} (hs : s ≤ 16) (h : ∀ k, s ≤ k → k < 16 → P k = false) (c : Nat) : cntF P 16 0 c = cntF P s 0 c := by
  have e : 16 = s + (16 - s) := by omega
  rw [e, cnt_add, cnt_none (16 - s) (0 + s) _ (fun i h1 h2 => h i (by omega) (by omega))]
theorem tg_of {f : Nat → Int32} (hI : ∀ i, 1 ≤ i → i < 16 → yI f i) (p2 : pass2 f = 0) {i : Nat} (h1 : 1 ≤ i) (h2 : i < 16) {d k : Nat} (hd : yK f d = 2) (hk : k < yS f d) : tg (yE f) i d k = ofI f (nI i) d k := by
  obtain ⟨a1, a2⟩ := yE_of hI p2 hd hk
  unfold tg ofI
  rw [a1]
  by_cases c : yE f d k = 0
  · rw [c]
    simp
    omega
  · obtain ⟨_, _, a5, a6, _⟩ := a2 c
    have n0 : ¬ nI (yE f d k) = nI 0 := fun z => c ((nI_eq (by omega) (by omega)).mp z)
    rw [us5_n (by omega), decide_eq_false n0]
    simp only [Bool.not_false, Bool.true_and]
    exact decide_eq_decide.mpr (nI_eq (by omega) (by omega)).symm
theorem cD_hF {f : Nat → Int32} (hI : ∀ i, 1 ≤ i → i < 16 → yI f i) (p2 : pass2 f = 0) {i : Nat} (h1 : 1 ≤ i) (h2 : i < 16) : ∀ m d n p, d + m = 16 → 1 ≤ d → cD (yE f) i m d n = (hF f (nI i) m d n p).1 := by
  intro m
  induction m with
  | zero => intro d n p _ _; rfl
  | succ m ih =>
    intro d n p hd hd1
    have hi := hI d hd1 (by omega)
    rw [cD_s, hF_s]
    have hsz : szN f d = yS f d := by
      unfold szN
      rw [hi.2.2.1, nI_clamp (by have := hi.2.2.2.1; omega)]
    by_cases c : isD f d = true
    · have hk2 : yK f d = 2 := by
        have e : kd f d = nI 2 := of_decide_eq_true c
        rw [hi.1] at e
        exact (nI_eq (by have := hi.2.1; omega) (by omega)).mp e
      rw [if_pos c, cnt_tail hi.2.2.2.1 (fun k g1 g2 => by
        have : yE f d k = 0 := if_neg (fun z => by omega)
        unfold tg
        rw [this]
        exact decide_eq_false (by omega)) n, cnt_congr (P' := ofI f (nI i) d) (yS f d) 0 n (fun k _ g2 => tg_of hI p2 h1 h2 hk2 (by omega)), hsz]
      exact ih (d + 1) _ _ (by omega) (by omega)
    · have hk2 : ¬ yK f d = 2 := fun z => c (decide_eq_true (by rw [hi.1, z]))
      rw [if_neg c, cnt_none 16 0 n (fun k _ _ => by
        have : yE f d k = 0 := if_neg (fun z => hk2 z.1)
        unfold tg
        rw [this]
        exact decide_eq_false (by omega))]
      exact ih (d + 1) n p (by omega) (by omega)
theorem Cn_h {f : Nat → Int32} (hI : ∀ i, 1 ≤ i → i < 16 → yI f i) (p2 : pass2 f = 0) {i : Nat} (h1 : 1 ≤ i) (h2 : i < 16) : Cn (yE f) i = heldN f i := cD_hF hI p2 h1 h2 15 1 0 0 (by omega) (by omega)
theorem hF_n {f : Nat → Int32} {i : Int32} : ∀ m d n p, 0 < n → (hF f i m d n p).2 = p := by
  intro m
  induction m with
  | zero => intro d n p _; rfl
  | succ m ih =>
    intro d n p hn
    rw [hF_s]
    by_cases c : isD f d = true
    · have hge := cntF_ge (P := ofI f i d) (szN f d) 0 n
      rw [if_pos c, ih _ _ _ (by omega), if_neg (by omega)]
    · rw [if_neg c]
      exact ih _ _ _ hn
theorem fnd_cnt {P : Nat → Bool} : fndF P 16 0 = none ↔ cntF P 16 0 0 = 0 := by
  rw [fnd_none_iff]
  constructor
  · intro h
    exact cnt_none 16 0 0 (fun i _ h2 => h i (by omega))
  · intro h k hk
    exact (cnt_0 16 0 0 h).2 k (by omega) (by omega)
theorem upF_hF {f : Nat → Int32} (hI : ∀ i, 1 ≤ i → i < 16 → yI f i) (p2 : pass2 f = 0) {i : Nat} (h1 : 1 ≤ i) (h2 : i < 16) : ∀ m d, d + m = 16 → 1 ≤ d → upF (yE f) i m d = (hF f (nI i) m d 0 0).2 := by
  intro m
  induction m with
  | zero => intro d _ _; rfl
  | succ m ih =>
    intro d hd hd1
    have hi := hI d hd1 (by omega)
    show (if fndF (tg (yE f) i d) 16 0 = none then upF (yE f) i m (d + 1) else d) = _
    rw [hF_s]
    have hsz : szN f d = yS f d := by
      unfold szN
      rw [hi.2.2.1, nI_clamp (by have := hi.2.2.2.1; omega)]
    by_cases c : isD f d = true
    · have hk2 : yK f d = 2 := by
        have e : kd f d = nI 2 := of_decide_eq_true c
        rw [hi.1] at e
        exact (nI_eq (by have := hi.2.1; omega) (by omega)).mp e
      have ec : cntF (tg (yE f) i d) 16 0 0 = cntF (ofI f (nI i) d) (szN f d) 0 0 := by
        rw [cnt_tail hi.2.2.2.1 (fun k g1 g2 => by
          have : yE f d k = 0 := if_neg (fun z => by omega)
          unfold tg
          rw [this]
          exact decide_eq_false (by omega)) 0, cnt_congr (P' := ofI f (nI i) d) (yS f d) 0 0 (fun k _ g2 => tg_of hI p2 h1 h2 hk2 (by omega)), hsz]
      rw [if_pos c]
      by_cases q : cntF (ofI f (nI i) d) (szN f d) 0 0 = 0
      · rw [if_pos (fnd_cnt.mpr (ec.trans q)), q, if_neg (by omega)]
        exact ih (d + 1) (by omega) (by omega)
      · rw [if_neg (fun z => q (ec.symm.trans (fnd_cnt.mp z))), hF_n _ _ _ _ (by omega), if_pos ⟨rfl, by omega⟩]
    · have hk2 : ¬ yK f d = 2 := fun z => c (decide_eq_true (by rw [hi.1, z]))
      have ez : cntF (tg (yE f) i d) 16 0 0 = 0 := cnt_none 16 0 0 (fun k _ _ => by
        have : yE f d k = 0 := if_neg (fun z => hk2 z.1)
        unfold tg
        rw [this]
        exact decide_eq_false (by omega))
      rw [if_neg c, if_pos (fnd_cnt.mpr ez)]
      exact ih (d + 1) (by omega) (by omega)
theorem up_h {f : Nat → Int32} (hI : ∀ i, 1 ≤ i → i < 16 → yI f i) (p2 : pass2 f = 0) {i : Nat} (h1 : 1 ≤ i) (h2 : i < 16) : up (yE f) i = heldD f i := upF_hF hI p2 h1 h2 15 1 (by omega) (by omega)
theorem rch_f {f : Nat → Int32} (hI : ∀ i, 1 ≤ i → i < 16 → yI f i) (p2 : pass2 f = 0) : ∀ m p, p < 16 → frF f m p = 1 → rch (yE f) m p := by
  intro m
  induction m with
  | zero => intro p _ h; exact h
  | succ m ih =>
    intro p hp h
    rw [frF_s] at h
    by_cases c : 1 < p
    · rw [if_pos c] at h
      have e := up_h hI p2 (i := p) (by omega) hp
      refine Or.inr ⟨c, ?_⟩
      rw [e]
      exact ih _ (by rw [← e]; exact up_lt) h
    · rw [if_neg c] at h
      exact Or.inl h
/-- bit b of the two ints -/
def bset (u : Int32 × Int32) (b : Nat) : Prop := (b < 32 → ib u.1 b = true) ∧ (32 ≤ b → ib u.2 (b - 32) = true)
theorem bset_s {u : Int32 × Int32} {b : Nat} {n : Int32} (h : bset u b) : bset (bkS n u) b := by
  unfold bkS
  split
  · refine ⟨h.1, fun z => ?_⟩
    show ib (u.2 ||| _) _ = true
    rw [ib_or, h.2 z]
    rfl
  · split
    · refine ⟨fun z => ?_, h.2⟩
      show ib (u.1 ||| _) _ = true
      rw [ib_or, h.1 z]
      rfl
    · exact h
theorem bset_n {u : Int32 × Int32} {b : Nat} (h1 : 18 ≤ b) (h2 : b < 48) : bset (bkS (nI b) u) b := by
  unfold bkS
  by_cases c : 31 < b
  · rw [if_pos (nI_lt c (by omega)), pk_sub (by omega)]
    refine ⟨fun z => by omega, fun _ => ?_⟩
    show ib (u.2 ||| nI 1 <<< (nI (b - 32) &&& nI 31)) (b - 32) = true
    rw [ib_set (by omega)]
    simp
  · rw [if_neg (nI_nlt (by omega) (by omega)), if_pos (nI_lt (by omega) (by omega))]
    refine ⟨fun _ => ?_, fun z => by omega⟩
    show ib (u.1 ||| nI 1 <<< (nI b &&& nI 31)) b = true
    rw [ib_set (by omega)]
    simp
theorem bks_keep {f : Nat → Int32} {b : Nat} : ∀ m i u, bset u b → bset (bksF f m i u) b := by
  intro m
  induction m with
  | zero => intro i u h; exact h
  | succ m ih => intro i u h; exact ih (i + 1) _ (bset_s (bset_s h))
theorem bks_in {f : Nat → Int32} {b x j : Nat} (h1 : 18 ≤ b) (h2 : b < 48) (hj : j < 2) (he : f (16 + 4 * x + (2 + j)) = nI b) : ∀ m i u, i ≤ x → x < i + m → bset (bksF f m i u) b := by
  intro m
  induction m with
  | zero => intro i u h3 h4; omega
  | succ m ih =>
    intro i u h3 h4
    by_cases c : i = x
    · subst c
      show bset (bksF f m (i + 1) (bkS (f (16 + 4 * i + 3)) (bkS (f (16 + 4 * i + 2)) u))) b
      have hj2 : j = 0 ∨ j = 1 := by omega
      rcases hj2 with rfl | rfl
      · refine bks_keep m _ _ (bset_s ?_)
        have e : f (16 + 4 * i + 2) = nI b := he
        rw [e]
        exact bset_n h1 h2
      · refine bks_keep m _ _ ?_
        have e : f (16 + 4 * i + 3) = nI b := he
        rw [e]
        exact bset_n h1 h2
    · exact ih (i + 1) _ (by omega) (by omega)
theorem xor_0 {x y : Int32} (h : cntF (ib (x ^^^ y)) 32 0 0 = 0) : x = y := by
  refine ib_ext fun i hi => ?_
  have := (cnt_0 32 0 0 h).2 i (by omega) (by omega)
  rw [ib_xor] at this
  cases hx : ib x i <;> cases hy : ib y i <;> simp_all
theorem ino_b {f : Nat → Int32} {x : Nat} (hx : x < 32) : ∀ m i u, i + m ≤ 32 → ib (inoF f m i u) x = (ib u x || (decide (i ≤ x ∧ x < i + m) && !decide (f (16 + 4 * x) = nI 0))) := by
  intro m
  induction m with
  | zero =>
    intro i u _
    have e : decide (i ≤ x ∧ x < i + 0) = false := decide_eq_false (by omega)
    rw [e]
    simp [inoF]
  | succ m ih =>
    intro i u hi
    rw [inoF_s, ih (i + 1) _ (by omega)]
    by_cases c : f (16 + 4 * i) = nI 0
    · rw [if_pos c]
      by_cases q : x = i
      · subst q
        rw [decide_eq_false (by omega), decide_eq_true c]
        simp
      · have e : decide (i + 1 ≤ x ∧ x < i + 1 + m) = decide (i ≤ x ∧ x < i + (m + 1)) := decide_eq_decide.mpr (by omega)
        rw [e]
    · rw [if_neg c, ib_set (by omega)]
      by_cases q : x = i
      · subst q
        rw [decide_eq_true (show x ≤ x ∧ x < x + (m + 1) by omega), decide_eq_false c]
        simp
      · have e : decide (i + 1 ≤ x ∧ x < i + 1 + m) = decide (i ≤ x ∧ x < i + (m + 1)) := decide_eq_decide.mpr (by omega)
        rw [e, decide_eq_false q]
        simp
theorem FS_load {f : Nat → Int32} (p1 : pass1 f = 0) (p2 : pass2 f = 0) (p3 : pass3 f = 0) (p4 : pass4 f = 0) (p5 : pass5 f = 0) : FS f (yK f) (yL f) (yS f) (yN f) (yE f) := by
  obtain ⟨q1, q2⟩ := pass1_ok p1
  have hI : ∀ i, 1 ≤ i → i < 16 → yI f i := fun i h1 h2 => yI_of h1 h2 (q1 i h1 h2).1
  have h3 := (cnt_0 15 1 0 p3).2
  have h4 := (cnt_0 15 1 0 p4).2
  have hK : ∀ i, ¬ yK f i = 0 → 1 ≤ i ∧ i < 16 := fun i h => Classical.byContradiction fun c => h (yK_out c)
  have hCn : ∀ i, 1 ≤ i → i < 16 → Cn (yE f) i = heldN f i := fun i h1 h2 => Cn_h hI p2 h1 h2
  have hK1 : yK f 1 = 2 := by
    have e := (hI 1 (by omega) (by omega)).1
    rw [q2] at e
    exact ((nI_eq (by omega) (by have := (hI 1 (by omega) (by omega)).2.1; omega)).mp e).symm
  -- words
  have hL : ∀ i, 1 ≤ i → i < 16 → f (16 + 4 * i) = nI (yK f i + 16 * yL f i) := by
    intro i h1 h2
    have hi := hI i h1 h2
    by_cases c : yK f i = 0
    · have e : yL f i = 0 := if_pos c
      rw [c, e]
      exact (hi.2.2.2.2.2.2.1 c).1
    · have e : yL f i = if i = 1 then 1 else heldN f i := if_neg c
      have hw : ¬ f (16 + 4 * i) = nI 0 := fun z => by
        have k0 := (pass1_kd p1 i h1 h2).mpr z
        rw [hi.1] at k0
        exact c ((nI_eq (by have := hi.2.1; omega) (by omega)).mp k0)
      have g := h4 i (by omega) (by omega)
      unfold f4B at g
      rw [decide_eq_false hw] at g
      simp only [Bool.not_false, Bool.true_and, Bool.not_eq_false', decide_eq_true_eq] at g
      have hle : (if i = 1 then 1 else heldN f i) < 1000 := by
        split
        · omega
        · have := Cn_le (E := yE f) (i := i)
          rw [hCn i h1 h2] at this
          omega
      rw [e]
      exact word_kl hi.1 (by have := hi.2.1; omega) g hle
  -- bits
  have h5 : f 8 = (bksF f 15 1 (nI 262143, nI 0)).1 ∧ f 9 = (bksF f 15 1 (nI 262143, nI 0)).2 ∧ f 10 = inoF f 15 1 (nI 1) := by
    unfold pass5 at p5
    rw [f5_c] at p5
    exact ⟨xor_0 (by omega), xor_0 (by omega), xor_0 (by omega)⟩
  have hbit : ∀ i, 1 ≤ i → i < 16 → ib (f 10) i = !decide (yK f i = 0) := by
    intro i h1 h2
    have hi := hI i h1 h2
    rw [h5.2.2, ino_b (by omega) 15 1 (nI 1) (by omega), ib_1, decide_eq_false (show ¬ i = 0 by omega), decide_eq_true (show 1 ≤ i ∧ i < 1 + 15 by omega)]
    simp only [Bool.false_or, Bool.true_and]
    congr 1
    refine decide_eq_decide.mpr ?_
    rw [← pass1_kd p1 i h1 h2, hi.1, nI_eq (by have := hi.2.1; omega) (by omega)]
  have hNw : ∀ i j, 1 ≤ i → i < 16 → j < 2 → f (16 + 4 * i + (2 + j)) = nI (yN f i j) := by
    intro i j h1 h2 hj
    have hi := hI i h1 h2
    have hj2 : j = 0 ∨ j = 1 := by omega
    rcases hj2 with rfl | rfl
    · exact hi.2.2.2.2.1
    · exact hi.2.2.2.2.2.1
  have hNb : ∀ i j, ¬ yN f i j = 0 → (1 ≤ i ∧ i < 16) ∧ j < 2 ∧ 18 ≤ yN f i j ∧ yN f i j < 48 := by
    intro i j h
    obtain ⟨g1, g2⟩ := yN_out h
    have hi := (hI i g1.1 g1.2).2.2.2.2.2.2.2.1 j g2 h
    exact ⟨g1, g2, hi.1, hi.2.1⟩
  have htk : ∀ i j, ¬ yN f i j = 0 → tkB f (yN f i j) = true := by
    intro i j h
    obtain ⟨g1, g2, g3, g4⟩ := hNb i j h
    have hb := bks_in g3 g4 g2 (hNw i j g1.1 g1.2 g2) 15 1 (nI 262143, nI 0) (by omega) (by omega)
    unfold tkB
    by_cases c : yN f i j < 32
    · have e1 : 8 + yN f i j / 32 = 8 := by omega
      have e2 : yN f i j % 32 = yN f i j := by omega
      rw [e1, e2, h5.1]
      exact hb.1 c
    · have e1 : 8 + yN f i j / 32 = 9 := by omega
      have e2 : yN f i j % 32 = yN f i j - 32 := by omega
      rw [e1, e2, h5.2.1]
      exact hb.2 (by omega)
  -- numbers are not repeated
  have hrep : ∀ i j i' j', ¬ yN f i j = 0 → yN f i' j' = yN f i j → (i' < i ∨ (i' = i ∧ j' < j)) → False := by
    intro i j i' j' h he hlt
    obtain ⟨g1, g2, g3, g4⟩ := hNb i j h
    obtain ⟨k1, k2, _, _⟩ := hNb i' j' (by rw [he]; exact h)
    have w1 := hNw i j g1.1 g1.2 g2
    have w2 := hNw i' j' k1.1 k1.2 k2
    have hr : repB f i (2 + j) = false := by
      have hj2 : j = 0 ∨ j = 1 := by omega
      rcases hj2 with rfl | rfl
      · exact (q1 i g1.1 g1.2).2.1
      · exact (q1 i g1.1 g1.2).2.2
    unfold repB at hr
    have n0 : ¬ f (16 + 4 * i + (2 + j)) = nI 0 := by
      rw [w1]
      exact fun z => h ((nI_eq (by omega) (by omega)).mp z)
    rw [decide_eq_false n0] at hr
    simp only [Bool.not_false, Bool.true_and] at hr
    have := (bfF_iff (f := f) (i := i) (k := 2 + j) i 1).mpr ⟨i', 2 + j', by omega, by omega, by omega, by omega, by omega, by rw [w1, w2, he]⟩
    rw [hr] at this
    cases this
  refine ⟨⟨⟨fun i h1 h2 => ⟨hL i h1 h2, (hI i h1 h2).2.2.1, (hI i h1 h2).2.2.2.2.1, (hI i h1 h2).2.2.2.2.2.1⟩, hbit, htk⟩, ?_, ⟨hK, ?_, ?_, ?_, ?_, ?_⟩, ⟨?_, ?_, ?_⟩⟩, ⟨?_, hK1, ?_, ?_⟩, ?_⟩
  · intro d k hd hk
    have hd2 := hK d (by omega)
    have hi := hI d hd2.1 hd2.2
    have hs := hi.2.2.2.1
    have e := (yE_of hI p2 hd hk).1
    unfold itm at e
    have hlt : yN f d (k / 8) < 2 ^ 31 := by
      by_cases c : yN f d (k / 8) = 0
      · omega
      · have := (hNb d (k / 8) c).2.2.2
        omega
    rw [hNw d (k / 8) hd2.1 hd2.2 (by omega), nI_clamp hlt] at e
    exact e
  · intro i
    by_cases c : 1 ≤ i ∧ i < 16
    · exact ⟨(hI i c.1 c.2).2.1, (hI i c.1 c.2).2.2.2.1⟩
    · refine ⟨by rw [yK_out c]; omega, ?_⟩
      have : yS f i = 0 := if_neg c
      omega
  · intro i h0
    refine ⟨if_pos h0, ?_⟩
    by_cases c : 1 ≤ i ∧ i < 16
    · exact ((hI i c.1 c.2).2.2.2.2.2.2.1 h0).2.1
    · exact if_neg c
  · intro i j h
    obtain ⟨g1, g2, g3, g4⟩ := hNb i j h
    refine ⟨fun z => ?_, g2, g3, g4⟩
    have := (hI i g1.1 g1.2).2.2.2.2.2.2.1 z
    have hj2 : j = 0 ∨ j = 1 := by omega
    rcases hj2 with rfl | rfl
    · exact h this.2.2.1
    · exact h this.2.2.2
  · intro i j i' j' h he
    have h' : ¬ yN f i' j' = 0 := by rw [← he]; exact h
    by_cases c : i = i' ∧ j = j'
    · exact c
    · exfalso
      have tri : (i' < i ∨ (i' = i ∧ j' < j)) ∨ (i < i' ∨ (i = i' ∧ j < j')) := by omega
      rcases tri with t | t
      · exact hrep i j i' j' h he.symm t
      · exact hrep i' j' i j h' he t
  · intro i h
    have hd2 := hK i (by omega)
    exact (hI i hd2.1 hd2.2).2.2.2.2.2.2.2.2 h
  · intro d k h
    exact Classical.byContradiction fun c => h (if_neg c)
  · intro d k h
    have hk : yK f d = 2 ∧ k < yS f d := Classical.byContradiction fun c => h (if_neg c)
    obtain ⟨g1, g2, g3, g4, g5⟩ := (yE_of hI p2 hk.1 hk.2).2 h
    exact ⟨g1, g2, g5⟩
  · intro d k l h he
    have hk : yK f d = 2 ∧ k < yS f d := Classical.byContradiction fun c => h (if_neg c)
    obtain ⟨g1, g2, g3, g4, g5⟩ := (yE_of hI p2 hk.1 hk.2).2 h
    have hl : ¬ yE f d l = 0 := fun z => by
      rw [z] at he
      omega
    by_cases c : k = l
    · exact c
    · exfalso
      have tri : l < k ∨ k < l := by omega
      rcases tri with t | t
      · exact yE_nm hI p2 t h hl he
      · exact yE_nm hI p2 t hl h he.symm
  · intro i h
    have hd2 := hK i h
    have e : yL f i = if i = 1 then 1 else heldN f i := if_neg h
    rw [e, hCn i hd2.1 hd2.2]
  · have g := h3 1 (by omega) (by omega)
    have e : f3B f 1 = decide (0 < heldN f 1) := if_pos rfl
    rw [e, decide_eq_false_iff_not] at g
    rw [hCn 1 (by omega) (by omega)]
    omega
  · intro i h h1
    have hd2 := hK i (by omega)
    have g := h3 i (by omega) (by omega)
    have e : f3B f i = (isD f i && (!decide (heldN f i = 1) || !fromR f i)) := if_neg h1
    have hD : isD f i = true := decide_eq_true (by rw [(hI i hd2.1 hd2.2).1, h])
    rw [e, hD] at g
    simp only [Bool.true_and, Bool.or_eq_false_iff, Bool.not_eq_false', decide_eq_true_eq] at g
    rw [hCn i hd2.1 hd2.2]
    exact g.1
  · intro i h
    have hd2 := hK i (by omega)
    by_cases h1 : i = 1
    · exact ⟨0, h1⟩
    · have g := h3 i (by omega) (by omega)
      have e : f3B f i = (isD f i && (!decide (heldN f i = 1) || !fromR f i)) := if_neg h1
      have hD : isD f i = true := decide_eq_true (by rw [(hI i hd2.1 hd2.2).1, h])
      rw [e, hD] at g
      simp only [Bool.true_and, Bool.or_eq_false_iff, Bool.not_eq_false', decide_eq_true_eq] at g
      have hf : frF f 16 i = 1 := of_decide_eq_true g.2
      exact ⟨16, rch_f hI p2 16 i (by omega) hf⟩
