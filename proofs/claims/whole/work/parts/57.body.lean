/-! THE CALLS OF FILES, IN CLASS AND REFERENCE: behind their beginnings -/
def GI (d : cS4) (e : rS2) : Prop := MR d e ∧ SI e ∧ ∃ K L S N E, FS e.1 K L S N E
/-- how the class's call ends: t is 0, or one more than the exception's number -/
def cOut (t : Nat) (v : Option Value) (M : pMem) (nx : Nat) (ok : Bool) : pRes := if t = 0 then (.inl v, M, nx, ok, 0, 0) else (.inr (t - 1), M, nx, false, 1, 6)
theorem cOut_0 {v : Option Value} {M : pMem} {nx : Nat} {ok : Bool} : cOut 0 v M nx ok = (.inl v, M, nx, ok, 0, 0) := rfl
theorem cOut_t {t : Nat} {v : Option Value} {M : pMem} {nx : Nat} {ok : Bool} : cOut (t + 1) v M nx ok = (.inr t, M, nx, false, 1, 6) := rfl
def cRun (m pc : Nat) (A : List Value) (d1 : cS1) (d4 : cS4) (d6 : cS6) (t : Nat) (v : Option Value) (d4' : cS4) : Prop := ∀ (X : pScr) (nx : Nat) (ok : Bool) (Q : pRes → Prop) (d9 : cS9) (R : pMem), (pW X m pc A [] (cSW d1 d4 d6 d9 R) nx ok Q ↔ Q (cOut t v (cSW d1 d4' d6 d9 R) nx ok))
def rRun (m pc : Nat) (A : List Value) (e1 : rS1) (e2 : rS2) (e3 : rS3) (t : Nat) (v : Option Value) (e2' : rS2) : Prop := ∀ (X : pScr) (nx : Nat) (ok : Bool) (Q : pRes → Prop) (e4 : rS4) (R : pMem), (pW X m pc A [] (rSW e1 e2 e3 e4 R) nx ok Q ↔ Q (.inl v, rSW e1 e2' e3 (e4.1, e4.2.1, nI t) R, nx, ok, 0, 0))
/-- what a method gives back -/
def vT (k : Nat) (v : Option Value) : Prop := if pR k = none then v = none else ∃ x, v = some (.int x)
theorem vT_n {k : Nat} (h : pR k = none) : vT k none := by
  unfold vT
  rw [if_pos h]
theorem vT_v {k : Nat} {x : Int32} (h : ¬ pR k = none) : vT k (some (.int x)) := by
  unfold vT
  rw [if_neg h]
  exact ⟨x, rfl⟩
def BodyR (cm cpc : Nat) (cA : List Value) (rm rpc : Nat) (rA : List Value) (d4 : cS4) (e2 : rS2) : Prop := ∃ t v v' d4' e2', t < 6 ∧ (∀ d1 d6, cRun cm cpc cA d1 d4 d6 t v d4') ∧ (∀ e1 e3, rRun rm rpc rA e1 e2 e3 t v' e2') ∧ ((t = 0 → v' = v ∧ vT cm v) ∧ vT rm v') ∧ GI d4' e2' ∧ nCh e2' ≤ nCh e2 + 5
def BodyS (cm cpc : Nat) (cA : List Value) (rm rpc : Nat) (rA : List Value) (d4 : cS4) (e2 : rS2) : Prop := ∃ t v v', t < 5 ∧ (∀ d1 d6, cRun cm cpc cA d1 d4 d6 t v d4) ∧ (∀ e1 e3, rRun rm rpc rA e1 e2 e3 t v' e2) ∧ ((t = 0 → v' = v ∧ vT cm v) ∧ vT rm v')
theorem K_cases {K L S : Nat → Nat} {N : Nat → Nat → Nat} (hc : Sc K L S N) (i : Nat) : K i = 0 ∨ K i = 1 ∨ K i = 2 := by
  have := (hc.2.1 i).1
  omega
theorem unf_0 {f : Nat → Int32} {K L S : Nat → Nat} {N E : Nat → Nat → Nat} (h : Sx f K L S N E) (hL : ∀ i, L i ≤ 240) {i : Nat} (h1 : 1 ≤ i) (h2 : i < 16) : unfN f i = if K i = 0 then 3 else if K i = 2 then 4 else 0 := by
  unfold unfN
  simp only [r_kd0 h hL h1 h2 (show 0 < 16 by omega), r_kd0 h hL h1 h2 (show 2 < 16 by omega)]
theorem abs_0 {f : Nat → Int32} {K L S : Nat → Nat} {N E : Nat → Nat → Nat} (h : Sx f K L S N E) (hL : ∀ i, L i ≤ 240) {d n : Nat} (h1 : 1 ≤ d) (h2 : d < 16) (hn : n < 32) : absN f d (S d) (nI n) = if K d = 0 then 3 else if K d = 1 then 4 else if fndF (nmN E d n) (S d) 0 = none then 3 else 0 := by
  unfold absN
  simp only [r_kd0 h hL h1 h2 (show 0 < 16 by omega), r_kd0 h hL h1 h2 (show 1 < 16 by omega)]
  rcases K_cases h.2.2.1 d with c | c | c
  · rw [if_pos c, if_pos c]
  · simp [c]
  · rw [r_mtch h c hn]
theorem unr_0 {f : Nat → Int32} {K L S : Nat → Nat} {N E : Nat → Nat → Nat} (h : Sx f K L S N E) (hL : ∀ i, L i ≤ 240) {d n : Nat} (h1 : 1 ≤ d) (h2 : d < 16) (hn : n < 32) : unrN f d (S d) (nI n) = if K d = 0 then 3 else if K d = 1 then 4 else if fndF (nmN E d n) (S d) 0 = none then 0 else 4 := by
  unfold unrN
  simp only [r_kd0 h hL h1 h2 (show 0 < 16 by omega), r_kd0 h hL h1 h2 (show 1 < 16 by omega)]
  rcases K_cases h.2.2.1 d with c | c | c
  · rw [if_pos c, if_pos c]
  · simp [c]
  · rw [r_mtch h c hn]
theorem B_read {d4 : cS4} {e2 : rS2} {i k : Nat} (h : GI d4 e2) (h1 : 1 ≤ i) (h2 : i < 16) (hk : k < 16) : BodyS 14 15 [.ref 0, .int (nI i), .int (nI k)] 151 37 [.ref 13, .int (nI i), .int (nI k), pDum] d4 e2 := by
  have hg := h
  obtain ⟨hm, hsi, K, L, S, N, E, hx, h3, h4⟩ := h
  have hL := F3_L hx.2.2.1 h3
  have hfn := r_fNum hx h1 h2
  have hI := hm.1
  have hu := unf_0 hx hL h1 h2
  have hfr := r_frK hx hL h1 h2
  have hc : ∀ (d1 : cS1) (d6 : cS6) (X : pScr) (nx : Nat) (ok : Bool) (Q : pRes → Prop) (d9 : cS9) (R : pMem), _ := fun d1 d6 X nx ok Q d9 R => q_fread (X := X) (nx := nx) (ok := ok) (Q := Q) (d1 := d1) (d4 := d4) (d6 := d6) (d9 := d9) (R := R) (s := S i) h2 hk (fun _ _ => by rw [hI]; exact hfn)
  have hr : ∀ (e1 : rS1) (e3 : rS3) (X : pScr) (nx : Nat) (ok : Bool) (Q : pRes → Prop) (e4 : rS4) (R : pMem), _ := fun e1 e3 X nx ok Q e4 R => q_bread (X := X) (nx := nx) (ok := ok) (Q := Q) (e1 := e1) (e2 := e2) (e3 := e3) (e4 := e4) (R := R) (s := S i) hk h2 (fun _ => hfn)
  rcases K_cases hx.2.2.1 i with c | c | c
  · refine ⟨3, none, some (.int (nI 0)), by omega, fun d1 d6 X nx ok Q d9 R => ?_, fun e1 e3 X nx ok Q e4 R => ?_, ⟨fun z => by omega, vT_v (by decide +kernel)⟩⟩
    · rw [hc, hI, hfr, if_pos (by simp [c])]
      exact Iff.rfl
    · rw [hr, hu, if_pos c, if_neg (show ¬ 3 = 0 by omega)]
  · have hkd := (r_kd0 hx hL h1 h2 (show 1 < 16 by omega)).mpr c
    by_cases q : k < S i
    · refine ⟨0, some (.int (gI e2.1 i k)), _, by omega, fun d1 d6 X nx ok Q d9 R => ?_, fun e1 e3 X nx ok Q e4 R => ?_, ⟨fun _ => ⟨rfl, vT_v (by decide +kernel)⟩, vT_v (by decide +kernel)⟩⟩
      · rw [hc, hI, hfr, if_neg (by simp [c]), if_pos hkd, if_pos q]
        exact Iff.rfl
      · rw [hr, hu, if_neg (show ¬ K i = 0 by omega), if_neg (show ¬ K i = 2 by omega), if_pos rfl, if_pos q]
        exact Iff.rfl
    · refine ⟨3, none, some (.int (nI 0)), by omega, fun d1 d6 X nx ok Q d9 R => ?_, fun e1 e3 X nx ok Q e4 R => ?_, ⟨fun z => by omega, vT_v (by decide +kernel)⟩⟩
      · rw [hc, hI, hfr, if_neg (by simp [c]), if_pos hkd, if_neg q]
        exact Iff.rfl
      · rw [hr, hu, if_neg (show ¬ K i = 0 by omega), if_neg (show ¬ K i = 2 by omega), if_pos rfl, if_neg q]
  · refine ⟨4, none, some (.int (nI 0)), by omega, fun d1 d6 X nx ok Q d9 R => ?_, fun e1 e3 X nx ok Q e4 R => ?_, ⟨fun z => by omega, vT_v (by decide +kernel)⟩⟩
    · rw [hc, hI, hfr, if_neg (by simp [c]), if_neg (fun z => by have := (r_kd0 hx hL h1 h2 (show 1 < 16 by omega)).mp z; omega)]
      exact Iff.rfl
    · rw [hr, hu, if_neg (show ¬ K i = 0 by omega), if_pos c, if_neg (show ¬ 4 = 0 by omega)]
theorem B_look {d4 : cS4} {e2 : rS2} {d n : Nat} (h : GI d4 e2) (h1 : 1 ≤ d) (h2 : d < 16) (hn : n < 32) : BodyS 15 12 [.ref 0, .int (nI d), .int (nI n)] 152 37 [.ref 13, .int (nI d), .int (nI n)] d4 e2 := by
  have hg := h
  obtain ⟨hm, hsi, K, L, S, N, E, hx, h3, h4⟩ := h
  have hL := F3_L hx.2.2.1 h3
  have hI := hm.1
  have hu := abs_0 hx hL h1 h2 hn
  have hfr := r_frK hx hL h1 h2
  have hD := r_isD hx hL h1 h2
  have hdn : ¬ kd e2.1 d = nI 0 → ¬ kd e2.1 d = nI 1 → K d = 2 := fun z1 z2 => by
    rcases K_cases hx.2.2.1 d with c | c | c
    · exact absurd ((r_kd0 hx hL h1 h2 (show 0 < 16 by omega)).mpr c) z1
    · exact absurd ((r_kd0 hx hL h1 h2 (show 1 < 16 by omega)).mpr c) z2
    · exact c
  have hc : ∀ (d1 : cS1) (d6 : cS6) (X : pScr) (nx : Nat) (ok : Bool) (Q : pRes → Prop) (d9 : cS9) (R : pMem), _ := fun d1 d6 X nx ok Q d9 R => q_flook (X := X) (nx := nx) (ok := ok) (Q := Q) (d1 := d1) (d4 := d4) (d6 := d6) (d9 := d9) (R := R) (s := S d) (n := nI n) h2 (fun z => by rw [hI] at z ⊢; exact r_dNum hx (hD.mp z))
  have hr : ∀ (e1 : rS1) (e3 : rS3) (X : pScr) (nx : Nat) (ok : Bool) (Q : pRes → Prop) (e4 : rS4) (R : pMem), _ := fun e1 e3 X nx ok Q e4 R => q_blook (X := X) (nx := nx) (ok := ok) (Q := Q) (e1 := e1) (e2 := e2) (e3 := e3) (e4 := e4) (R := R) (s := S d) (n := nI n) h2 (fun z1 z2 => r_dNum hx (hdn z1 z2)) (fun k hk z1 z2 => by
    have hk2 := hdn z1 z2
    obtain ⟨_, q, _⟩ := fndF_some (S d) 0 k hk
    exact ⟨E d k, by have := E_lt hx.2.2.1 hx.2.2.2 d k; omega, r_itm hx hk2 (by omega)⟩)
  rcases K_cases hx.2.2.1 d with c | c | c
  · refine ⟨3, none, some (.int (nI 0)), by omega, fun d1 d6 X nx ok Q d9 R => ?_, fun e1 e3 X nx ok Q e4 R => ?_, ⟨fun z => by omega, vT_v (by decide +kernel)⟩⟩
    · rw [hc, hI, hfr, if_pos (by simp [c])]
      exact Iff.rfl
    · rw [hr, hu, if_pos c, if_neg (show ¬ 3 = 0 by omega)]
  · refine ⟨4, none, some (.int (nI 0)), by omega, fun d1 d6 X nx ok Q d9 R => ?_, fun e1 e3 X nx ok Q e4 R => ?_, ⟨fun z => by omega, vT_v (by decide +kernel)⟩⟩
    · rw [hc, hI, hfr, if_neg (by simp [c]), if_neg (fun z => by have := hD.mp z; omega)]
      exact Iff.rfl
    · rw [hr, hu, if_neg (show ¬ K d = 0 by omega), if_pos c, if_neg (show ¬ 4 = 0 by omega)]
  · have hmt := r_mtch hx c hn
    have hnm := r_nmE hx c hn
    cases q : fndF (nmN E d n) (S d) 0 with
    | none =>
      refine ⟨3, none, some (.int (nI 0)), by omega, fun d1 d6 X nx ok Q d9 R => ?_, fun e1 e3 X nx ok Q e4 R => ?_, ⟨fun z => by omega, vT_v (by decide +kernel)⟩⟩
      · rw [hc, hI, hfr, if_neg (by simp [c]), if_pos (hD.mpr c), hnm, q]
        exact Iff.rfl
      · rw [hr, hu, if_neg (show ¬ K d = 0 by omega), if_neg (show ¬ K d = 1 by omega), if_pos q, if_neg (show ¬ 3 = 0 by omega)]
    | some k =>
      obtain ⟨_, k1, _⟩ := fndF_some (S d) 0 k q
      have hit := r_itm hx c (k := k) (by omega)
      have hE := E_lt hx.2.2.1 hx.2.2.2 d k
      refine ⟨0, some (.int (nI (E d k / 32))), _, by omega, fun d1 d6 X nx ok Q d9 R => ?_, fun e1 e3 X nx ok Q e4 R => ?_, ⟨fun _ => ⟨rfl, vT_v (by decide +kernel)⟩, vT_v (by decide +kernel)⟩⟩
      · rw [hc, hI, hfr, if_neg (by simp [c]), if_pos (hD.mpr c), hnm, q]
        show Q _ ↔ _
        rw [hit, us5_n (by omega)]
        exact Iff.rfl
      · rw [hr, hu, if_neg (show ¬ K d = 0 by omega), if_neg (show ¬ K d = 1 by omega), if_neg (show ¬ fndF (nmN E d n) (S d) 0 = none by rw [q]; simp), if_pos rfl, hmt, q]
        show Q (.inl (some (.int (nI ((itm e2.1 d k).toNatClampNeg / 32)))), rSW e1 e2 e3 (e4.1, e4.2.1, nI 0) R, nx, ok, 0, 0) ↔ _
        rw [hit, nI_clamp (by omega)]
