/-! CUTTING A FILE -/
theorem zap_mem {b n j : Nat} : ∀ m k (f g : Nat → Int32) q, (zapF b n j m k (f, g)).1 q = if 8 * b + k ≤ q ∧ q < 8 * b + k + m ∧ n ≤ 8 * j + (q - 8 * b) then nI 0 else f q := by
  intro m
  induction m with
  | zero => intro k f g q; rw [if_neg (by omega)]; rfl
  | succ m ih =>
    intro k f g q
    rw [zapF_s]
    by_cases c : n ≤ 8 * j + k ∧ ¬ f (8 * b + k) = nI 0
    · rw [if_pos c, ih]
      by_cases e : q = 8 * b + k
      · subst e
        rw [if_neg (by omega), pk_us, if_pos (by omega)]
      · rw [pk_un e]
        by_cases z : 8 * b + (k + 1) ≤ q ∧ q < 8 * b + (k + 1) + m ∧ n ≤ 8 * j + (q - 8 * b)
        · rw [if_pos z, if_pos (by omega)]
        · rw [if_neg z, if_neg (by omega)]
    · rw [if_neg c, ih]
      by_cases e : q = 8 * b + k
      · subst e
        rw [if_neg (by omega)]
        by_cases z : n ≤ 8 * j + k
        · have : f (8 * b + k) = nI 0 := by
            by_cases y : f (8 * b + k) = nI 0
            · exact y
            · exact absurd ⟨z, y⟩ c
          rw [if_pos (by omega), this]
        · rw [if_neg (by omega)]
      · by_cases z : 8 * b + (k + 1) ≤ q ∧ q < 8 * b + (k + 1) + m ∧ n ≤ 8 * j + (q - 8 * b)
        · rw [if_pos z, if_pos (by omega)]
        · rw [if_neg z, if_neg (by omega)]
/-- an int that becomes 0 is there -/
def zapP (b n j : Nat) (f : Nat → Int32) : Nat → Nat → Bool
  | 0, _ => false
  | m + 1, k => (decide (n ≤ 8 * j + k) && !decide (f (8 * b + k) = nI 0)) || zapP b n j f m (k + 1)
theorem zapP_congr {b n j : Nat} {f g : Nat → Int32} : ∀ m k, (∀ q, 8 * b + k ≤ q → q < 8 * b + k + m → f q = g q) → zapP b n j f m k = zapP b n j g m k := by
  intro m
  induction m with
  | zero => intro k _; rfl
  | succ m ih =>
    intro k h
    show (_ || zapP b n j f m (k + 1)) = (_ || zapP b n j g m (k + 1))
    rw [h _ (by omega) (by omega), ih (k + 1) (fun q h1 h2 => h q (by omega) (by omega))]
theorem zap_loo {b n j : Nat} : ∀ m k (f g : Nat → Int32) c, mb (zapF b n j m k (f, g)).2 c = (mb g c || (decide (c = b) && zapP b n j f m k)) := by
  intro m
  induction m with
  | zero => intro k f g c; show mb g c = (mb g c || (decide (c = b) && false)); simp
  | succ m ih =>
    intro k f g c
    rw [zapF_s]
    show _ = (mb g c || (decide (c = b) && ((decide (n ≤ 8 * j + k) && !decide (f (8 * b + k) = nI 0)) || zapP b n j f m (k + 1))))
    by_cases z : n ≤ 8 * j + k ∧ ¬ f (8 * b + k) = nI 0
    · rw [if_pos z, ih, mb_1, zapP_congr (f := upd f (8 * b + k) (nI 0)) (g := f) m (k + 1) (fun q h1 h2 => pk_un (by omega)), decide_eq_true z.1, decide_eq_false z.2]
      cases decide (c = b) <;> cases mb g c <;> simp
    · rw [if_neg z, ih]
      have : (decide (n ≤ 8 * j + k) && !decide (f (8 * b + k) = nI 0)) = false := by
        by_cases y : n ≤ 8 * j + k
        · by_cases y2 : f (8 * b + k) = nI 0
          · simp [y2]
          · exact absurd ⟨y, y2⟩ z
        · simp [y]
      rw [this, Bool.false_or]
theorem zap_skip {b n j : Nat} : ∀ m k (u : (Nat → Int32) × (Nat → Int32)), 8 * j + k + m ≤ n → zapF b n j m k u = u := by
  intro m
  induction m with
  | zero => intro k u _; rfl
  | succ m ih =>
    intro k u h
    rw [zapF_s, if_neg (by omega)]
    exact ih (k + 1) u (by omega)
theorem zap_add {b n j : Nat} : ∀ m m' k (u : (Nat → Int32) × (Nat → Int32)), zapF b n j (m + m') k u = zapF b n j m' (k + m) (zapF b n j m k u) := by
  intro m
  induction m with
  | zero => intro m' k u; rw [Nat.zero_add]; rfl
  | succ m ih =>
    intro m' k u
    rw [show m + 1 + m' = (m + m') + 1 by omega, zapF_s, zapF_s]
    by_cases z : n ≤ 8 * j + k ∧ ¬ u.1 (8 * b + k) = nI 0
    · rw [if_pos z, if_pos z, ih, show k + 1 + m = k + (m + 1) by omega]
    · rw [if_neg z, if_neg z, ih, show k + 1 + m = k + (m + 1) by omega]
theorem zpC_add {c0 c1 : Nat} : ∀ m m' k (u : (Nat → Int32) × Int64), zpC c0 c1 (m + m') k u = zpC c0 c1 m' (k + m) (zpC c0 c1 m k u) := by
  intro m
  induction m with
  | zero => intro m' k u; rw [Nat.zero_add]; rfl
  | succ m ih =>
    intro m' k u
    rw [show m + 1 + m' = (m + m') + 1 by omega, zpC_s, zpC_s]
    by_cases z : ¬ (if k < 8 then c0 else c1) = 0 ∧ ¬ u.1 (8 * (if k < 8 then c0 else c1) + k % 8) = nI 0
    · rw [if_pos z, if_pos z, ih, show k + 1 + m = k + (m + 1) by omega]
    · rw [if_neg z, if_neg z, ih, show k + 1 + m = k + (m + 1) by omega]
theorem zpC_no {c0 c1 : Nat} : ∀ m k (u : (Nat → Int32) × Int64), (∀ x, k ≤ x → x < k + m → (if x < 8 then c0 else c1) = 0) → zpC c0 c1 m k u = u := by
  intro m
  induction m with
  | zero => intro k u _; rfl
  | succ m ih =>
    intro k u h
    rw [zpC_s, if_neg (fun z => z.1 (h k (by omega) (by omega)))]
    exact ih (k + 1) u (fun x h1 h2 => h x (by omega) (by omega))
/-- both make the same ints 0: of the first block -/
theorem zap_1 {b c1 n : Nat} (hb : 18 ≤ b) (hb2 : b < 48) : ∀ m k (f : Nat → Int32) (l : Int64) (g : Nat → Int32), k + m = 8 → n ≤ k → setR l g → (zpC b c1 m k (f, l)).1 = (zapF b n 0 m k (f, g)).1 ∧ setR (zpC b c1 m k (f, l)).2 (zapF b n 0 m k (f, g)).2 := by
  intro m
  induction m with
  | zero => intro k f l g _ _ h; exact ⟨rfl, h⟩
  | succ m ih =>
    intro k f l g hk hn h
    rw [zpC_s, zapF_s, if_pos (by omega : k < 8), show k % 8 = k by omega]
    by_cases z : f (8 * b + k) = nI 0
    · rw [if_neg (fun y => y.2 z), if_neg (fun y => y.2 z)]
      exact ih (k + 1) f l g (by omega) (by omega) h
    · rw [if_pos ⟨by omega, z⟩, if_pos ⟨by omega, z⟩]
      exact ih (k + 1) _ _ _ (by omega) (by omega) (set_set h hb2)
/-- of the second block -/
theorem zap_2 {b c0 n : Nat} (hb : 18 ≤ b) (hb2 : b < 48) : ∀ m k (f : Nat → Int32) (l : Int64) (g : Nat → Int32), k + m = 8 → n ≤ 8 + k → setR l g → (zpC c0 b m (8 + k) (f, l)).1 = (zapF b n 1 m k (f, g)).1 ∧ setR (zpC c0 b m (8 + k) (f, l)).2 (zapF b n 1 m k (f, g)).2 := by
  intro m
  induction m with
  | zero => intro k f l g _ _ h; exact ⟨rfl, h⟩
  | succ m ih =>
    intro k f l g hk hn h
    rw [zpC_s, zapF_s, if_neg (by omega : ¬ 8 + k < 8), show (8 + k) % 8 = k by omega]
    by_cases z : f (8 * b + k) = nI 0
    · rw [if_neg (fun y => y.2 z), if_neg (fun y => y.2 z)]
      exact ih (k + 1) f l g (by omega) (by omega) h
    · rw [if_pos ⟨by omega, z⟩, if_pos ⟨by omega, z⟩]
      exact ih (k + 1) _ _ _ (by omega) (by omega) (set_set h hb2)
/-- the reference: ints of block b become 0; block b is released -/
def zapR (b n j : Nat) (e : rS2) : rS2 := ((zapF b n j 8 0 (e.1, e.2.2.1)).1, e.2.1, (zapF b n j 8 0 (e.1, e.2.2.1)).2, e.2.2.2)
def relR (i j b : Nat) (e : rS2) : rS2 := rFBlk i j 0 (rRel b false e)
theorem zapR_SI {b n j : Nat} {e : rS2} (h : SI e) (hb : 18 ≤ b) : SI (zapR b n j e) := by
  obtain ⟨h1, h2, h3, h4⟩ := h
  refine ⟨h1, fun c hc hm => ?_, h3, h4⟩
  have hm2 : mb (zapF b n j 8 0 (e.1, e.2.2.1)).2 c = true := hm
  rw [zap_loo] at hm2
  by_cases z : c = b
  · omega
  · simp [z] at hm2
    exact h2 c hc hm2
theorem zapR_Sx {b n j i : Nat} {e : rS2} {K L S : Nat → Nat} {N E : Nat → Nat → Nat} (hx : Sx e.1 K L S N E) (ci : K i = 1) {j' : Nat} (hb : N i j' = b) (hb0 : ¬ b = 0) : Sx (zapR b n j e).1 K L S N E := by
  have hc := hx.2.2.1
  obtain ⟨-, -, b1, b2⟩ := hc.2.2.2.1 i j' (by omega)
  refine Sx_blk (b := b) hx (by omega) (fun d' y hd' he => ?_) (fun q hq => ?_)
  · have := (hc.2.2.2.2.1 d' y i j' (by omega) (by omega)).1
    rw [this] at hd'
    omega
  · show (zapF b n j 8 0 (e.1, e.2.2.1)).1 q = _
    rw [zap_mem, if_neg (by omega)]
theorem relR_all {i j b : Nat} {d : cS4} {e : rS2} {K L S : Nat → Nat} {N E : Nat → Nat → Nat} (hm : MR d e) (hsi : SI e) (hx : Sx e.1 K L S N E) (ci : K i = 1) (hj : j < 2) (hb : N i j = b) (hb0 : ¬ b = 0) : MR (frC (16 + 4 * i + (2 + j)) b d) (relR i j b e) ∧ SI (relR i j b e) ∧ Sx (relR i j b e).1 K L S (sE N i j 0) E ∧ nCh (relR i j b e) ≤ nCh e + 2 := by
  have hc := hx.2.2.1
  have hi := hc.1 i (by omega)
  obtain ⟨-, -, b1, b2⟩ := hc.2.2.2.1 i j (by omega)
  rw [hb] at b1 b2
  have hn := r_num hx hi.1 hi.2 hj
  rw [hb] at hn
  have htk := hx.1.2.2 i j (by omega)
  rw [hb] at htk
  have h11 : mb (relR i j b e).2.1 1 = true := by
    show mb (upd (upd (upd e.2.1 1 (nI 1)) b (nI 0)) (2 + i / 2) (nI 1)) 1 = true
    rw [mb_1, mb_z, mb_1]
    simp
    omega
  refine ⟨?_, ⟨fun c hc' hm' => ?_, fun c hc' hm' => ?_, fun _ _ _ => h11, fun _ => h11⟩, ?_, ?_⟩
  · refine MR_congr (MR_fr (a := 16 + 4 * i + (2 + j)) hm (by omega) (by omega) b1 b2 hn htk) rfl (fun c _ => ?_) (fun _ _ => rfl) (fun _ _ => rfl) rfl
    show mb (upd (upd (upd e.2.1 1 (nI 1)) b (nI 0)) (2 + i / 2) (nI 1)) c = mb (upd (upd (upd e.2.1 1 (nI 1)) ((16 + 4 * i + (2 + j)) / 8) (nI 1)) b (nI 0)) c
    rw [show (16 + 4 * i + (2 + j)) / 8 = 2 + i / 2 by omega, mb_1, mb_z, mb_z, mb_1 (a := 2 + i / 2)]
    by_cases z : c = 2 + i / 2
    · have : ¬ c = b := by omega
      simp [z]
      omega
    · simp [z]
  · have hm2 : mb (upd (upd (upd e.2.1 1 (nI 1)) b (nI 0)) (2 + i / 2) (nI 1)) c = true := hm'
    rw [mb_1, mb_z, mb_1] at hm2
    by_cases z : c = 2 + i / 2
    · omega
    · by_cases z2 : c = 1
      · omega
      · simp [z, z2] at hm2
        exact hsi.1 c hc' hm2.2
  · have hm2 : mb (upd e.2.2.1 b (nI 0)) c = true := hm'
    rw [mb_z] at hm2
    simp at hm2
    exact hsi.2.1 c hc' hm2.2
  · refine Sx_rel hx ci hj (by omega) pk_us (fun q hq => ?_)
    show upd (frM e.1 b) (16 + 4 * i + (2 + j)) (nI 0) q = frM e.1 (N i j) q
    rw [pk_un hq, hb]
  · have g1 := cnt_1le (g := e.2.1) (a := 1)
    have g2 := cnt_0le (g := upd e.2.1 1 (nI 1)) (a := b)
    have g3 := cnt_1le (g := upd (upd e.2.1 1 (nI 1)) b (nI 0)) (a := 2 + i / 2)
    show cntF (mb (upd (upd (upd e.2.1 1 (nI 1)) b (nI 0)) (2 + i / 2) (nI 1))) 48 0 0 ≤ cntF (mb e.2.1) 48 0 0 + 2
    omega
/-- zeroing and releasing, in either order -/
theorem zap_rel {d : cS4} {e : rS2} {i b0 b1 n : Nat} (h : MR d (zapR b0 n 0 (relR i 1 b1 e))) (hi : i < 16) (hb0 : 18 ≤ b0) (hb1 : 18 ≤ b1) (hb2 : b1 < 48) (hne : ¬ b0 = b1) : MR d (relR i 1 b1 (zapR b0 n 0 e)) := by
  have hmem : (relR i 1 b1 e).1 = upd (frM e.1 b1) (16 + 4 * i + (2 + 1)) (nI 0) := rfl
  refine MR_congr h ?_ (fun _ _ => rfl) (fun c _ => ?_) (fun _ _ => rfl) rfl
  · funext q
    show upd (frM (zapF b0 n 0 8 0 (e.1, e.2.2.1)).1 b1) (16 + 4 * i + (2 + 1)) (nI 0) q = (zapF b0 n 0 8 0 ((relR i 1 b1 e).1, (relR i 1 b1 e).2.2.1)).1 q
    rw [zap_mem, hmem]
    by_cases z : q = 16 + 4 * i + (2 + 1)
    · rw [z, pk_us, if_neg (by omega), pk_us]
    · rw [pk_un z, pk_un z]
      unfold frM
      by_cases z2 : q = 8 + b1 / 32
      · rw [z2, pk_us, pk_us, if_neg (by omega), zap_mem, if_neg (by omega)]
      · rw [pk_un z2, pk_un z2, zap_mem]
  · show mb (upd (zapF b0 n 0 8 0 (e.1, e.2.2.1)).2 b1 (nI 0)) c = mb (zapF b0 n 0 8 0 ((relR i 1 b1 e).1, upd e.2.2.1 b1 (nI 0))).2 c
    rw [mb_z, zap_loo, zap_loo, mb_z, zapP_congr (f := (relR i 1 b1 e).1) (g := e.1) 8 0 (fun q h1 h2 => by
      rw [hmem, pk_un (by omega)]
      exact frM_o hb2 (by omega))]
    by_cases z : c = b1
    · have : ¬ c = b0 := by omega
      simp [z]
      intro y
      omega
    · simp [z]
