/-! WHAT THE IMAGE SAYS OF THE FILE SYSTEM -/
theorem F3_L {K L S : Nat → Nat} {N E : Nat → Nat → Nat} (hc : Sc K L S N) (h3 : F3 K L E) (i : Nat) : L i ≤ 240 := by
  by_cases c : K i = 0
  · have := (hc.2.2.1 i c).1
    omega
  · rw [h3.1 i c]
    have := Cn_le (E := E) (i := i)
    split <;> omega
theorem E_lt {K L S : Nat → Nat} {N E : Nat → Nat → Nat} (hc : Sc K L S N) (hd : Sd K S E) (d k : Nat) : E d k < 512 := by
  by_cases c : E d k = 0
  · omega
  · have := (hc.1 _ (hd.2.1 d k c).2.2).2
    omega
theorem r_kd {f : Nat → Int32} {K L S : Nat → Nat} {N E : Nat → Nat → Nat} (h : Sx f K L S N E) (hL : ∀ i, L i ≤ 240) {i : Nat} (h1 : 1 ≤ i) (h2 : i < 16) : kd f i = nI (K i) := by
  have hk := (h.2.2.1.2.1 i).1
  have := hL i
  unfold kd
  rw [(h.1.1 i h1 h2).1, nI_and15 (by omega)]
  congr 1
  omega
theorem r_kd0 {f : Nat → Int32} {K L S : Nat → Nat} {N E : Nat → Nat → Nat} (h : Sx f K L S N E) (hL : ∀ i, L i ≤ 240) {i c : Nat} (h1 : 1 ≤ i) (h2 : i < 16) (hc : c < 16) : (kd f i = nI c) ↔ K i = c := by
  have hk := (h.2.2.1.2.1 i).1
  rw [r_kd h hL h1 h2]
  exact nI_eq (by omega) (by omega)
theorem r_isD {f : Nat → Int32} {K L S : Nat → Nat} {N E : Nat → Nat → Nat} (h : Sx f K L S N E) (hL : ∀ i, L i ≤ 240) {i : Nat} (h1 : 1 ≤ i) (h2 : i < 16) : (isD f i = true) ↔ K i = 2 := by
  unfold isD
  rw [decide_eq_true_eq]
  exact r_kd0 h hL h1 h2 (by omega)
theorem r_frK {f : Nat → Int32} {K L S : Nat → Nat} {N E : Nat → Nat → Nat} (h : Sx f K L S N E) (hL : ∀ i, L i ≤ 240) {i : Nat} (h1 : 1 ≤ i) (h2 : i < 16) : frK f i = decide (K i = 0) := by
  unfold frK
  exact decide_eq_decide.mpr (r_kd0 h hL h1 h2 (by omega))
theorem r_fin {f : Nat → Int32} {K L S : Nat → Nat} {N E : Nat → Nat → Nat} (h : Sx f K L S N E) (hL : ∀ i, L i ≤ 240) {i : Nat} (h1 : 1 ≤ i) (h2 : i < 16) : finB f i = frK f i := by
  rw [r_frK h hL h1 h2]
  unfold finB
  rw [h.1.2.1 i h1 h2, Bool.not_not]
theorem r_sz {f : Nat → Int32} {K L S : Nat → Nat} {N E : Nat → Nat → Nat} (h : Sx f K L S N E) {i : Nat} (h1 : 1 ≤ i) (h2 : i < 16) : szN f i = S i := by
  have := (h.2.2.1.2.1 i).2
  unfold szN
  rw [(h.1.1 i h1 h2).2.1, nI_clamp (by omega)]
theorem r_num {f : Nat → Int32} {K L S : Nat → Nat} {N E : Nat → Nat → Nat} (h : Sx f K L S N E) {i j : Nat} (h1 : 1 ≤ i) (h2 : i < 16) (hj : j < 2) : f (16 + 4 * i + (2 + j)) = nI (N i j) := by
  obtain ⟨_, _, g3, g4⟩ := h.1.1 i h1 h2
  have hc : j = 0 ∨ j = 1 := by omega
  rcases hc with rfl | rfl
  · exact g3
  · exact g4
theorem N_lt {K L S : Nat → Nat} {N : Nat → Nat → Nat} (hc : Sc K L S N) (i j : Nat) : N i j = 0 ∨ 18 ≤ N i j ∧ N i j < 48 := by
  by_cases c : N i j = 0
  · exact Or.inl c
  · exact Or.inr ⟨(hc.2.2.2.1 i j c).2.2.1, (hc.2.2.2.1 i j c).2.2.2⟩
theorem r_epos {f : Nat → Int32} {K L S : Nat → Nat} {N E : Nat → Nat → Nat} (h : Sx f K L S N E) {d k : Nat} (h1 : 1 ≤ d) (h2 : d < 16) (hk : k < 16) : epos f d k = 8 * N d (k / 8) + k % 8 := by
  have := N_lt h.2.2.1 d (k / 8)
  unfold epos
  rw [r_num h h1 h2 (by omega), nI_clamp (by omega)]
theorem r_itm {f : Nat → Int32} {K L S : Nat → Nat} {N E : Nat → Nat → Nat} (h : Sx f K L S N E) {d k : Nat} (hd : K d = 2) (hk : k < S d) : itm f d k = nI (E d k) := by
  have h1 := h.2.2.1.1 d (by omega)
  have h2 := (h.2.2.1.2.1 d).2
  rw [itm_e, r_epos h h1.1 h1.2 (by omega)]
  exact h.2.1 d k hd hk
theorem r_dNum {f : Nat → Int32} {K L S : Nat → Nat} {N E : Nat → Nat → Nat} (h : Sx f K L S N E) {d : Nat} (hd : K d = 2) : dNum f d (S d) := by
  have h1 := h.2.2.1.1 d (by omega)
  have h2 := (h.2.2.1.2.1 d).2
  refine ⟨h1.2, h2, (h.1.1 d h1.1 h1.2).2.1, fun k hk => ⟨N d (k / 8), ?_, r_num h h1.1 h1.2 (by omega)⟩⟩
  have := N_lt h.2.2.1 d (k / 8)
  omega
theorem r_dAll {f : Nat → Int32} {K L S : Nat → Nat} {N E : Nat → Nat → Nat} (h : Sx f K L S N E) (hL : ∀ i, L i ≤ 240) : dAll f := by
  intro d h1 h2 hd
  rw [r_sz h h1 h2]
  exact r_dNum h ((r_isD h hL h1 h2).mp hd)
theorem r_fNum {f : Nat → Int32} {K L S : Nat → Nat} {N E : Nat → Nat → Nat} (h : Sx f K L S N E) {i : Nat} (h1 : 1 ≤ i) (h2 : i < 16) : fNum f i (S i) := by
  have h3 := (h.2.2.1.2.1 i).2
  refine ⟨h2, h3, (h.1.1 i h1 h2).2.1, fun j hj => ⟨N i j, ?_, r_num h h1 h2 hj⟩⟩
  have := N_lt h.2.2.1 i j
  omega
/-- entry k of d has the name n -/
def nmN (E : Nat → Nat → Nat) (d n k : Nat) : Bool := decide (E d k % 32 = n)
theorem fnd_congr {P Q : Nat → Bool} : ∀ m k, (∀ i, k ≤ i → i < k + m → P i = Q i) → fndF P m k = fndF Q m k := by
  intro m
  induction m with
  | zero => intro k _; rfl
  | succ m ih =>
    intro k h
    rw [fndF_s, fndF_s, h k (by omega) (by omega), ih (k + 1) (fun i h1 h2 => h i (by omega) (by omega))]
theorem r_nmE {f : Nat → Int32} {K L S : Nat → Nat} {N E : Nat → Nat → Nat} (h : Sx f K L S N E) {d n : Nat} (hd : K d = 2) (hn : n < 32) : fndF (nmE f d (nI n)) (S d) 0 = fndF (nmN E d n) (S d) 0 := by
  refine fnd_congr _ _ (fun k _ hk => ?_)
  have hE := E_lt h.2.2.1 h.2.2.2 d k
  unfold nmE nmN
  rw [r_itm h hd (by omega), nI_and31 (by omega)]
  exact decide_eq_decide.mpr (nI_eq (by omega) (by omega))
theorem r_mtch {f : Nat → Int32} {K L S : Nat → Nat} {N E : Nat → Nat → Nat} (h : Sx f K L S N E) {d n : Nat} (hd : K d = 2) (hn : n < 32) : fndF (mtch f d (nI n)) (S d) 0 = fndF (nmN E d n) (S d) 0 := by
  refine fnd_congr _ _ (fun k _ hk => ?_)
  have hE := E_lt h.2.2.1 h.2.2.2 d k
  have hE2 := h.2.2.2.2.1 d k
  unfold mtch nmN
  rw [r_itm h hd (by omega), nI_and31 (by omega)]
  by_cases c : n = 0
  · subst c
    rw [if_pos rfl]
    exact decide_eq_decide.mpr ((nI_eq (by omega) (by omega)).trans ⟨fun e => by omega, fun e => by
      by_cases z : E d k = 0
      · exact z
      · have := (hE2 z).1
        omega⟩)
  · rw [if_neg (fun e => c ((nI_eq (by omega) (by omega)).mp e))]
    by_cases z : E d k = 0
    · rw [z]
      simp
      omega
    · have e1 : decide (nI (E d k) = nI 0) = false := decide_eq_false (fun e => z ((nI_eq (by omega) (by omega)).mp e))
      rw [e1]
      show decide _ = _
      exact decide_eq_decide.mpr (nI_eq (by omega) (by omega))
theorem us5_n {n : Nat} (h : n < 2 ^ 31) : us 5 (nI n) = nI (n / 32) := by
  unfold us
  exact nI_ushr h (by omega)
theorem us4_n {n : Nat} (h : n < 2 ^ 31) : us 4 (nI n) = nI (n / 16) := by
  unfold us
  exact nI_ushr h (by omega)
theorem r_tgU {f : Nat → Int32} {K L S : Nat → Nat} {N E : Nat → Nat → Nat} (h : Sx f K L S N E) {d k i : Nat} (hd : K d = 2) (hk : k < S d) (hi : i < 16) : ofU f i d k = tg E i d k := by
  have hE := E_lt h.2.2.1 h.2.2.2 d k
  unfold ofU tg
  rw [r_itm h hd hk, us5_n (by omega)]
  exact decide_eq_decide.mpr (nI_eq (by omega) (by omega))
theorem r_tgA {f : Nat → Int32} {K L S : Nat → Nat} {N E : Nat → Nat → Nat} (h : Sx f K L S N E) {d k i : Nat} (hd : K d = 2) (hk : k < S d) (hi : i < 16) : ofA f i d k = tg E i d k := by
  have hE := E_lt h.2.2.1 h.2.2.2 d k
  unfold ofA tg
  rw [r_itm h hd hk, pk_div (by omega) (by omega) (by omega)]
  exact decide_eq_decide.mpr (nI_eq (by omega) (by omega))
/-- a directory's entries of inode i: those within its size are all -/
theorem tg_all {K S : Nat → Nat} {E : Nat → Nat → Nat} (hd : Sd K S E) (hS : ∀ i, S i ≤ 16) {d i : Nat} (hi : 1 ≤ i) : (fndF (tg E i d) 16 0 = none) ↔ (K d = 2 → fndF (tg E i d) (S d) 0 = none) := by
  have hs := hS d
  rw [fnd_none_iff]
  constructor
  · intro h _
    exact fnd_none_iff.mpr (fun k hk => h k (by omega))
  · intro h k hk
    by_cases c : E d k = 0
    · unfold tg
      rw [c]
      exact decide_eq_false (by omega)
    · obtain ⟨g1, g2⟩ := hd.1 d k c
      exact fnd_none_iff.mp (h g1) k g2
theorem r_abvF {f : Nat → Int32} {K L S : Nat → Nat} {N E : Nat → Nat → Nat} (h : Sx f K L S N E) (hL : ∀ i, L i ≤ 240) {i : Nat} (hi : 1 ≤ i) (hi2 : i < 16) : ∀ m d, 1 ≤ d → d + m = 16 → abvF f i m d = upF E i m d ∧ dwF f i m d = (if upF E i m d = 0 then none else some (upF E i m d)) := by
  intro m
  induction m with
  | zero => intro d _ _; exact ⟨rfl, rfl⟩
  | succ m ih =>
    intro d h1 h2
    obtain ⟨g1, g2⟩ := ih (d + 1) (by omega) (by omega)
    have hA : (isD f d = true ∧ ¬ fndF (ofA f i d) (szN f d) 0 = none) ↔ ¬ fndF (tg E i d) 16 0 = none := by
      rw [tg_all h.2.2.2 (fun i => (h.2.2.1.2.1 i).2) hi, r_isD h hL h1 (by omega), r_sz h h1 (by omega)]
      constructor
      · intro ⟨q1, q2⟩ q3
        rw [fnd_congr (Q := tg E i d) _ _ (fun k _ hk => r_tgA h q1 (by omega) hi2)] at q2
        exact q2 (q3 q1)
      · intro q
        by_cases q1 : K d = 2
        · refine ⟨q1, fun q2 => q (fun _ => ?_)⟩
          rw [← fnd_congr (P := ofA f i d) _ _ (fun k _ hk => r_tgA h q1 (by omega) hi2)]
          exact q2
        · exact absurd (fun z => absurd z q1) q
    have hU : (isD f d = true ∧ ¬ fndF (ofU f i d) (szN f d) 0 = none) ↔ ¬ fndF (tg E i d) 16 0 = none := by
      rw [tg_all h.2.2.2 (fun i => (h.2.2.1.2.1 i).2) hi, r_isD h hL h1 (by omega), r_sz h h1 (by omega)]
      constructor
      · intro ⟨q1, q2⟩ q3
        rw [fnd_congr (Q := tg E i d) _ _ (fun k _ hk => r_tgU h q1 (by omega) hi2)] at q2
        exact q2 (q3 q1)
      · intro q
        by_cases q1 : K d = 2
        · refine ⟨q1, fun q2 => q (fun _ => ?_)⟩
          rw [← fnd_congr (P := ofU f i d) _ _ (fun k _ hk => r_tgU h q1 (by omega) hi2)]
          exact q2
        · exact absurd (fun z => absurd z q1) q
    show (if isD f d = true ∧ ¬ fndF (ofA f i d) (szN f d) 0 = none then d else abvF f i m (d + 1)) = (if fndF (tg E i d) 16 0 = none then upF E i m (d + 1) else d) ∧ (if isD f d = true ∧ ¬ fndF (ofU f i d) (szN f d) 0 = none then some d else dwF f i m (d + 1)) = (if (if fndF (tg E i d) 16 0 = none then upF E i m (d + 1) else d) = 0 then none else some (if fndF (tg E i d) 16 0 = none then upF E i m (d + 1) else d))
    by_cases c : fndF (tg E i d) 16 0 = none
    · rw [if_neg (fun z => hA.mp z c), if_pos c, if_neg (fun z => hU.mp z c)]
      exact ⟨g1, g2⟩
    · rw [if_pos (hA.mpr c), if_neg c, if_pos (hU.mpr c), if_neg (by omega)]
      exact ⟨rfl, rfl⟩
theorem r_abv {f : Nat → Int32} {K L S : Nat → Nat} {N E : Nat → Nat → Nat} (h : Sx f K L S N E) (hL : ∀ i, L i ≤ 240) {i : Nat} (hi : 1 ≤ i) (hi2 : i < 16) : abv f i = up E i ∧ dw f i = (if up E i = 0 then none else some (up E i)) := r_abvF h hL hi hi2 15 1 (by omega) (by omega)
/-- going up comes to an end -/
theorem r_ch {f : Nat → Int32} {K L S : Nat → Nat} {N E : Nat → Nat → Nat} (h : Sx f K L S N E) (hL : ∀ i, L i ≤ 240) (h1 : up E 1 = 0) : ∀ n p m, p < 16 → rch E n p → n + 2 ≤ m → chF f m p = true := by
  have hz : ∀ m, chF f m 0 = true := fun m => by cases m <;> rfl
  intro n
  induction n with
  | zero =>
    intro p m hp hr hm
    obtain ⟨m', rfl⟩ : ∃ m', m = m' + 1 := ⟨m - 1, by omega⟩
    have hp1 : p = 1 := hr
    subst hp1
    show (decide (1 = 0) || chF f m' (abv f 1)) = true
    rw [(r_abv h hL (by omega) (by omega)).1, h1, hz]
    rfl
  | succ n ih =>
    intro p m hp hr hm
    obtain ⟨m', rfl⟩ : ∃ m', m = m' + 1 := ⟨m - 1, by omega⟩
    show (decide (p = 0) || chF f m' (abv f p)) = true
    rw [(r_abv h hL (rch_pos hr) hp).1]
    rcases rch_s.mp hr with rfl | ⟨g1, g2⟩
    · rw [h1, hz]
      rfl
    · rw [ih _ m' up_lt g2 (by omega)]
      simp
theorem r_ao {f : Nat → Int32} {K L S : Nat → Nat} {N E : Nat → Nat → Nat} (h : Sx f K L S N E) (hL : ∀ i, L i ≤ 240) (h1 : up E 1 = 0) {i : Nat} : ∀ n p m m', p < 16 → rch E n p → n < m → n < m' → aoF f i m (some p) = insF f i m' p := by
  have hz : ∀ m, insF f i m 0 = false := fun m => by cases m <;> rfl
  have hy : ∀ m, aoF f i m none = false := fun m => by cases m <;> rfl
  intro n
  induction n with
  | zero =>
    intro p m m' hp hr hm hm'
    obtain ⟨a, rfl⟩ : ∃ a, m = a + 1 := ⟨m - 1, by omega⟩
    obtain ⟨b, rfl⟩ : ∃ b, m' = b + 1 := ⟨m' - 1, by omega⟩
    have hp1 : p = 1 := hr
    subst hp1
    show (decide (1 = i) || aoF f i a (dw f 1)) = (if 1 = 0 then false else decide (1 = i) || insF f i b (abv f 1))
    rw [(r_abv h hL (by omega) (by omega)).1, (r_abv h hL (by omega) (by omega)).2, h1, if_pos rfl, hz, hy]
    rfl
  | succ n ih =>
    intro p m m' hp hr hm hm'
    obtain ⟨a, rfl⟩ : ∃ a, m = a + 1 := ⟨m - 1, by omega⟩
    obtain ⟨b, rfl⟩ : ∃ b, m' = b + 1 := ⟨m' - 1, by omega⟩
    have hp1 := rch_pos hr
    show (decide (p = i) || aoF f i a (dw f p)) = (if p = 0 then false else decide (p = i) || insF f i b (abv f p))
    rw [(r_abv h hL hp1 hp).1, (r_abv h hL hp1 hp).2, if_neg (by omega : ¬ p = 0)]
    rcases rch_s.mp hr with rfl | ⟨g1, g2⟩
    · rw [h1, if_pos rfl, hz, hy]
    · have := rch_pos g2
      rw [if_neg (by omega), ih _ a b up_lt g2 (by omega) (by omega)]
/-- a file is not met going up -/
theorem r_aof {f : Nat → Int32} {K L S : Nat → Nat} {N E : Nat → Nat → Nat} (h : Sx f K L S N E) (hL : ∀ i, L i ≤ 240) {i : Nat} (hi : ¬ K i = 2) : ∀ m p, K p = 2 → aoF f i m (some p) = false := by
  have hy : ∀ m, aoF f i m none = false := fun m => by cases m <;> rfl
  intro m
  induction m with
  | zero => intro p _; rfl
  | succ m ih =>
    intro p hp
    have hp2 := h.2.2.1.1 p (by omega)
    show (decide (p = i) || aoF f i m (dw f p)) = false
    rw [(r_abv h hL hp2.1 hp2.2).2, decide_eq_false (fun e : p = i => hi (by rw [← e]; exact hp))]
    by_cases c : up E p = 0
    · rw [if_pos c, hy]
      rfl
    · rw [if_neg c]
      exact ih _ (up_dir h.2.2.2 hp2.1 (by omega)).1
/-- a directory that isn't met keeps the way up as it is -/
theorem r_ins {f : Nat → Int32} {K L S : Nat → Nat} {N E : Nat → Nat → Nat} (h : Sx f K L S N E) (hL : ∀ i, L i ≤ 240) {i : Nat} {E' : Nat → Nat → Nat} (hu : ∀ q, K q = 2 → ¬ q = i → up E' q = up E q) : ∀ n p m, K p = 2 → rch E n p → n < m → insF f i m p = false → rch E' n p := by
  intro n
  induction n with
  | zero => intro p m _ hr _ _; exact hr
  | succ n ih =>
    intro p m hp hr hm hin
    obtain ⟨b, rfl⟩ : ∃ b, m = b + 1 := ⟨m - 1, by omega⟩
    have hp2 := h.2.2.1.1 p (by omega)
    have hin2 : (if p = 0 then false else decide (p = i) || insF f i b (abv f p)) = false := hin
    rw [(r_abv h hL hp2.1 hp2.2).1, if_neg (by omega), Bool.or_eq_false_iff, decide_eq_false_iff_not] at hin2
    rcases rch_s.mp hr with hr | ⟨g1, g2⟩
    · exact Or.inl hr
    · refine Or.inr ⟨g1, ?_⟩
      rw [hu p hp hin2.1]
      exact ih _ b (up_dir h.2.2.2 hp2.1 (rch_pos g2)).1 g2 (by omega) hin2.2
