/-! LINKS AND THE TREE -/
theorem cnt_upd {P Q : Nat → Bool} {s : Nat} : ∀ m k c, k ≤ s → s < k + m → (∀ i, ¬ i = s → P i = Q i) → cntF Q m k c + b2n (P s) = cntF P m k c + b2n (Q s) := by
  intro m
  induction m with
  | zero => intro k c h1 h2 _; omega
  | succ m ih =>
    intro k c h1 h2 h3
    rw [cnt_b, cnt_b]
    by_cases e : k = s
    · subst e
      rw [cnt_c m (k + 1) (c + b2n (Q k)), cnt_c m (k + 1) (c + b2n (P k)), cnt_congr (P := Q) (P' := P) m (k + 1) 0 (fun i h4 _ => (h3 i (by omega)).symm)]
      omega
    · rw [h3 k e]
      exact ih (k + 1) _ (by omega) (by omega) h3
/-- an entry of inode i -/
def tg (E : Nat → Nat → Nat) (i d k : Nat) : Bool := decide (E d k / 32 = i)
theorem tg_t {E : Nat → Nat → Nat} {i d k : Nat} : tg E i d k = true ↔ E d k / 32 = i := decide_eq_true_iff
def cD (E : Nat → Nat → Nat) (i : Nat) : Nat → Nat → Nat → Nat
  | 0, _, c => c
  | m + 1, d, c => cD E i m (d + 1) (cntF (tg E i d) 16 0 c)
theorem cD_s {E : Nat → Nat → Nat} {i m d c : Nat} : cD E i (m + 1) d c = cD E i m (d + 1) (cntF (tg E i d) 16 0 c) := rfl
/-- the entries of inode i -/
def Cn (E : Nat → Nat → Nat) (i : Nat) : Nat := cD E i 15 1 0
theorem cD_c {E : Nat → Nat → Nat} {i : Nat} : ∀ m d c, cD E i m d c = c + cD E i m d 0 := by
  intro m
  induction m with
  | zero => intro d c; rfl
  | succ m ih =>
    intro d c
    rw [cD_s, cD_s, ih (d + 1) (cntF _ 16 0 c), ih (d + 1) (cntF _ 16 0 0), cnt_c 16 0 c]
    omega
theorem cD_congr {E E' : Nat → Nat → Nat} {i : Nat} : ∀ m d c, (∀ x k, d ≤ x → x < d + m → E x k = E' x k) → cD E i m d c = cD E' i m d c := by
  intro m
  induction m with
  | zero => intro d c _; rfl
  | succ m ih =>
    intro d c h
    have e : tg E i d = tg E' i d := by
      funext k
      unfold tg
      rw [h d k (by omega) (by omega)]
    rw [cD_s, cD_s, e]
    exact ih (d + 1) _ (fun x k h1 h2 => h x k (by omega) (by omega))
theorem cD_put {E : Nat → Nat → Nat} {i d0 k0 v : Nat} (hk : k0 < 16) : ∀ m d c, d ≤ d0 → d0 < d + m → cD (sE E d0 k0 v) i m d c + b2n (tg E i d0 k0) = cD E i m d c + b2n (decide (v / 32 = i)) := by
  intro m
  induction m with
  | zero => intro d c h1 h2; omega
  | succ m ih =>
    intro d c h1 h2
    rw [cD_s, cD_s]
    by_cases e : d = d0
    · subst e
      have hc := cnt_upd (P := tg E i d) (Q := tg (sE E d k0 v) i d) (s := k0) 16 0 c (by omega) (by omega) (fun x hx => by unfold tg; rw [sE_n (fun z => hx z.2)])
      have hq : tg (sE E d k0 v) i d k0 = decide (v / 32 = i) := by unfold tg; rw [sE_s]
      rw [hq] at hc
      rw [cD_c m (d + 1) (cntF (tg (sE E d k0 v) i d) 16 0 c), cD_c m (d + 1) (cntF (tg E i d) 16 0 c), cD_congr (E := sE E d k0 v) (E' := E) m (d + 1) 0 (fun x k h3 _ => sE_n (by omega))]
      omega
    · have e2 : tg (sE E d0 k0 v) i d = tg E i d := by
        funext k
        unfold tg
        rw [sE_n (fun z => e z.1)]
      rw [e2]
      exact ih (d + 1) _ (by omega) (by omega)
theorem Cn_put {E : Nat → Nat → Nat} {i d k v : Nat} (hd : 1 ≤ d) (hd2 : d < 16) (hk : k < 16) : Cn (sE E d k v) i + b2n (decide (E d k / 32 = i)) = Cn E i + b2n (decide (v / 32 = i)) := cD_put hk 15 1 0 hd (by omega)
theorem cD_le {E : Nat → Nat → Nat} {i : Nat} : ∀ m d c, cD E i m d c ≤ c + 16 * m := by
  intro m
  induction m with
  | zero => intro d c; exact Nat.le_refl _
  | succ m ih =>
    intro d c
    have h1 := ih (d + 1) (cntF (tg E i d) 16 0 c)
    have h2 := cntF_le (P := tg E i d) 16 0 c
    rw [cD_s]
    omega
theorem Cn_le {E : Nat → Nat → Nat} {i : Nat} : Cn E i ≤ 240 := by
  have := cD_le (E := E) (i := i) 15 1 0
  unfold Cn
  omega
theorem Cn_pos {E : Nat → Nat → Nat} {i d k : Nat} (hi : 1 ≤ i) (hd : 1 ≤ d) (hd2 : d < 16) (hk : k < 16) (h : E d k / 32 = i) : 1 ≤ Cn E i := by
  have := Cn_put (E := E) (i := i) (v := 0) hd hd2 hk
  have e1 : b2n (decide (E d k / 32 = i)) = 1 := by rw [decide_eq_true h]; rfl
  have e2 : b2n (decide (0 / 32 = i)) = 0 := by rw [decide_eq_false (by omega)]; rfl
  omega
theorem Cn_one {E : Nat → Nat → Nat} {i d k d' k' : Nat} (hi : 1 ≤ i) (h1 : Cn E i = 1) (hd : 1 ≤ d) (hd2 : d < 16) (hk : k < 16) (h : E d k / 32 = i) (hd' : 1 ≤ d') (hd2' : d' < 16) (hk' : k' < 16) (h' : E d' k' / 32 = i) : d' = d ∧ k' = k := by
  by_cases c : d' = d ∧ k' = k
  · exact c
  · have := Cn_put (E := E) (i := i) (v := 0) hd hd2 hk
    have e1 : b2n (decide (E d k / 32 = i)) = 1 := by rw [decide_eq_true h]; rfl
    have e2 : b2n (decide (0 / 32 = i)) = 0 := by rw [decide_eq_false (by omega)]; rfl
    have := Cn_pos (E := sE E d k 0) hi hd' hd2' hk' (by rw [sE_n c]; exact h')
    omega
/-- the directory of the first entry of inode i, 0 for none -/
def upF (E : Nat → Nat → Nat) (i : Nat) : Nat → Nat → Nat
  | 0, _ => 0
  | m + 1, d => if fndF (tg E i d) 16 0 = none then upF E i m (d + 1) else d
def up (E : Nat → Nat → Nat) (i : Nat) : Nat := upF E i 15 1
theorem fnd_none_iff {P : Nat → Bool} {m : Nat} : (fndF P m 0 = none) ↔ ∀ k, k < m → P k = false := by
  constructor
  · intro h k hk
    exact fndF_none m 0 h k (by omega) (by omega)
  · intro h
    cases e : fndF P m 0 with
    | none => rfl
    | some j =>
      obtain ⟨_, h2, h3, _⟩ := fndF_some m 0 j e
      rw [h j (by omega)] at h3
      cases h3
theorem upF_spec {E : Nat → Nat → Nat} {i : Nat} : ∀ m d, (upF E i m d = 0 ∧ (1 ≤ d → ∀ x k, d ≤ x → x < d + m → k < 16 → ¬ E x k / 32 = i)) ∨ (d ≤ upF E i m d ∧ upF E i m d < d + m ∧ ∃ k, k < 16 ∧ E (upF E i m d) k / 32 = i) := by
  intro m
  induction m with
  | zero => intro d; left; exact ⟨rfl, fun _ x k h1 h2 => by omega⟩
  | succ m ih =>
    intro d
    show ((if fndF (tg E i d) 16 0 = none then upF E i m (d + 1) else d) = 0 ∧ _) ∨ (d ≤ (if fndF (tg E i d) 16 0 = none then upF E i m (d + 1) else d) ∧ (if fndF (tg E i d) 16 0 = none then upF E i m (d + 1) else d) < d + (m + 1) ∧ ∃ k, k < 16 ∧ E (if fndF (tg E i d) 16 0 = none then upF E i m (d + 1) else d) k / 32 = i)
    by_cases c : fndF (tg E i d) 16 0 = none
    · rw [if_pos c]
      rcases ih (d + 1) with ⟨g1, g2⟩ | ⟨g1, g2, g3⟩
      · left
        refine ⟨g1, fun hd x k h1 h2 h3 => ?_⟩
        by_cases q : x = d
        · subst q
          have := fnd_none_iff.mp c k h3
          unfold tg at this
          exact of_decide_eq_false this
        · exact g2 (by omega) x k (by omega) (by omega) h3
      · right
        exact ⟨by omega, by omega, g3⟩
    · rw [if_neg c]
      right
      refine ⟨Nat.le_refl d, by omega, ?_⟩
      cases e : fndF (tg E i d) 16 0 with
      | none => exact absurd e c
      | some j =>
        obtain ⟨_, h2, h3, _⟩ := fndF_some 16 0 j e
        exact ⟨j, by omega, tg_t.mp h3⟩
theorem up_spec (E : Nat → Nat → Nat) (i : Nat) : (up E i = 0 ∧ ∀ x k, 1 ≤ x → x < 16 → k < 16 → ¬ E x k / 32 = i) ∨ (1 ≤ up E i ∧ up E i < 16 ∧ ∃ k, k < 16 ∧ E (up E i) k / 32 = i) := by
  rcases upF_spec (E := E) (i := i) 15 1 with ⟨h1, h2⟩ | ⟨h1, h2, h3⟩
  · left
    exact ⟨h1, fun x k a b c => h2 (by omega) x k a (by omega) c⟩
  · right
    exact ⟨h1, by show upF E i 15 1 < 16; omega, h3⟩
theorem up_lt {E : Nat → Nat → Nat} {i : Nat} : up E i < 16 := by
  rcases up_spec E i with ⟨h, _⟩ | ⟨_, h, _⟩
  · omega
  · exact h
theorem up_at {E : Nat → Nat → Nat} {i d k : Nat} (hd : 1 ≤ d) (hd2 : d < 16) (hk : k < 16) (h : E d k / 32 = i) (hu : ∀ x y, 1 ≤ x → x < 16 → y < 16 → E x y / 32 = i → x = d) : up E i = d := by
  rcases up_spec E i with ⟨_, h2⟩ | ⟨h1, h2, y, h3, h4⟩
  · exact absurd h (h2 d k hd hd2 hk)
  · exact hu _ y h1 h2 h3 h4
theorem upF_congr {E E' : Nat → Nat → Nat} {i : Nat} : ∀ m d, (∀ x, d ≤ x → x < d + m → ((∃ k, k < 16 ∧ E x k / 32 = i) ↔ ∃ k, k < 16 ∧ E' x k / 32 = i)) → upF E i m d = upF E' i m d := by
  intro m
  induction m with
  | zero => intro d _; rfl
  | succ m ih =>
    intro d h
    have hn : ∀ (G : Nat → Nat → Nat), (fndF (tg G i d) 16 0 = none) ↔ ¬ ∃ k, k < 16 ∧ G d k / 32 = i := by
      intro G
      rw [fnd_none_iff]
      constructor
      · intro q ⟨k, h1, h2⟩
        have := q k h1
        rw [tg_t.mpr h2] at this
        cases this
      · intro q k hk
        cases e : tg G i d k with
        | false => rfl
        | true => exact absurd ⟨k, hk, tg_t.mp e⟩ q
    have he : (fndF (tg E i d) 16 0 = none) ↔ (fndF (tg E' i d) 16 0 = none) := by
      rw [hn E, hn E', h d (by omega) (by omega)]
    have h2 := ih (d + 1) (fun x a b => h x (by omega) (by omega))
    show (if fndF (tg E i d) 16 0 = none then upF E i m (d + 1) else d) = (if fndF (tg E' i d) 16 0 = none then upF E' i m (d + 1) else d)
    rw [h2]
    by_cases c : fndF (tg E i d) 16 0 = none
    · rw [if_pos c, if_pos (he.mp c)]
    · rw [if_neg c, if_neg (fun z => c (he.mpr z))]
/-- an entry of another inode changes nothing of i -/
theorem up_put {E : Nat → Nat → Nat} {i d k v : Nat} (h1 : ¬ E d k / 32 = i) (h2 : ¬ v / 32 = i) : up (sE E d k v) i = up E i := by
  refine upF_congr 15 1 (fun x _ _ => ⟨fun ⟨y, a, b⟩ => ?_, fun ⟨y, a, b⟩ => ?_⟩)
  · by_cases c : x = d ∧ y = k
    · obtain ⟨rfl, rfl⟩ := c
      rw [sE_s] at b
      exact absurd b h2
    · rw [sE_n c] at b
      exact ⟨y, a, b⟩
  · by_cases c : x = d ∧ y = k
    · obtain ⟨rfl, rfl⟩ := c
      exact absurd b h1
    · exact ⟨y, a, by rw [sE_n c]; exact b⟩
/-- going up from p the root is met, within n steps -/
def rch (E : Nat → Nat → Nat) : Nat → Nat → Prop
  | 0, p => p = 1
  | n + 1, p => p = 1 ∨ (1 < p ∧ rch E n (up E p))
theorem rch_s {E : Nat → Nat → Nat} {n p : Nat} : rch E (n + 1) p ↔ (p = 1 ∨ (1 < p ∧ rch E n (up E p))) := Iff.rfl
theorem rch_pos {E : Nat → Nat → Nat} {n p : Nat} (h : rch E n p) : 1 ≤ p := by
  cases n with
  | zero => have : p = 1 := h; omega
  | succ n =>
    rcases rch_s.mp h with h | h
    · omega
    · omega
theorem rch_up {E : Nat → Nat → Nat} : ∀ n p, rch E n p → rch E (n + 1) p := by
  intro n
  induction n with
  | zero => intro p h; exact Or.inl h
  | succ n ih =>
    intro p h
    rcases rch_s.mp h with h | ⟨h1, h2⟩
    · exact Or.inl h
    · exact Or.inr ⟨h1, ih _ h2⟩
theorem rch_le {E : Nat → Nat → Nat} {n p : Nat} (h : rch E n p) : ∀ k, rch E (n + k) p := by
  intro k
  induction k with
  | zero => exact h
  | succ k ih => exact rch_up _ _ ih
theorem pig : ∀ n (f : Nat → Nat), (∀ a, a < n + 1 → f a < n) → ∃ a b, a < b ∧ b < n + 1 ∧ f a = f b := by
  intro n
  induction n with
  | zero => intro f h; exact absurd (h 0 (by omega)) (Nat.not_lt_zero _)
  | succ n ih =>
    intro f h
    by_cases c : ∃ a, a < n + 1 ∧ f a = f (n + 1)
    · obtain ⟨a, h1, h2⟩ := c
      exact ⟨a, n + 1, h1, by omega, h2⟩
    · have hv := h (n + 1) (by omega)
      have hne : ∀ a, a < n + 1 → ¬ f a = f (n + 1) := fun a h1 h2 => c ⟨a, h1, h2⟩
      obtain ⟨a, b, h1, h2, h3⟩ := ih (fun a => if f a = n then f (n + 1) else f a) (fun a ha => by
        show (if f a = n then f (n + 1) else f a) < n
        have h4 := h a (by omega)
        have h5 := hne a ha
        by_cases q : f a = n
        · rw [if_pos q]; omega
        · rw [if_neg q]; omega)
      have h3' : (if f a = n then f (n + 1) else f a) = (if f b = n then f (n + 1) else f b) := h3
      refine ⟨a, b, h1, by omega, ?_⟩
      have ha := hne a (by omega)
      have hb := hne b (by omega)
      by_cases q : f a = n
      · by_cases r : f b = n
        · omega
        · rw [if_pos q, if_neg r] at h3'; omega
      · by_cases r : f b = n
        · rw [if_neg q, if_pos r] at h3'; omega
        · rw [if_neg q, if_neg r] at h3'; exact h3'
def itU (E : Nat → Nat → Nat) : Nat → Nat → Nat
  | 0, p => p
  | n + 1, p => itU E n (up E p)
theorem itU_s {E : Nat → Nat → Nat} : ∀ n p, itU E (n + 1) p = up E (itU E n p) := by
  intro n
  induction n with
  | zero => intro p; rfl
  | succ n ih => intro p; exact ih (up E p)
theorem rch_short {E : Nat → Nat → Nat} : ∀ n p, p < 16 → rch E n p → rch E 14 p := by
  intro n
  induction n with
  | zero => intro p _ h; exact rch_le h 14
  | succ n ih =>
    intro p hp h
    by_cases c : n + 1 ≤ 14
    · have := rch_le h (14 - (n + 1))
      rw [show n + 1 + (14 - (n + 1)) = 14 by omega] at this
      exact this
    · by_cases c2 : rch E n p
      · exact ih p hp c2
      · have inv : ∀ a, a ≤ n + 1 → rch E (n + 1 - a) (itU E a p) ∧ itU E a p < 16 ∧ (a < n + 1 → ¬ rch E (n - a) (itU E a p)) := by
          intro a
          induction a with
          | zero => intro _; exact ⟨h, hp, fun _ => c2⟩
          | succ a iha =>
            intro ha
            obtain ⟨g1, g2, g3⟩ := iha (by omega)
            have g3' := g3 (by omega)
            rw [show n + 1 - a = (n - a) + 1 by omega] at g1
            rw [itU_s]
            have hn1 : ¬ itU E a p = 1 := fun e => g3' (by
              have : rch E 0 (itU E a p) := e
              have := rch_le this (n - a)
              rw [Nat.zero_add] at this
              exact this)
            rcases rch_s.mp g1 with g1 | ⟨g1, g4⟩
            · exact absurd g1 hn1
            · rw [show n + 1 - (a + 1) = n - a by omega]
              refine ⟨g4, up_lt, fun hlt hr => g3' ?_⟩
              rw [show n - a = (n - (a + 1)) + 1 by omega]
              exact Or.inr ⟨g1, hr⟩
        obtain ⟨a, b, h1, h2, h3⟩ := pig 15 (fun a => itU E a p - 1) (fun a ha => by
          obtain ⟨g1, g2, _⟩ := inv a (by omega)
          have := rch_pos g1
          show itU E a p - 1 < 15
          omega)
        obtain ⟨g1, g2, g3⟩ := inv a (by omega)
        obtain ⟨k1, k2, _⟩ := inv b (by omega)
        have p1 := rch_pos g1
        have p2 := rch_pos k1
        have h3' : itU E a p - 1 = itU E b p - 1 := h3
        have he : itU E b p = itU E a p := by omega
        rw [he] at k1
        have := rch_le k1 (b - a - 1)
        rw [show n + 1 - b + (b - a - 1) = n - a by omega] at this
        exact absurd this (g3 (by omega))
theorem rch_G {E E' : Nat → Nat → Nat} {G : Nat → Prop} (hG : ∀ q, G q → 1 < q → 1 ≤ up E q → up E' q = up E q ∧ G (up E q)) : ∀ n p, G p → rch E n p → rch E' n p := by
  intro n
  induction n with
  | zero => intro p _ h; exact h
  | succ n ih =>
    intro p hp h
    rcases rch_s.mp h with h | ⟨h1, h2⟩
    · exact Or.inl h
    · obtain ⟨g1, g2⟩ := hG p hp h1 (rch_pos h2)
      refine Or.inr ⟨h1, ?_⟩
      rw [g1]
      exact ih _ g2 h2
