/-- links are counted, directories have one entry each, the root none -/
def F3 (K L : Nat → Nat) (E : Nat → Nat → Nat) : Prop := (∀ i, ¬ K i = 0 → L i = if i = 1 then 1 else Cn E i) ∧ K 1 = 2 ∧ Cn E 1 = 0 ∧ (∀ i, K i = 2 → ¬ i = 1 → Cn E i = 1)
/-- every directory hangs from the root -/
def F4 (K : Nat → Nat) (E : Nat → Nat → Nat) : Prop := ∀ i, K i = 2 → ∃ n, rch E n i
def FS (f : Nat → Int32) (K L S : Nat → Nat) (N E : Nat → Nat → Nat) : Prop := Sx f K L S N E ∧ F3 K L E ∧ F4 K E
theorem cnt_none {P : Nat → Bool} : ∀ m k c, (∀ i, k ≤ i → i < k + m → P i = false) → cntF P m k c = c := by
  intro m
  induction m with
  | zero => intro k c _; rfl
  | succ m ih =>
    intro k c h
    rw [cnt_b, h k (by omega) (by omega)]
    exact ih (k + 1) c (fun i h1 h2 => h i (by omega) (by omega))
theorem cD_none {E : Nat → Nat → Nat} {i : Nat} : ∀ m d c, (∀ x k, d ≤ x → x < d + m → k < 16 → ¬ E x k / 32 = i) → cD E i m d c = c := by
  intro m
  induction m with
  | zero => intro d c _; rfl
  | succ m ih =>
    intro d c h
    rw [cD_s, cnt_none (P := tg E i d) 16 0 c (fun k _ h2 => decide_eq_false (h d k (by omega) (by omega) (by omega)))]
    exact ih (d + 1) c (fun x k h1 h2 h3 => h x k (by omega) (by omega) h3)
theorem Cn_none {E : Nat → Nat → Nat} {i : Nat} (h : ∀ x k, 1 ≤ x → x < 16 → k < 16 → ¬ E x k / 32 = i) : Cn E i = 0 := cD_none 15 1 0 (fun x k h1 h2 h3 => h x k h1 (by omega) h3)
theorem bd_t {p : Prop} [Decidable p] (h : p) : b2n (decide p) = 1 := by rw [decide_eq_true h]; rfl
theorem bd_f {p : Prop} [Decidable p] (h : ¬ p) : b2n (decide p) = 0 := by rw [decide_eq_false h]; rfl
/-- what has an entry is a directory -/
theorem up_dir {K S : Nat → Nat} {E : Nat → Nat → Nat} (h : Sd K S E) {q : Nat} (hq : 1 ≤ q) (hu : 1 ≤ up E q) : K (up E q) = 2 ∧ ∃ k, k < 16 ∧ E (up E q) k / 32 = q := by
  rcases up_spec E q with ⟨h1, _⟩ | ⟨_, _, k, h3, h4⟩
  · omega
  · refine ⟨(h.1 _ k (fun e => ?_)).1, k, h3, h4⟩
    rw [e] at h4
    omega
theorem F_create {K L S : Nat → Nat} {E : Nat → Nat → Nat} {d k v i t : Nat} (hd : Sd K S E) (hK : ∀ i, ¬ K i = 0 → 1 ≤ i ∧ i < 16) (h3 : F3 K L E) (h4 : F4 K E) (hi : 1 ≤ i) (h0 : K i = 0) (hkd : K d = 2) (hk : k < 16) (hE : E d k = 0) (hv : v / 32 = i) (ht : t = 1 ∨ t = 2) : F3 (sN K i t) (sN L i 1) (sE E d k v) ∧ F4 (sN K i t) (sE E d k v) := by
  obtain ⟨a1, a2, a3, a4⟩ := h3
  have hd2 := hK d (by omega)
  have hz : ∀ x y, ¬ E x y / 32 = i := fun x y e => by
    by_cases c : E x y = 0
    · rw [c] at e; omega
    · have := (hd.2.1 x y c).2.2
      rw [e] at this
      exact this h0
  have hi1 : ¬ i = 1 := fun e => by rw [e] at h0; omega
  have hC0 : Cn E i = 0 := Cn_none (fun x y _ _ _ => hz x y)
  have hCi : Cn (sE E d k v) i = 1 := by
    have := Cn_put (E := E) (i := i) (v := v) hd2.1 hd2.2 hk
    rw [bd_f (hz d k), bd_t hv, hC0] at this
    exact this
  have hCj : ∀ j, 1 ≤ j → ¬ j = i → Cn (sE E d k v) j = Cn E j := fun j hj hne => by
    have := Cn_put (E := E) (i := j) (v := v) hd2.1 hd2.2 hk
    rw [hE, bd_f (by omega), bd_f (by omega)] at this
    exact this
  have hne : ∀ q, K q = 2 → ¬ q = i := fun q h e => by rw [e] at h; omega
  have hup : ∀ q, K q = 2 → up (sE E d k v) q = up E q := fun q hq => up_put (by rw [hE]; have := hK q (by omega); omega) (by rw [hv]; exact fun e => hne q hq e.symm)
  have hr : ∀ n p, K p = 2 → rch E n p → rch (sE E d k v) n p := rch_G (G := fun q => K q = 2) (fun q hq h1 h2 => ⟨hup q hq, (up_dir hd (by omega) h2).1⟩)
  refine ⟨⟨fun j hj => ?_, ?_, ?_, fun j hj h1 => ?_⟩, fun j hj => ?_⟩
  · by_cases c : j = i
    · subst c
      rw [sN_s, if_neg hi1, hCi]
    · rw [sN_n c] at hj ⊢
      rw [hCj j (hK j hj).1 c]
      exact a1 j hj
  · rw [sN_n (fun e => hi1 e.symm)]
    exact a2
  · rw [hCj 1 (by omega) (fun e => hi1 e.symm)]
    exact a3
  · by_cases c : j = i
    · subst c
      exact hCi
    · rw [sN_n c] at hj
      rw [hCj j (hK j (by omega)).1 c]
      exact a4 j hj h1
  · by_cases c : j = i
    · subst c
      obtain ⟨n, hn⟩ := h4 d hkd
      refine ⟨n + 1, Or.inr ⟨by omega, ?_⟩⟩
      have hu : up (sE E d k v) j = d := up_at (k := k) hd2.1 hd2.2 hk (by rw [sE_s]; exact hv) (fun x y h1 h2 h3 h4 => by
        by_cases q : x = d ∧ y = k
        · exact q.1
        · rw [sE_n q] at h4
          exact absurd h4 (hz x y))
      rw [hu]
      exact hr n d hkd hn
    · rw [sN_n c] at hj
      obtain ⟨n, hn⟩ := h4 j hj
      exact ⟨n, hr n j hj hn⟩
theorem F_link {K L S : Nat → Nat} {E : Nat → Nat → Nat} {d k v i : Nat} (hd : Sd K S E) (hK : ∀ i, ¬ K i = 0 → 1 ≤ i ∧ i < 16) (h3 : F3 K L E) (h4 : F4 K E) (h0 : K i = 1) (hkd : K d = 2) (hk : k < 16) (hE : E d k = 0) (hv : v / 32 = i) : F3 K (sN L i (L i + 1)) (sE E d k v) ∧ F4 K (sE E d k v) := by
  obtain ⟨a1, a2, a3, a4⟩ := h3
  have hd2 := hK d (by omega)
  have hi := hK i (by omega)
  have hi1 : ¬ i = 1 := fun e => by rw [e] at h0; omega
  have hCi : Cn (sE E d k v) i = Cn E i + 1 := by
    have := Cn_put (E := E) (i := i) (v := v) hd2.1 hd2.2 hk
    rw [hE, bd_f (by omega), bd_t hv] at this
    exact this
  have hCj : ∀ j, 1 ≤ j → ¬ j = i → Cn (sE E d k v) j = Cn E j := fun j hj hne => by
    have := Cn_put (E := E) (i := j) (v := v) hd2.1 hd2.2 hk
    rw [hE, bd_f (by omega), bd_f (by omega)] at this
    exact this
  have hne : ∀ q, K q = 2 → ¬ q = i := fun q h e => by rw [e] at h; omega
  have hup : ∀ q, K q = 2 → up (sE E d k v) q = up E q := fun q hq => up_put (by rw [hE]; have := hK q (by omega); omega) (by rw [hv]; exact fun e => hne q hq e.symm)
  have hr : ∀ n p, K p = 2 → rch E n p → rch (sE E d k v) n p := rch_G (G := fun q => K q = 2) (fun q hq h1 h2 => ⟨hup q hq, (up_dir hd (by omega) h2).1⟩)
  refine ⟨⟨fun j hj => ?_, a2, ?_, fun j hj h1 => ?_⟩, fun j hj => ?_⟩
  · by_cases c : j = i
    · subst c
      rw [sN_s, if_neg hi1, hCi]
      have := a1 j hj
      rw [if_neg hi1] at this
      omega
    · rw [sN_n c, hCj j (hK j hj).1 c]
      exact a1 j hj
  · rw [hCj 1 (by omega) (fun e => hi1 e.symm)]
    exact a3
  · rw [hCj j (hK j (by omega)).1 (hne j hj)]
    exact a4 j hj h1
  · obtain ⟨n, hn⟩ := h4 j hj
    exact ⟨n, hr n j hj hn⟩
/-- what an entry's end does to the counts -/
theorem Cn_erase {K L S : Nat → Nat} {E : Nat → Nat → Nat} {d k i : Nat} (hd : Sd K S E) (hS : ∀ i, S i ≤ 16) (hK : ∀ i, ¬ K i = 0 → 1 ≤ i ∧ i < 16) (h3 : F3 K L E) (hE : ¬ E d k = 0) (hi : E d k / 32 = i) : ¬ K i = 0 ∧ 1 ≤ i ∧ i < 16 ∧ ¬ i = 1 ∧ L i = Cn E i ∧ Cn (sE E d k 0) i + 1 = Cn E i ∧ (∀ j, 1 ≤ j → ¬ j = i → Cn (sE E d k 0) j = Cn E j) ∧ 1 ≤ d ∧ d < 16 ∧ k < 16 ∧ K d = 2 := by
  obtain ⟨a1, a2, a3, a4⟩ := h3
  obtain ⟨g1, g2⟩ := hd.1 d k hE
  have hki := (hd.2.1 d k hE).2.2
  rw [hi] at hki
  have hd2 := hK d (by omega)
  have hi2 := hK i hki
  have hk16 : k < 16 := by have := hS d; omega
  have hp := Cn_pos (E := E) hi2.1 hd2.1 hd2.2 hk16 hi
  have hi1 : ¬ i = 1 := fun e => by rw [e] at hp; omega
  have hL := a1 i hki
  rw [if_neg hi1] at hL
  have h5 := Cn_put (E := E) (i := i) (v := 0) hd2.1 hd2.2 hk16
  rw [bd_t hi, bd_f (by omega)] at h5
  refine ⟨hki, hi2.1, hi2.2, hi1, hL, by omega, fun j hj hne => ?_, hd2.1, hd2.2, hk16, g1⟩
  have := Cn_put (E := E) (i := j) (v := 0) hd2.1 hd2.2 hk16
  rw [bd_f (by omega), bd_f (by omega)] at this
  exact this
/-- a link less, of a file that has others -/
theorem F_unlA {K L S : Nat → Nat} {E : Nat → Nat → Nat} {d k i : Nat} (hd : Sd K S E) (hS : ∀ i, S i ≤ 16) (hK : ∀ i, ¬ K i = 0 → 1 ≤ i ∧ i < 16) (h3 : F3 K L E) (h4 : F4 K E) (hE : ¬ E d k = 0) (hi : E d k / 32 = i) (hl : ¬ L i - 1 = 0) : F3 K (sN L i (L i - 1)) (sE E d k 0) ∧ F4 K (sE E d k 0) := by
  obtain ⟨c1, c2, c3, c4, c5, c6, c7, c8, c9, c10, c11⟩ := Cn_erase hd hS hK h3 hE hi
  obtain ⟨a1, a2, a3, a4⟩ := h3
  have hne : ∀ q, K q = 2 → ¬ q = i := fun q h e => by
    subst e
    have := a4 q h c4
    omega
  have hup : ∀ q, K q = 2 → up (sE E d k 0) q = up E q := fun q hq => up_put (by rw [hi]; exact fun e => hne q hq e.symm) (by have := hK q (by omega); omega)
  have hr : ∀ n p, K p = 2 → rch E n p → rch (sE E d k 0) n p := rch_G (G := fun q => K q = 2) (fun q hq h1 h2 => ⟨hup q hq, (up_dir hd (by omega) h2).1⟩)
  refine ⟨⟨fun j hj => ?_, a2, ?_, fun j hj h1 => ?_⟩, fun j hj => ?_⟩
  · by_cases c : j = i
    · subst c
      rw [sN_s, if_neg c4]
      omega
    · rw [sN_n c, c7 j (hK j hj).1 c]
      exact a1 j hj
  · rw [c7 1 (by omega) (fun e => c4 e.symm)]
    exact a3
  · rw [c7 j (hK j (by omega)).1 (hne j hj)]
    exact a4 j hj h1
  · obtain ⟨n, hn⟩ := h4 j hj
    exact ⟨n, hr n j hj hn⟩
/-- the last link goes -/
theorem F_unlB {K L S : Nat → Nat} {E : Nat → Nat → Nat} {d k i : Nat} (hd : Sd K S E) (hS : ∀ i, S i ≤ 16) (hK : ∀ i, ¬ K i = 0 → 1 ≤ i ∧ i < 16) (h3 : F3 K L E) (h4 : F4 K E) (hE : ¬ E d k = 0) (hi : E d k / 32 = i) (hl : L i - 1 = 0) (hem : ∀ y, E i y = 0) : F3 (sN K i 0) (sN L i 0) (sE E d k 0) ∧ F4 (sN K i 0) (sE E d k 0) ∧ (∀ x y, ¬ sE E d k 0 x y = 0 → ¬ sE E d k 0 x y / 32 = i) ∧ ¬ d = i := by
  obtain ⟨c1, c2, c3, c4, c5, c6, c7, c8, c9, c10, c11⟩ := Cn_erase hd hS hK h3 hE hi
  obtain ⟨a1, a2, a3, a4⟩ := h3
  have hdi : ¬ d = i := fun e => hE (e ▸ hem k)
  have hup : ∀ q, K q = 2 → ¬ q = i → up (sE E d k 0) q = up E q := fun q hq hn => up_put (by rw [hi]; exact fun e => hn e.symm) (by have := hK q (by omega); omega)
  have hr : ∀ n p, (K p = 2 ∧ ¬ p = i) → rch E n p → rch (sE E d k 0) n p := rch_G (G := fun q => K q = 2 ∧ ¬ q = i) (fun q hq h1 h2 => by
    obtain ⟨g1, y, _, g2⟩ := up_dir hd (q := q) (by omega) h2
    refine ⟨hup q hq.1 hq.2, g1, fun e => ?_⟩
    rw [e, hem y] at g2
    omega)
  refine ⟨⟨fun j hj => ?_, ?_, ?_, fun j hj h1 => ?_⟩, fun j hj => ?_, fun x y hne he => ?_, hdi⟩
  · by_cases c : j = i
    · subst c
      rw [sN_s] at hj
      exact absurd rfl hj
    · rw [sN_n c] at hj ⊢
      rw [c7 j (hK j hj).1 c]
      exact a1 j hj
  · rw [sN_n (fun e => c4 e.symm)]
    exact a2
  · rw [c7 1 (by omega) (fun e => c4 e.symm)]
    exact a3
  · by_cases c : j = i
    · subst c
      rw [sN_s] at hj
      omega
    · rw [sN_n c] at hj
      rw [c7 j (hK j (by omega)).1 c]
      exact a4 j hj h1
  · by_cases c : j = i
    · subst c
      rw [sN_s] at hj
      omega
    · rw [sN_n c] at hj
      obtain ⟨n, hn⟩ := h4 j hj
      exact ⟨n, hr n j ⟨hj, c⟩ hn⟩
  · have hx : ¬ (x = d ∧ y = k) := fun z => by
      obtain ⟨rfl, rfl⟩ := z
      exact hne sE_s
    have hne2 := hne
    rw [sE_n hx] at hne2
    obtain ⟨g1, g2⟩ := hd.1 x y hne2
    have hx2 := hK x (by omega)
    have := Cn_pos (E := sE E d k 0) c2 hx2.1 hx2.2 (k := y) (by have := hS x; omega) he
    omega
/-- an entry is moved; a directory not into itself -/
theorem F_ren {K L S : Nat → Nat} {E : Nat → Nat → Nat} {d k e k' v i : Nat} (hd : Sd K S E) (hS : ∀ i, S i ≤ 16) (hK : ∀ i, ¬ K i = 0 → 1 ≤ i ∧ i < 16) (h3 : F3 K L E) (h4 : F4 K E) (hE : ¬ E d k = 0) (hi : E d k / 32 = i) (hke : K e = 2) (hk' : k' < 16) (hE' : E e k' = 0) (hv : v / 32 = i) (hin : K i = 2 → ∃ n, ∀ (E' : Nat → Nat → Nat), (∀ q, K q = 2 → ¬ q = i → up E' q = up E q) → rch E' n e) : F3 K L (sE (sE E e k' v) d k 0) ∧ F4 K (sE (sE E e k' v) d k 0) := by
  obtain ⟨c1, c2, c3, c4, c5, c6, c7, c8, c9, c10, c11⟩ := Cn_erase hd hS hK h3 hE hi
  obtain ⟨a1, a2, a3, a4⟩ := h3
  have he2 := hK e (by omega)
  have hne : ¬ (d = e ∧ k = k') := fun z => by
    obtain ⟨rfl, rfl⟩ := z
    exact hE hE'
  have hdk : sE E e k' v d k = E d k := sE_n hne
  have hC : ∀ j, 1 ≤ j → Cn (sE (sE E e k' v) d k 0) j = Cn E j := fun j hj => by
    have h5 := Cn_put (E := sE E e k' v) (i := j) (v := 0) c8 c9 c10
    have h6 := Cn_put (E := E) (i := j) (v := v) he2.1 he2.2 hk'
    rw [hdk, hi] at h5
    rw [hv, hE'] at h6
    rw [bd_f (by omega : ¬ 0 / 32 = j)] at h5 h6
    omega
  have hup : ∀ q, K q = 2 → ¬ q = i → up (sE (sE E e k' v) d k 0) q = up E q := fun q hq hn => by
    have hq1 := hK q (by omega)
    rw [up_put (by rw [hdk, hi]; exact fun z => hn z.symm) (by omega), up_put (by rw [hE']; omega) (by rw [hv]; exact fun z => hn z.symm)]
  refine ⟨⟨fun j hj => ?_, a2, ?_, fun j hj h1 => ?_⟩, ?_⟩
  · rw [hC j (hK j hj).1]
    exact a1 j hj
  · rw [hC 1 (by omega)]
    exact a3
  · rw [hC j (hK j (by omega)).1]
    exact a4 j hj h1
  · by_cases c : K i = 2
    · obtain ⟨m, hm⟩ := hin c
      have hm' := hm _ hup
      have hui : up (sE (sE E e k' v) d k 0) i = e := by
        have h1 := a4 i c c4
        refine up_at (k := k') he2.1 he2.2 hk' (by rw [sE_n (fun z => hne ⟨z.1.symm, z.2.symm⟩), sE_s]; exact hv) (fun x y x1 x2 y1 h => ?_)
        by_cases q : x = d ∧ y = k
        · obtain ⟨rfl, rfl⟩ := q
          rw [sE_s] at h
          omega
        · rw [sE_n q] at h
          by_cases q2 : x = e ∧ y = k'
          · exact q2.1
          · rw [sE_n q2] at h
            exact absurd (Cn_one c2 h1 c8 c9 c10 hi x1 x2 y1 h) q
      have hri : rch (sE (sE E e k' v) d k 0) (m + 1) i := Or.inr ⟨by omega, by rw [hui]; exact hm'⟩
      have key : ∀ n p, K p = 2 → rch E n p → ∃ n', rch (sE (sE E e k' v) d k 0) n' p := by
        intro n
        induction n with
        | zero => intro p _ h; exact ⟨0, h⟩
        | succ n ih =>
          intro p hp h
          by_cases q : p = i
          · rw [q]
            exact ⟨m + 1, hri⟩
          · rcases rch_s.mp h with h | ⟨h1, h2⟩
            · exact ⟨0, h⟩
            · obtain ⟨g1, _⟩ := up_dir hd (q := p) (by omega) (rch_pos h2)
              obtain ⟨n', hn'⟩ := ih _ g1 h2
              refine ⟨n' + 1, Or.inr ⟨h1, ?_⟩⟩
              rw [hup p hp q]
              exact hn'
      intro j hj
      obtain ⟨n, hn⟩ := h4 j hj
      exact key n j hj hn
    · intro j hj
      obtain ⟨n, hn⟩ := h4 j hj
      exact ⟨n, rch_G (G := fun q => K q = 2) (fun q hq h1 h2 => ⟨hup q hq (fun z => c (z ▸ hq)), (up_dir hd (by omega) h2).1⟩) n j hj hn⟩
