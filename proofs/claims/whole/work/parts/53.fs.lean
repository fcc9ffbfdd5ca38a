/-! THE FILE SYSTEM AS NUMBERS: kinds, links, sizes, numbers, entries -/
def sN (S : Nat → Nat) (d v : Nat) : Nat → Nat := fun x => if x = d then v else S x
def sE (E : Nat → Nat → Nat) (d k v : Nat) : Nat → Nat → Nat := fun x y => if x = d ∧ y = k then v else E x y
theorem sN_s {S : Nat → Nat} {d v : Nat} : sN S d v d = v := if_pos rfl
theorem sN_n {S : Nat → Nat} {d v x : Nat} (h : ¬ x = d) : sN S d v x = S x := if_neg h
theorem sE_s {E : Nat → Nat → Nat} {d k v : Nat} : sE E d k v d k = v := if_pos ⟨rfl, rfl⟩
theorem sE_n {E : Nat → Nat → Nat} {d k v x y : Nat} (h : ¬ (x = d ∧ y = k)) : sE E d k v x y = E x y := if_neg h
theorem sN_id {S : Nat → Nat} {d v : Nat} (h : S d = v) : sN S d v = S := by
  funext x
  unfold sN
  by_cases c : x = d
  · rw [if_pos c, c, h]
  · rw [if_neg c]
theorem upd_id {f : Nat → Int32} {a : Nat} {v : Int32} (h : f a = v) : upd f a v = f := by
  funext x
  by_cases c : x = a
  · subst c
    rw [pk_us, h]
  · rw [pk_un c]
/-- the words of the inodes, the bits -/
def Sa (f : Nat → Int32) (K L S : Nat → Nat) (N : Nat → Nat → Nat) : Prop :=
  (∀ i, 1 ≤ i → i < 16 → f (16 + 4 * i) = nI (K i + 16 * L i) ∧ f (16 + 4 * i + 1) = nI (S i) ∧ f (16 + 4 * i + 2) = nI (N i 0) ∧ f (16 + 4 * i + 3) = nI (N i 1)) ∧
  (∀ i, 1 ≤ i → i < 16 → ib (f 10) i = !decide (K i = 0)) ∧
  (∀ i j, ¬ N i j = 0 → tkB f (N i j) = true)
/-- the entries of the directories -/
def Sb (f : Nat → Int32) (K S : Nat → Nat) (N E : Nat → Nat → Nat) : Prop := ∀ d k, K d = 2 → k < S d → f (8 * N d (k / 8) + k % 8) = nI (E d k)
/-- kinds, sizes and numbers are as they must be -/
def Sc (K L S : Nat → Nat) (N : Nat → Nat → Nat) : Prop :=
  (∀ i, ¬ K i = 0 → 1 ≤ i ∧ i < 16) ∧ (∀ i, K i ≤ 2 ∧ S i ≤ 16) ∧ (∀ i, K i = 0 → L i = 0 ∧ S i = 0) ∧
  (∀ i j, ¬ N i j = 0 → ¬ K i = 0 ∧ j < 2 ∧ 18 ≤ N i j ∧ N i j < 48) ∧
  (∀ i j i' j', ¬ N i j = 0 → N i j = N i' j' → i = i' ∧ j = j') ∧
  (∀ i, K i = 2 → (S i = 8 ∨ S i = 16) ∧ ¬ N i 0 = 0 ∧ (¬ N i 1 = 0 ↔ S i = 16))
/-- entries are as they must be -/
def Sd (K S : Nat → Nat) (E : Nat → Nat → Nat) : Prop :=
  (∀ d k, ¬ E d k = 0 → K d = 2 ∧ k < S d) ∧ (∀ d k, ¬ E d k = 0 → 1 ≤ E d k % 32 ∧ E d k % 32 ≤ 26 ∧ ¬ K (E d k / 32) = 0) ∧
  (∀ d k l, ¬ E d k = 0 → E d k % 32 = E d l % 32 → k = l)
def Sx (f : Nat → Int32) (K L S : Nat → Nat) (N E : Nat → Nat → Nat) : Prop := Sa f K L S N ∧ Sb f K S N E ∧ Sc K L S N ∧ Sd K S E
theorem Sc_no0 {K L S : Nat → Nat} {N : Nat → Nat → Nat} (h : Sc K L S N) {i j : Nat} (hk : K i = 0) : N i j = 0 := by
  by_cases c : N i j = 0
  · exact c
  · exact absurd hk (h.2.2.2.1 i j c).1
theorem Sc_dirN {K L S : Nat → Nat} {N : Nat → Nat → Nat} (h : Sc K L S N) {d k : Nat} (hd : K d = 2) (hk : k < S d) : ¬ N d (k / 8) = 0 ∧ 18 ≤ N d (k / 8) ∧ N d (k / 8) < 48 ∧ k < 16 ∧ k / 8 < 2 := by
  obtain ⟨h1, h2, h3, h4, h5, h6⟩ := h
  obtain ⟨g1, g2, g3⟩ := h6 d hd
  have hs := (h2 d).2
  have h0 : ¬ N d (k / 8) = 0 := by
    by_cases c : k < 8
    · have : k / 8 = 0 := by omega
      rw [this]
      exact g2
    · have : k / 8 = 1 := by omega
      rw [this]
      exact g3.mpr (by omega)
  obtain ⟨-, c2, c3, c4⟩ := h4 d (k / 8) h0
  exact ⟨h0, c3, c4, by omega, c2⟩
/-- an entry is made -/
theorem Sx_put {f : Nat → Int32} {K L S : Nat → Nat} {N E : Nat → Nat → Nat} {d k v : Nat} (h : Sx f K L S N E) (hd : K d = 2) (hk : k < S d) (hv : v = 0 ∨ (1 ≤ v % 32 ∧ v % 32 ≤ 26 ∧ ¬ K (v / 32) = 0 ∧ ∀ l, ¬ l = k → ¬ E d l % 32 = v % 32)) : Sx (upd f (8 * N d (k / 8) + k % 8) (nI v)) K L S N (sE E d k v) := by
  obtain ⟨⟨a1, a2, a3⟩, hb, hc, e1, e2, e3⟩ := h
  obtain ⟨n1, n2, n3, n4, n5⟩ := Sc_dirN hc hd hk
  have hc5 := hc.2.2.2.2.1
  refine ⟨⟨fun i h1 h2 => ?_, fun i h1 h2 => ?_, fun i j hn => ?_⟩, fun d' k' h1 h2 => ?_, hc, fun d' k' hne => ?_, fun d' k' hne => ?_, fun d' k' l hne hm => ?_⟩
  · rw [pk_un (by omega), pk_un (by omega), pk_un (by omega), pk_un (by omega)]
    exact a1 i h1 h2
  · rw [pk_un (by omega)]
    exact a2 i h1 h2
  · have := a3 i j hn
    unfold tkB at this ⊢
    have hlt := (hc.2.2.2.1 i j hn).2.2.2
    rw [pk_un (by omega)]
    exact this
  · obtain ⟨m1, m2, m3, m4, m5⟩ := Sc_dirN hc h1 h2
    by_cases c : d' = d ∧ k' = k
    · obtain ⟨rfl, rfl⟩ := c
      rw [pk_us, sE_s]
    · have hne : ¬ (8 * N d' (k' / 8) + k' % 8 = 8 * N d (k / 8) + k % 8) := by
        intro e
        have e2 : N d' (k' / 8) = N d (k / 8) := by omega
        obtain ⟨q1, q2⟩ := hc5 _ _ _ _ m1 e2
        exact c ⟨q1, by omega⟩
      rw [pk_un hne, sE_n c]
      exact hb d' k' h1 h2
  · by_cases c : d' = d ∧ k' = k
    · obtain ⟨rfl, rfl⟩ := c
      exact ⟨hd, hk⟩
    · rw [sE_n c] at hne
      exact e1 d' k' hne
  · by_cases c : d' = d ∧ k' = k
    · obtain ⟨rfl, rfl⟩ := c
      rw [sE_s] at hne ⊢
      rcases hv with hv | ⟨g1, g2, g3, -⟩
      · exact absurd hv hne
      · exact ⟨g1, g2, g3⟩
    · rw [sE_n c] at hne ⊢
      exact e2 d' k' hne
  · by_cases c : d' = d ∧ k' = k
    · obtain ⟨rfl, rfl⟩ := c
      rw [sE_s] at hne hm
      rcases hv with hv | ⟨g1, g2, g3, g4⟩
      · exact absurd hv hne
      · by_cases q : l = k'
        · exact q.symm
        · rw [sE_n (fun z => q z.2)] at hm
          exact absurd hm.symm (g4 l q)
    · rw [sE_n c] at hne hm
      by_cases q : d' = d ∧ l = k
      · obtain ⟨rfl, rfl⟩ := q
        rw [sE_s] at hm
        rcases hv with hv | ⟨g1, g2, g3, g4⟩
        · have := (e2 d' k' hne).1
          rw [hv] at hm
          omega
        · exact absurd hm (g4 k' (fun z => c ⟨rfl, z⟩))
      · rw [sE_n q] at hm
        exact e3 d' k' l hne hm
/-- block b's bit -/
theorem tkB_tk {f : Nat → Int32} {b c : Nat} (hb : 18 ≤ b) (hb2 : b < 48) (hc : c < 48) : tkB (tkM f b) c = (tkB f c || decide (c = b)) := by
  unfold tkB tkM zerF
  rw [if_neg (by omega)]
  by_cases e : c / 32 = b / 32
  · rw [e, pk_us, ib_set (by omega)]
    congr 1
    exact decide_eq_decide.mpr ⟨fun h => by omega, fun h => by omega⟩
  · rw [pk_un (by omega)]
    have : ¬ c = b := fun h => e (by rw [h])
    simp [this]
theorem tkB_fr {f : Nat → Int32} {b c : Nat} (hb2 : b < 48) (hc : c < 48) : tkB (frM f b) c = (tkB f c && !decide (c = b)) := by
  unfold tkB frM
  by_cases e : c / 32 = b / 32
  · rw [e, pk_us, show (-nI 1) = (-1 : Int32) from rfl, ib_clr (by omega)]
    congr 2
    exact decide_eq_decide.mpr ⟨fun h => by omega, fun h => by omega⟩
  · rw [pk_un (by omega)]
    have : ¬ c = b := fun h => e (by rw [h])
    simp [this]
theorem tkM_z {f : Nat → Int32} {b q : Nat} (h1 : 8 * b ≤ q) (h2 : q < 8 * b + 8) : tkM f b q = nI 0 := if_pos ⟨h1, h2⟩
theorem tkM_o {f : Nat → Int32} {b q : Nat} (hb : 18 ≤ b) (h1 : 10 ≤ q) (h2 : q < 8 * b ∨ 8 * b + 8 ≤ q) (hb2 : b < 48) : tkM f b q = f q := by
  unfold tkM zerF
  rw [if_neg (by omega), pk_un (by omega)]
theorem frM_o {f : Nat → Int32} {b q : Nat} (hb2 : b < 48) (h1 : 10 ≤ q) : frM f b q = f q := by
  unfold frM
  rw [pk_un (by omega)]
/-- another link count -/
theorem Sx_links {f : Nat → Int32} {K L S : Nat → Nat} {N E : Nat → Nat → Nat} {i l : Nat} (h : Sx f K L S N E) (hi : ¬ K i = 0) : Sx (upd f (16 + 4 * i) (nI (K i + 16 * l))) K (sN L i l) S N E := by
  obtain ⟨⟨a1, a2, a3⟩, hb, hc, hd⟩ := h
  have hi2 := hc.1 i hi
  refine ⟨⟨fun j h1 h2 => ?_, fun j h1 h2 => ?_, fun j k hn => ?_⟩, fun d k h1 h2 => ?_, ⟨hc.1, hc.2.1, fun j hj => ?_, hc.2.2.2⟩, hd⟩
  · obtain ⟨g1, g2, g3, g4⟩ := a1 j h1 h2
    by_cases c : j = i
    · subst c
      rw [pk_us, pk_un (by omega), pk_un (by omega), pk_un (by omega), sN_s]
      exact ⟨rfl, g2, g3, g4⟩
    · rw [pk_un (by omega), pk_un (by omega), pk_un (by omega), pk_un (by omega), sN_n c]
      exact ⟨g1, g2, g3, g4⟩
  · rw [pk_un (by omega)]
    exact a2 j h1 h2
  · have := a3 j k hn
    unfold tkB at this ⊢
    have hlt := (hc.2.2.2.1 j k hn).2.2.2
    rw [pk_un (by omega)]
    exact this
  · obtain ⟨m1, m2, m3, m4, m5⟩ := Sc_dirN hc h1 h2
    rw [pk_un (by omega)]
    exact hb d k h1 h2
  · have c : ¬ j = i := fun e => hi (e ▸ hj)
    rw [sN_n c]
    exact hc.2.2.1 j hj
/-- only ints of block b differ, which no directory has -/
theorem Sx_blk {f f' : Nat → Int32} {K L S : Nat → Nat} {N E : Nat → Nat → Nat} {b : Nat} (h : Sx f K L S N E) (hb : 18 ≤ b) (hN : ∀ d j, K d = 2 → ¬ N d j = b) (he : ∀ q, q < 8 * b ∨ 8 * b + 8 ≤ q → f' q = f q) : Sx f' K L S N E := by
  obtain ⟨⟨a1, a2, a3⟩, hs, hc, hd⟩ := h
  refine ⟨⟨fun j h1 h2 => ?_, fun j h1 h2 => ?_, fun j k hn => ?_⟩, fun d k h1 h2 => ?_, hc, hd⟩
  · rw [he _ (by omega), he _ (by omega), he _ (by omega), he _ (by omega)]
    exact a1 j h1 h2
  · rw [he _ (by omega)]
    exact a2 j h1 h2
  · have := a3 j k hn
    have hlt := (hc.2.2.2.1 j k hn).2.2.2
    unfold tkB at this ⊢
    rw [he _ (by omega)]
    exact this
  · obtain ⟨m1, m2, m3, m4, m5⟩ := Sc_dirN hc h1 h2
    have := hN d (k / 8) h1
    rw [he _ (by omega)]
    exact hs d k h1 h2
/-- inode i's size word, of a file -/
theorem Sx_size {f : Nat → Int32} {K L S : Nat → Nat} {N E : Nat → Nat → Nat} {i n : Nat} (h : Sx f K L S N E) (hi : K i = 1) (hn : n ≤ 16) : Sx (upd f (16 + 4 * i + 1) (nI n)) K L (sN S i n) N E := by
  obtain ⟨⟨a1, a2, a3⟩, hb, hc, hd⟩ := h
  have hi2 := hc.1 i (by omega)
  have hnd : ∀ d, K d = 2 → ¬ d = i := fun d h1 e => by rw [e] at h1; omega
  refine ⟨⟨fun j h1 h2 => ?_, fun j h1 h2 => ?_, fun j k hn => ?_⟩, fun d k h1 h2 => ?_, ⟨hc.1, fun j => ?_, fun j hj => ?_, hc.2.2.2.1, hc.2.2.2.2.1, fun j hj => ?_⟩, ⟨fun d k hne => ?_, hd.2.1, hd.2.2⟩⟩
  · obtain ⟨g1, g2, g3, g4⟩ := a1 j h1 h2
    by_cases c : j = i
    · subst c
      rw [pk_us, pk_un (by omega), pk_un (by omega), pk_un (by omega), sN_s]
      exact ⟨g1, rfl, g3, g4⟩
    · rw [pk_un (by omega), pk_un (by omega), pk_un (by omega), pk_un (by omega), sN_n c]
      exact ⟨g1, g2, g3, g4⟩
  · rw [pk_un (by omega)]
    exact a2 j h1 h2
  · have := a3 j k hn
    unfold tkB at this ⊢
    have hlt := (hc.2.2.2.1 j k hn).2.2.2
    rw [pk_un (by omega)]
    exact this
  · rw [sN_n (hnd d h1)] at h2
    obtain ⟨m1, m2, m3, m4, m5⟩ := Sc_dirN hc h1 h2
    rw [pk_un (by omega)]
    exact hb d k h1 h2
  · by_cases c : j = i
    · subst c
      rw [sN_s]
      exact ⟨(hc.2.1 j).1, hn⟩
    · rw [sN_n c]
      exact hc.2.1 j
  · have c : ¬ j = i := fun e => by rw [e] at hj; omega
    rw [sN_n c]
    exact hc.2.2.1 j hj
  · rw [sN_n (hnd j hj)]
    exact hc.2.2.2.2.2 j hj
  · have := hd.1 d k hne
    rw [sN_n (hnd d this.1)]
    exact this
