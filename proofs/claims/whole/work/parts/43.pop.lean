/-! THE LIBRARY'S COUNT OF BITS -/
theorem and_split {x y m M : Nat} (hx : x < 256) (hm : m < 256) : (x + 256 * y) &&& (m + 256 * M) = (x &&& m) + 256 * (y &&& M) := by
  have h1 : ((x + 256 * y) &&& (m + 256 * M)) % 2 ^ 8 = x &&& m := by
    rw [Nat.and_mod_two_pow]
    congr 1 <;> omega
  have h2 : ((x + 256 * y) &&& (m + 256 * M)) / 2 ^ 8 = y &&& M := by
    rw [Nat.and_div_two_pow]
    congr 1 <;> omega
  omega
def valL : List Nat → Nat
  | [] => 0
  | x :: t => x + 256 * valL t
def repM (m : Nat) : Nat → Nat
  | 0 => 0
  | w + 1 => m + 256 * repM m w
def pc1 (x : Nat) : Nat := x - ((x / 2) &&& 85)
def pc2 (x : Nat) : Nat := (x &&& 51) + ((x / 4) &&& 51)
def pc3 (x : Nat) : Nat := (x + x / 16) &&& 15
theorem pb1 : ∀ x, x < 256 → ∀ c, c < 2 → ((x / 2 + 128 * c) &&& 85) = ((x / 2) &&& 85) := by decide +kernel
theorem pb2 : ∀ x, x < 256 → ∀ c, c < 4 → ((x / 4 + 64 * c) &&& 51) = ((x / 4) &&& 51) := by decide +kernel
theorem pb3 : ∀ x, x < 256 → (x &&& 15) = x % 16 := by decide +kernel
theorem pl1 : ∀ t : List Nat, (∀ x ∈ t, x < 256) → valL t - ((valL t / 2) &&& repM 85 t.length) = valL (t.map pc1) := by
  intro t
  induction t with
  | nil => intro _; rfl
  | cons x t ih =>
    intro h
    have hx := h x List.mem_cons_self
    have ih' := ih (fun y hy => h y (List.mem_cons_of_mem x hy))
    show x + 256 * valL t - (((x + 256 * valL t) / 2) &&& (85 + 256 * repM 85 t.length)) = pc1 x + 256 * valL (t.map pc1)
    have e : (x + 256 * valL t) / 2 = (x / 2 + 128 * (valL t % 2)) + 256 * (valL t / 2) := by omega
    rw [e, and_split (by omega) (by decide), pb1 x hx (valL t % 2) (by omega), ← ih']
    have h1 : ((x / 2) &&& 85) ≤ x / 2 := Nat.and_le_left
    have h2 : ((valL t / 2) &&& repM 85 t.length) ≤ valL t / 2 := Nat.and_le_left
    unfold pc1
    omega
theorem pl2 : ∀ t : List Nat, (∀ x ∈ t, x < 256) → (valL t &&& repM 51 t.length) + ((valL t / 4) &&& repM 51 t.length) = valL (t.map pc2) := by
  intro t
  induction t with
  | nil => intro _; rfl
  | cons x t ih =>
    intro h
    have hx := h x List.mem_cons_self
    have ih' := ih (fun y hy => h y (List.mem_cons_of_mem x hy))
    show ((x + 256 * valL t) &&& (51 + 256 * repM 51 t.length)) + (((x + 256 * valL t) / 4) &&& (51 + 256 * repM 51 t.length)) = pc2 x + 256 * valL (t.map pc2)
    have e : (x + 256 * valL t) / 4 = (x / 4 + 64 * (valL t % 4)) + 256 * (valL t / 4) := by omega
    rw [e, and_split hx (by decide), and_split (by omega) (by decide), pb2 x hx (valL t % 4) (by omega), ← ih']
    unfold pc2
    omega
theorem valL_16 : ∀ t : List Nat, (∀ x ∈ t, x < 256 ∧ x % 16 ≤ 4 ∧ x / 16 ≤ 4) → valL t % 16 ≤ 4 := by
  intro t h
  cases t with
  | nil => exact Nat.zero_le _
  | cons x t =>
    have hx := h x List.mem_cons_self
    show (x + 256 * valL t) % 16 ≤ 4
    omega
theorem pl3 : ∀ t : List Nat, (∀ x ∈ t, x < 256 ∧ x % 16 ≤ 4 ∧ x / 16 ≤ 4) → ((valL t + valL t / 16) &&& repM 15 t.length) = valL (t.map pc3) := by
  intro t
  induction t with
  | nil => intro _; rfl
  | cons x t ih =>
    intro h
    have hx := h x List.mem_cons_self
    have ht := fun y hy => h y (List.mem_cons_of_mem x hy)
    have ih' := ih ht
    have h16 := valL_16 t ht
    show ((x + 256 * valL t + (x + 256 * valL t) / 16) &&& (15 + 256 * repM 15 t.length)) = pc3 x + 256 * valL (t.map pc3)
    have e : x + 256 * valL t + (x + 256 * valL t) / 16 = (x + x / 16 + 16 * (valL t % 16)) + 256 * (valL t + valL t / 16) := by omega
    rw [e, and_split (by omega) (by decide), ih', pb3 _ (by omega)]
    unfold pc3
    rw [pb3 _ (by omega)]
    omega
/-- the bits of a byte -/
def pc8 (x : Nat) : Nat := b2n (x.testBit 0) + b2n (x.testBit 1) + b2n (x.testBit 2) + b2n (x.testBit 3) + b2n (x.testBit 4) + b2n (x.testBit 5) + b2n (x.testBit 6) + b2n (x.testBit 7)
theorem pc_all : ∀ x, x < 256 → pc1 x < 256 ∧ pc2 (pc1 x) < 256 ∧ pc2 (pc1 x) % 16 ≤ 4 ∧ pc2 (pc1 x) / 16 ≤ 4 ∧ pc3 (pc2 (pc1 x)) = pc8 x ∧ pc8 x ≤ 8 := by decide +kernel
theorem sum4 {a0 a1 a2 a3 : Nat} (h0 : a0 ≤ 8) (h1 : a1 ≤ 8) (h2 : a2 ≤ 8) (h3 : a3 ≤ 8) : ((a0 + 256 * (a1 + 256 * (a2 + 256 * (a3 + 256 * 0))) + (a0 + 256 * (a1 + 256 * (a2 + 256 * (a3 + 256 * 0)))) / 256) % 2 ^ 32 + (a0 + 256 * (a1 + 256 * (a2 + 256 * (a3 + 256 * 0))) + (a0 + 256 * (a1 + 256 * (a2 + 256 * (a3 + 256 * 0)))) / 256) % 2 ^ 32 / 65536) % 2 ^ 32 % 2 ^ 6 = a0 + a1 + a2 + a3 := by
  have e1 : (a0 + 256 * (a1 + 256 * (a2 + 256 * (a3 + 256 * 0)))) / 256 = a1 + 256 * (a2 + 256 * a3) := by omega
  rw [e1]
  have e2 : (a0 + 256 * (a1 + 256 * (a2 + 256 * (a3 + 256 * 0))) + (a1 + 256 * (a2 + 256 * a3))) % 2 ^ 32 = (a0 + a1) + 256 * (a1 + a2) + 65536 * ((a2 + a3) + 256 * a3) := by
    rw [Nat.mod_eq_of_lt (by omega)]
    omega
  rw [e2]
  have e3 : ((a0 + a1) + 256 * (a1 + a2) + 65536 * ((a2 + a3) + 256 * a3)) / 65536 = (a2 + a3) + 256 * a3 := by omega
  rw [e3, Nat.mod_eq_of_lt (a := _ + _) (b := 2 ^ 32) (by omega)]
  omega
def tN (x : Int32) : Nat := x.toBitVec.toNat
theorem tN_lt (x : Int32) : tN x < 2 ^ 32 := x.toBitVec.isLt
theorem tN_and (x y : Int32) : tN (x &&& y) = tN x &&& tN y := by
  unfold tN
  rw [Int32.toBitVec_and, BitVec.toNat_and]
theorem tN_add (x y : Int32) : tN (x + y) = (tN x + tN y) % 2 ^ 32 := by
  unfold tN
  rw [Int32.toBitVec_add, BitVec.toNat_add]
theorem tN_sub {x y : Int32} (h : tN y ≤ tN x) : tN (x - y) = tN x - tN y := by
  have hx := tN_lt x
  unfold tN at *
  rw [Int32.toBitVec_sub, BitVec.toNat_sub]
  omega
theorem tN_shr (x : Int32) (k : Nat) (hk : k < 32) : tN (UInt32.toInt32 (x.toUInt32 >>> ((nI k).toUInt32 &&& Int32.toUInt32 31))) = tN x / 2 ^ k := pk_ushr x (nI k) k (nI_uk k hk)
theorem bcI_n (u : Int32) : bcI u = nI (pc8 (tN u % 256) + pc8 (tN u / 256 % 256) + pc8 (tN u / 65536 % 256) + pc8 (tN u / 16777216 % 256)) := by
  have hu := tN_lt u
  generalize ht : [tN u % 256, tN u / 256 % 256, tN u / 65536 % 256, tN u / 16777216 % 256] = t
  have hv : valL t = tN u := by
    rw [← ht]
    show tN u % 256 + 256 * (tN u / 256 % 256 + 256 * (tN u / 65536 % 256 + 256 * (tN u / 16777216 % 256 + 256 * 0))) = tN u
    omega
  have hb : ∀ x ∈ t, x < 256 := by
    rw [← ht]
    intro x hx
    simp only [List.mem_cons, List.not_mem_nil, or_false] at hx
    rcases hx with rfl | rfl | rfl | rfl <;> omega
  have hl : t.length = 4 := by rw [← ht]; rfl
  have m5 : tN 1431655765 = repM 85 t.length := by rw [hl]; rfl
  have m3 : tN 858993459 = repM 51 t.length := by rw [hl]; rfl
  have mf : tN 252645135 = repM 15 t.length := by rw [hl]; rfl
  have vle : ∀ s : List Nat, s.length = 4 → (∀ x ∈ s, x < 256) → valL s < 2 ^ 32 := by
    intro s hs hsb
    match s, hs, hsb with
    | [a, b, c, d], _, hsb =>
      have ha := hsb a (by simp)
      have hb := hsb b (by simp)
      have hc := hsb c (by simp)
      have hd := hsb d (by simp)
      show a + 256 * (b + 256 * (c + 256 * (d + 256 * 0))) < 2 ^ 32
      omega
  -- a
  have h1 : tN (u - (UInt32.toInt32 (u.toUInt32 >>> ((1 : Int32).toUInt32 &&& Int32.toUInt32 31)) &&& 1431655765)) = valL (t.map pc1) := by
    have e : tN (UInt32.toInt32 (u.toUInt32 >>> ((1 : Int32).toUInt32 &&& Int32.toUInt32 31)) &&& 1431655765) = (tN u / 2) &&& repM 85 t.length := by
      have s1 : tN (UInt32.toInt32 (u.toUInt32 >>> ((1 : Int32).toUInt32 &&& Int32.toUInt32 31))) = tN u / 2 := tN_shr u 1 (by decide)
      rw [tN_and, m5, s1]
    have hle : ((tN u / 2) &&& repM 85 t.length) ≤ tN u / 2 := Nat.and_le_left
    rw [tN_sub (by rw [e]; omega), e, ← hv]
    exact pl1 t hb
  dsimp only [bcI]
  generalize u - (UInt32.toInt32 (u.toUInt32 >>> ((1 : Int32).toUInt32 &&& Int32.toUInt32 31)) &&& 1431655765) = a at h1 ⊢
  have hb1 : ∀ x ∈ t.map pc1, x < 256 := by
    intro x hx
    obtain ⟨y, hy, rfl⟩ := List.mem_map.mp hx
    exact (pc_all y (hb y hy)).1
  have hl1 : (t.map pc1).length = t.length := List.length_map _
  have h2 : tN ((a &&& 858993459) + (UInt32.toInt32 (a.toUInt32 >>> ((2 : Int32).toUInt32 &&& Int32.toUInt32 31)) &&& 858993459)) = valL ((t.map pc1).map pc2) := by
    have e := pl2 (t.map pc1) hb1
    rw [hl1] at e
    have hb2 : ∀ x ∈ (t.map pc1).map pc2, x < 256 := by
      intro x hx
      obtain ⟨y, hy, rfl⟩ := List.mem_map.mp hx
      obtain ⟨z, hz, rfl⟩ := List.mem_map.mp hy
      exact (pc_all z (hb z hz)).2.1
    have hlt := vle ((t.map pc1).map pc2) (by rw [List.length_map, hl1, hl]) hb2
    have s1 : tN (UInt32.toInt32 (a.toUInt32 >>> ((2 : Int32).toUInt32 &&& Int32.toUInt32 31))) = tN a / 4 := tN_shr a 2 (by decide)
    rw [tN_add, tN_and, tN_and, m3, s1, h1, e]
    omega
  generalize (a &&& 858993459) + (UInt32.toInt32 (a.toUInt32 >>> ((2 : Int32).toUInt32 &&& Int32.toUInt32 31)) &&& 858993459) = b at h2 ⊢
  have hb2 : ∀ x ∈ (t.map pc1).map pc2, x < 256 ∧ x % 16 ≤ 4 ∧ x / 16 ≤ 4 := by
    intro x hx
    obtain ⟨y, hy, rfl⟩ := List.mem_map.mp hx
    obtain ⟨z, hz, rfl⟩ := List.mem_map.mp hy
    have := pc_all z (hb z hz)
    exact ⟨this.2.1, this.2.2.1, this.2.2.2.1⟩
  have hl2 : ((t.map pc1).map pc2).length = t.length := by rw [List.length_map, hl1]
  have h3 : tN ((b + UInt32.toInt32 (b.toUInt32 >>> ((4 : Int32).toUInt32 &&& Int32.toUInt32 31))) &&& 252645135) = valL (((t.map pc1).map pc2).map pc3) := by
    have e := pl3 ((t.map pc1).map pc2) hb2
    rw [hl2] at e
    have hlt : valL ((t.map pc1).map pc2) < 2 ^ 31 := by
      rw [← ht] at hb2 ⊢
      have g0 := hb2 (pc2 (pc1 (tN u % 256))) (by simp)
      have g1 := hb2 (pc2 (pc1 (tN u / 256 % 256))) (by simp)
      have g2 := hb2 (pc2 (pc1 (tN u / 65536 % 256))) (by simp)
      have g3 := hb2 (pc2 (pc1 (tN u / 16777216 % 256))) (by simp)
      show pc2 (pc1 (tN u % 256)) + 256 * (pc2 (pc1 (tN u / 256 % 256)) + 256 * (pc2 (pc1 (tN u / 65536 % 256)) + 256 * (pc2 (pc1 (tN u / 16777216 % 256)) + 256 * 0))) < 2 ^ 31
      omega
    have s1 : tN (UInt32.toInt32 (b.toUInt32 >>> ((4 : Int32).toUInt32 &&& Int32.toUInt32 31))) = tN b / 16 := tN_shr b 4 (by decide)
    rw [tN_and, tN_add, mf, s1, h2, Nat.mod_eq_of_lt (by omega)]
    exact e
  generalize (b + UInt32.toInt32 (b.toUInt32 >>> ((4 : Int32).toUInt32 &&& Int32.toUInt32 31))) &&& 252645135 = c at h3 ⊢
  have q0 := pc_all (tN u % 256) (by omega)
  have q1 := pc_all (tN u / 256 % 256) (by omega)
  have q2 := pc_all (tN u / 65536 % 256) (by omega)
  have q3 := pc_all (tN u / 16777216 % 256) (by omega)
  have h4 : tN c = pc8 (tN u % 256) + 256 * (pc8 (tN u / 256 % 256) + 256 * (pc8 (tN u / 65536 % 256) + 256 * (pc8 (tN u / 16777216 % 256) + 256 * 0))) := by
    rw [h3, ← ht, ← q0.2.2.2.2.1, ← q1.2.2.2.2.1, ← q2.2.2.2.2.1, ← q3.2.2.2.2.1]
    rfl
  show (c + UInt32.toInt32 (c.toUInt32 >>> ((8 : Int32).toUInt32 &&& Int32.toUInt32 31)) + UInt32.toInt32 ((c + UInt32.toInt32 (c.toUInt32 >>> ((8 : Int32).toUInt32 &&& Int32.toUInt32 31))).toUInt32 >>> ((16 : Int32).toUInt32 &&& Int32.toUInt32 31))) &&& 63 = _
  rw [pk_and _ 6 (by decide)]
  congr 1
  have h5 : tN (c + UInt32.toInt32 (c.toUInt32 >>> ((8 : Int32).toUInt32 &&& Int32.toUInt32 31))) = (tN c + tN c / 256) % 2 ^ 32 := by
    have s1 : tN (UInt32.toInt32 (c.toUInt32 >>> ((8 : Int32).toUInt32 &&& Int32.toUInt32 31))) = tN c / 256 := tN_shr c 8 (by decide)
    rw [tN_add, s1]
  generalize c + UInt32.toInt32 (c.toUInt32 >>> ((8 : Int32).toUInt32 &&& Int32.toUInt32 31)) = d at h5 ⊢
  have h6 : tN (d + UInt32.toInt32 (d.toUInt32 >>> ((16 : Int32).toUInt32 &&& Int32.toUInt32 31))) = (tN d + tN d / 65536) % 2 ^ 32 := by
    have s1 : tN (UInt32.toInt32 (d.toUInt32 >>> ((16 : Int32).toUInt32 &&& Int32.toUInt32 31))) = tN d / 65536 := tN_shr d 16 (by decide)
    rw [tN_add, s1]
  show tN (d + UInt32.toInt32 (d.toUInt32 >>> ((16 : Int32).toUInt32 &&& Int32.toUInt32 31))) % 2 ^ 6 = _
  rw [h6, h5, h4]
  exact sum4 q0.2.2.2.2.2 q1.2.2.2.2.2 q2.2.2.2.2.2 q3.2.2.2.2.2
