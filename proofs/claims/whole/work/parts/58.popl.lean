/-! THE LIBRARY'S COUNT OF A LONG'S BITS -/
theorem dv {b n r : Nat} (h : b < n) : (b + n * r) / n = r := by
  rw [Nat.add_mul_div_left _ _ (by omega), Nat.div_eq_of_lt h, Nat.zero_add]
theorem s8b {a r r' B : Nat} (h : a ≤ 8) (b : r ≤ B) (q : a + 256 * r = r') : r' ≤ 8 + 256 * B := by omega
theorem s8C {a0 a1 a2 r1 r2 r3 : Nat} (h0 : a0 ≤ 8) (b1 : r1 ≤ 2260630401189896) (q2 : a2 + 256 * r3 = r2) (q1 : a1 + 256 * r2 = r1) : (a0 + 256 * r1 + r1) % 2 ^ 64 = (a0 + a1 + 256 * (a1 + a2)) + 65536 * (r2 + r3) := by
  rw [Nat.mod_eq_of_lt (by omega)]
  omega
theorem s8D {a0 a1 a2 a3 a4 a5 a6 r2 r3 r4 r5 r6 r7 : Nat} (h0 : a0 ≤ 8) (h1 : a1 ≤ 8) (h2 : a2 ≤ 8) (b2 : r2 ≤ 8830587504648) (b3 : r3 ≤ 34494482440) (q2 : a2 + 256 * r3 = r2) (q3 : a3 + 256 * r4 = r3) (q4 : a4 + 256 * r5 = r4) (q5 : a5 + 256 * r6 = r5) (q6 : a6 + 256 * r7 = r6) : ((a0 + a1 + 256 * (a1 + a2)) + 65536 * (r2 + r3) + (r2 + r3)) % 2 ^ 64 = (a0 + a1 + a2 + a3 + 256 * (a1 + a2 + a3 + a4) + 65536 * (a2 + a3 + a4 + a5) + 16777216 * (a3 + a4 + a5 + a6)) + 4294967296 * (r4 + r5 + r6 + r7) := by
  rw [Nat.mod_eq_of_lt (by omega)]
  omega
theorem s8H {a0 a1 a2 a3 a4 a5 a6 : Nat} (h0 : a0 ≤ 8) (h1 : a1 ≤ 8) (h2 : a2 ≤ 8) (h3 : a3 ≤ 8) (h4 : a4 ≤ 8) (h5 : a5 ≤ 8) (h6 : a6 ≤ 8) : (a0 + a1 + a2 + a3 + 256 * (a1 + a2 + a3 + a4) + 65536 * (a2 + a3 + a4 + a5) + 16777216 * (a3 + a4 + a5 + a6)) < 4294967296 := by omega
theorem s8G {x r4 r5 r6 r7 : Nat} (hx : x < 4294967296) (b4 : r4 ≤ 134744072) (b5 : r5 ≤ 526344) (b6 : r6 ≤ 2056) (b7 : r7 ≤ 8) : x + 4294967296 * (r4 + r5 + r6 + r7) + (r4 + r5 + r6 + r7) < 2 ^ 64 := by omega
theorem s8E {a0 a1 a2 a3 a4 a5 a6 a7 r4 r5 r6 r7 : Nat} (q4 : a4 + 256 * r5 = r4) (q5 : a5 + 256 * r6 = r5) (q6 : a6 + 256 * r7 = r6) (q7 : a7 + 256 * 0 = r7) : (a0 + a1 + a2 + a3 + 256 * (a1 + a2 + a3 + a4) + 65536 * (a2 + a3 + a4 + a5) + 16777216 * (a3 + a4 + a5 + a6)) + 4294967296 * (r4 + r5 + r6 + r7) + (r4 + r5 + r6 + r7) = (a0 + a1 + a2 + a3 + a4 + a5 + a6 + a7) + 2 ^ 7 * (2 * (a1 + a2 + a3 + a4) + 512 * (a2 + a3 + a4 + a5) + 131072 * (a3 + a4 + a5 + a6) + 33554432 * (r4 + r5 + r6 + r7) + 2 * (r5 + r6 + r7)) := by omega
theorem s8F {x s y : Nat} (hx : x < 2 ^ 64) (he : x = s + 2 ^ 7 * y) (hs : s < 2 ^ 7) : x % 2 ^ 64 % 2 ^ 32 % 2 ^ 7 = s := by
  rw [Nat.mod_eq_of_lt hx, Nat.mod_mod_of_dvd _ (by decide), he, Nat.add_mul_mod_self_left, Nat.mod_eq_of_lt hs]
theorem s8s {a0 a1 a2 a3 a4 a5 a6 a7 : Nat} (h0 : a0 ≤ 8) (h1 : a1 ≤ 8) (h2 : a2 ≤ 8) (h3 : a3 ≤ 8) (h4 : a4 ≤ 8) (h5 : a5 ≤ 8) (h6 : a6 ≤ 8) (h7 : a7 ≤ 8) : a0 + a1 + a2 + a3 + a4 + a5 + a6 + a7 < 2 ^ 7 := by omega
theorem s8k {a0 a1 a2 : Nat} (h0 : a0 ≤ 8) (h1 : a1 ≤ 8) (h2 : a2 ≤ 8) : a0 + a1 + 256 * (a1 + a2) < 65536 := by omega
theorem s8l {a0 : Nat} (h0 : a0 ≤ 8) : a0 < 256 := by omega
theorem sum8 {a0 a1 a2 a3 a4 a5 a6 a7 V : Nat} (h0 : a0 ≤ 8) (h1 : a1 ≤ 8) (h2 : a2 ≤ 8) (h3 : a3 ≤ 8) (h4 : a4 ≤ 8) (h5 : a5 ≤ 8) (h6 : a6 ≤ 8) (h7 : a7 ≤ 8) (hV : V = a0 + 256 * (a1 + 256 * (a2 + 256 * (a3 + 256 * (a4 + 256 * (a5 + 256 * (a6 + 256 * (a7 + 256 * 0)))))))) :
    (((V + V / 256) % 2 ^ 64 + (V + V / 256) % 2 ^ 64 / 65536) % 2 ^ 64 + ((V + V / 256) % 2 ^ 64 + (V + V / 256) % 2 ^ 64 / 65536) % 2 ^ 64 / 4294967296) % 2 ^ 64 % 2 ^ 32 % 2 ^ 7 = a0 + a1 + a2 + a3 + a4 + a5 + a6 + a7 := by
  generalize q7 : a7 + 256 * 0 = r7 at hV
  generalize q6 : a6 + 256 * r7 = r6 at hV
  generalize q5 : a5 + 256 * r6 = r5 at hV
  generalize q4 : a4 + 256 * r5 = r4 at hV
  generalize q3 : a3 + 256 * r4 = r3 at hV
  generalize q2 : a2 + 256 * r3 = r2 at hV
  generalize q1 : a1 + 256 * r2 = r1 at hV
  subst hV
  have b7 : r7 ≤ 8 := s8b h7 (Nat.le_refl 0) q7
  have b6 : r6 ≤ 2056 := s8b h6 b7 q6
  have b5 : r5 ≤ 526344 := s8b h5 b6 q5
  have b4 : r4 ≤ 134744072 := s8b h4 b5 q4
  have b3 : r3 ≤ 34494482440 := s8b h3 b4 q3
  have b2 : r2 ≤ 8830587504648 := s8b h2 b3 q2
  have b1 : r1 ≤ 2260630401189896 := s8b h1 b2 q1
  rw [dv (s8l h0), s8C h0 b1 q2 q1, dv (s8k h0 h1 h2), s8D h0 h1 h2 b2 b3 q2 q3 q4 q5 q6, dv (s8H h0 h1 h2 h3 h4 h5 h6)]
  exact s8F (s8G (s8H h0 h1 h2 h3 h4 h5 h6) b4 b5 b6 b7) (s8E q4 q5 q6 q7) (s8s h0 h1 h2 h3 h4 h5 h6 h7)
def tL (x : Int64) : Nat := x.toBitVec.toNat
theorem tL_lt (x : Int64) : tL x < 2 ^ 64 := x.toBitVec.isLt
theorem tL_and (x y : Int64) : tL (x &&& y) = tL x &&& tL y := by
  unfold tL
  rw [Int64.toBitVec_and, BitVec.toNat_and]
theorem tL_add (x y : Int64) : tL (x + y) = (tL x + tL y) % 2 ^ 64 := by
  unfold tL
  rw [Int64.toBitVec_add, BitVec.toNat_add]
theorem tL_sub {x y : Int64} (h : tL y ≤ tL x) : tL (x - y) = tL x - tL y := by
  have hx := tL_lt x
  unfold tL at *
  rw [Int64.toBitVec_sub, BitVec.toNat_sub]
  omega
theorem tL_shr (x : Int64) (k : Nat) (hk : k < 64) : tL (x.toUInt64 >>> ((nI k).toInt64.toUInt64 &&& Int64.toUInt64 63)).toInt64 = tL x / 2 ^ k := by
  have h1 : (x.toUInt64 >>> ((nI k).toInt64.toUInt64 &&& Int64.toUInt64 63)).toInt64.toBitVec = x.toBitVec >>> k := by
    show (x.toUInt64 >>> ((nI k).toInt64.toUInt64 &&& Int64.toUInt64 63)).toBitVec = _
    rw [UInt64.toBitVec_shiftRight]
    show x.toBitVec >>> (((nI k).toInt64.toUInt64 &&& Int64.toUInt64 63).toBitVec % 64) = _
    rw [BitVec.ushiftRight_eq', lb_uh k hk]
  unfold tL
  rw [h1, BitVec.toNat_ushiftRight, Nat.shiftRight_eq_div_pow]
theorem tN_L (x : Int64) : tN x.toInt32 = tL x % 2 ^ 32 := by
  unfold tN tL
  show (x.toBitVec.signExtend 32).toNat = _
  rw [BitVec.signExtend_eq_setWidth_of_le _ (by decide), BitVec.toNat_setWidth]
theorem valL_lt : ∀ s : List Nat, (∀ x ∈ s, x < 256) → valL s < 256 ^ s.length := by
  intro s
  induction s with
  | nil => intro _; exact Nat.one_pos
  | cons x s ih =>
    intro h
    have h1 := h x List.mem_cons_self
    have h2 := ih (fun y hy => h y (List.mem_cons_of_mem x hy))
    show x + 256 * valL s < 256 ^ (s.length + 1)
    rw [Nat.pow_succ]
    omega
theorem bcL_n (u : Int64) : bcL u = nI (pc8 (tL u % 256) + pc8 (tL u / 2 ^ 8 % 256) + pc8 (tL u / 2 ^ 16 % 256) + pc8 (tL u / 2 ^ 24 % 256) + pc8 (tL u / 2 ^ 32 % 256) + pc8 (tL u / 2 ^ 40 % 256) + pc8 (tL u / 2 ^ 48 % 256) + pc8 (tL u / 2 ^ 56 % 256)) := by
  have hu := tL_lt u
  generalize ht : [tL u % 256, tL u / 2 ^ 8 % 256, tL u / 2 ^ 16 % 256, tL u / 2 ^ 24 % 256, tL u / 2 ^ 32 % 256, tL u / 2 ^ 40 % 256, tL u / 2 ^ 48 % 256, tL u / 2 ^ 56 % 256] = t
  have hv : valL t = tL u := by
    rw [← ht]
    show tL u % 256 + 256 * (tL u / 2 ^ 8 % 256 + 256 * (tL u / 2 ^ 16 % 256 + 256 * (tL u / 2 ^ 24 % 256 + 256 * (tL u / 2 ^ 32 % 256 + 256 * (tL u / 2 ^ 40 % 256 + 256 * (tL u / 2 ^ 48 % 256 + 256 * (tL u / 2 ^ 56 % 256 + 256 * 0))))))) = tL u
    omega
  have hb : ∀ x ∈ t, x < 256 := by
    rw [← ht]
    intro x hx
    simp only [List.mem_cons, List.not_mem_nil, or_false] at hx
    rcases hx with rfl | rfl | rfl | rfl | rfl | rfl | rfl | rfl <;> omega
  have hl : t.length = 8 := by rw [← ht]; rfl
  have m5 : tL 6148914691236517205 = repM 85 t.length := by rw [hl]; rfl
  have m3 : tL 3689348814741910323 = repM 51 t.length := by rw [hl]; rfl
  have mf : tL 1085102592571150095 = repM 15 t.length := by rw [hl]; rfl
  have vle : ∀ s : List Nat, s.length = 8 → (∀ x ∈ s, x < 256) → valL s < 2 ^ 64 := by
    intro s hs hsb
    have := valL_lt s hsb
    rw [hs] at this
    exact this
  have h1 : tL (u - ((u.toUInt64 >>> ((1 : Int32).toInt64.toUInt64 &&& Int64.toUInt64 63)).toInt64 &&& 6148914691236517205)) = valL (t.map pc1) := by
    have e : tL ((u.toUInt64 >>> ((1 : Int32).toInt64.toUInt64 &&& Int64.toUInt64 63)).toInt64 &&& 6148914691236517205) = (tL u / 2) &&& repM 85 t.length := by
      have s1 : tL (u.toUInt64 >>> ((1 : Int32).toInt64.toUInt64 &&& Int64.toUInt64 63)).toInt64 = tL u / 2 := tL_shr u 1 (by decide)
      rw [tL_and, m5, s1]
    have hle : ((tL u / 2) &&& repM 85 t.length) ≤ tL u / 2 := Nat.and_le_left
    rw [tL_sub (by rw [e]; omega), e, ← hv]
    exact pl1 t hb
  dsimp only [bcL]
  generalize u - ((u.toUInt64 >>> ((1 : Int32).toInt64.toUInt64 &&& Int64.toUInt64 63)).toInt64 &&& 6148914691236517205) = a at h1 ⊢
  have hb1 : ∀ x ∈ t.map pc1, x < 256 := by
    intro x hx
    obtain ⟨y, hy, rfl⟩ := List.mem_map.mp hx
    exact (pc_all y (hb y hy)).1
  have hl1 : (t.map pc1).length = t.length := List.length_map _
  have h2 : tL ((a &&& 3689348814741910323) + ((a.toUInt64 >>> ((2 : Int32).toInt64.toUInt64 &&& Int64.toUInt64 63)).toInt64 &&& 3689348814741910323)) = valL ((t.map pc1).map pc2) := by
    have e := pl2 (t.map pc1) hb1
    rw [hl1] at e
    have hb2 : ∀ x ∈ (t.map pc1).map pc2, x < 256 := by
      intro x hx
      obtain ⟨y, hy, rfl⟩ := List.mem_map.mp hx
      obtain ⟨z, hz, rfl⟩ := List.mem_map.mp hy
      exact (pc_all z (hb z hz)).2.1
    have hlt := vle ((t.map pc1).map pc2) (by rw [List.length_map, hl1, hl]) hb2
    have s1 : tL (a.toUInt64 >>> ((2 : Int32).toInt64.toUInt64 &&& Int64.toUInt64 63)).toInt64 = tL a / 4 := tL_shr a 2 (by decide)
    rw [tL_add, tL_and, tL_and, m3, s1, h1, e]
    omega
  generalize (a &&& 3689348814741910323) + ((a.toUInt64 >>> ((2 : Int32).toInt64.toUInt64 &&& Int64.toUInt64 63)).toInt64 &&& 3689348814741910323) = b at h2 ⊢
  have hb2 : ∀ x ∈ (t.map pc1).map pc2, x < 256 ∧ x % 16 ≤ 4 ∧ x / 16 ≤ 4 := by
    intro x hx
    obtain ⟨y, hy, rfl⟩ := List.mem_map.mp hx
    obtain ⟨z, hz, rfl⟩ := List.mem_map.mp hy
    have := pc_all z (hb z hz)
    exact ⟨this.2.1, this.2.2.1, this.2.2.2.1⟩
  have hl2 : ((t.map pc1).map pc2).length = t.length := by rw [List.length_map, hl1]
  have h3 : tL ((b + (b.toUInt64 >>> ((4 : Int32).toInt64.toUInt64 &&& Int64.toUInt64 63)).toInt64) &&& 1085102592571150095) = valL (((t.map pc1).map pc2).map pc3) := by
    have e := pl3 ((t.map pc1).map pc2) hb2
    rw [hl2] at e
    have hlt : valL ((t.map pc1).map pc2) < 2 ^ 63 := by
      have g7 : ∀ (s : List Nat) a0 a1 a2 a3 a4 a5 a6 a7, s = [a0, a1, a2, a3, a4, a5, a6, a7] → (∀ x ∈ s, x < 256 ∧ x % 16 ≤ 4 ∧ x / 16 ≤ 4) → valL s < 2 ^ 63 := by
        intro s a0 a1 a2 a3 a4 a5 a6 a7 hs hq
        subst hs
        have g0 := hq a0 (by simp)
        have g1 := hq a1 (by simp)
        have g2 := hq a2 (by simp)
        have g3 := hq a3 (by simp)
        have g4 := hq a4 (by simp)
        have g5 := hq a5 (by simp)
        have g6 := hq a6 (by simp)
        have g7 := hq a7 (by simp)
        show a0 + 256 * (a1 + 256 * (a2 + 256 * (a3 + 256 * (a4 + 256 * (a5 + 256 * (a6 + 256 * (a7 + 256 * 0))))))) < 2 ^ 63
        omega
      refine g7 ((t.map pc1).map pc2) (pc2 (pc1 (tL u % 256))) (pc2 (pc1 (tL u / 2 ^ 8 % 256))) (pc2 (pc1 (tL u / 2 ^ 16 % 256))) (pc2 (pc1 (tL u / 2 ^ 24 % 256))) (pc2 (pc1 (tL u / 2 ^ 32 % 256))) (pc2 (pc1 (tL u / 2 ^ 40 % 256))) (pc2 (pc1 (tL u / 2 ^ 48 % 256))) (pc2 (pc1 (tL u / 2 ^ 56 % 256))) ?_ hb2
      rw [← ht]
      rfl
    have s1 : tL (b.toUInt64 >>> ((4 : Int32).toInt64.toUInt64 &&& Int64.toUInt64 63)).toInt64 = tL b / 16 := tL_shr b 4 (by decide)
    rw [tL_and, tL_add, mf, s1, h2, Nat.mod_eq_of_lt (by omega)]
    exact e
  generalize (b + (b.toUInt64 >>> ((4 : Int32).toInt64.toUInt64 &&& Int64.toUInt64 63)).toInt64) &&& 1085102592571150095 = c at h3 ⊢
  have q0 := pc_all (tL u % 256) (by omega)
  have q1 := pc_all (tL u / 2 ^ 8 % 256) (by omega)
  have q2 := pc_all (tL u / 2 ^ 16 % 256) (by omega)
  have q3 := pc_all (tL u / 2 ^ 24 % 256) (by omega)
  have q4 := pc_all (tL u / 2 ^ 32 % 256) (by omega)
  have q5 := pc_all (tL u / 2 ^ 40 % 256) (by omega)
  have q6 := pc_all (tL u / 2 ^ 48 % 256) (by omega)
  have q7 := pc_all (tL u / 2 ^ 56 % 256) (by omega)
  have h4 : tL c = pc8 (tL u % 256) + 256 * (pc8 (tL u / 2 ^ 8 % 256) + 256 * (pc8 (tL u / 2 ^ 16 % 256) + 256 * (pc8 (tL u / 2 ^ 24 % 256) + 256 * (pc8 (tL u / 2 ^ 32 % 256) + 256 * (pc8 (tL u / 2 ^ 40 % 256) + 256 * (pc8 (tL u / 2 ^ 48 % 256) + 256 * (pc8 (tL u / 2 ^ 56 % 256) + 256 * 0))))))) := by
    rw [h3, ← ht, ← q0.2.2.2.2.1, ← q1.2.2.2.2.1, ← q2.2.2.2.2.1, ← q3.2.2.2.2.1, ← q4.2.2.2.2.1, ← q5.2.2.2.2.1, ← q6.2.2.2.2.1, ← q7.2.2.2.2.1]
    rfl
  have h5 : tL (c + (c.toUInt64 >>> ((8 : Int32).toInt64.toUInt64 &&& Int64.toUInt64 63)).toInt64) = (tL c + tL c / 256) % 2 ^ 64 := by
    have s1 : tL (c.toUInt64 >>> ((8 : Int32).toInt64.toUInt64 &&& Int64.toUInt64 63)).toInt64 = tL c / 256 := tL_shr c 8 (by decide)
    rw [tL_add, s1]
  generalize c + (c.toUInt64 >>> ((8 : Int32).toInt64.toUInt64 &&& Int64.toUInt64 63)).toInt64 = d at h5 ⊢
  have h6 : tL (d + (d.toUInt64 >>> ((16 : Int32).toInt64.toUInt64 &&& Int64.toUInt64 63)).toInt64) = (tL d + tL d / 65536) % 2 ^ 64 := by
    have s1 : tL (d.toUInt64 >>> ((16 : Int32).toInt64.toUInt64 &&& Int64.toUInt64 63)).toInt64 = tL d / 65536 := tL_shr d 16 (by decide)
    rw [tL_add, s1]
  generalize d + (d.toUInt64 >>> ((16 : Int32).toInt64.toUInt64 &&& Int64.toUInt64 63)).toInt64 = e at h6 ⊢
  have h7 : tL (e + (e.toUInt64 >>> ((32 : Int32).toInt64.toUInt64 &&& Int64.toUInt64 63)).toInt64) = (tL e + tL e / 4294967296) % 2 ^ 64 := by
    have s1 : tL (e.toUInt64 >>> ((32 : Int32).toInt64.toUInt64 &&& Int64.toUInt64 63)).toInt64 = tL e / 4294967296 := tL_shr e 32 (by decide)
    rw [tL_add, s1]
  generalize e + (e.toUInt64 >>> ((32 : Int32).toInt64.toUInt64 &&& Int64.toUInt64 63)).toInt64 = g at h7 ⊢
  rw [pk_and _ 7 (by decide)]
  congr 1
  show tN g.toInt32 % 2 ^ 7 = _
  rw [tN_L, h7, h6, h5]
  exact sum8 q0.2.2.2.2.2 q1.2.2.2.2.2 q2.2.2.2.2.2 q3.2.2.2.2.2 q4.2.2.2.2.2 q5.2.2.2.2.2 q6.2.2.2.2.2 q7.2.2.2.2.2 h4
theorem lb_tL {u : Int64} {i : Nat} : lb u i = (tL u).testBit i := rfl
theorem bcL_c (u : Int64) : bcL u = nI (cntF (lb u) 64 0 0) := by
  rw [bcL_n]
  congr 1
  have p0 := pc8_t (N := tL u) (s := 0)
  rw [Nat.pow_zero, Nat.div_one] at p0
  rw [p0, pc8_t (s := 8), pc8_t (s := 16), pc8_t (s := 24), pc8_t (s := 32), pc8_t (s := 40), pc8_t (s := 48), pc8_t (s := 56)]
  have hP : (fun i => (tL u).testBit i) = lb u := rfl
  rw [hP]
  have a1 := cnt_add (P := lb u) 8 56 0 0
  have a2 := cnt_add (P := lb u) 8 48 8 (cntF (lb u) 8 0 0)
  have a3 := cnt_add (P := lb u) 8 40 16 (cntF (lb u) 8 8 (cntF (lb u) 8 0 0))
  have a4 := cnt_add (P := lb u) 8 32 24 (cntF (lb u) 8 16 (cntF (lb u) 8 8 (cntF (lb u) 8 0 0)))
  have a5 := cnt_add (P := lb u) 8 24 32 (cntF (lb u) 8 24 (cntF (lb u) 8 16 (cntF (lb u) 8 8 (cntF (lb u) 8 0 0))))
  have a6 := cnt_add (P := lb u) 8 16 40 (cntF (lb u) 8 32 (cntF (lb u) 8 24 (cntF (lb u) 8 16 (cntF (lb u) 8 8 (cntF (lb u) 8 0 0)))))
  have a7 := cnt_add (P := lb u) 8 8 48 (cntF (lb u) 8 40 (cntF (lb u) 8 32 (cntF (lb u) 8 24 (cntF (lb u) 8 16 (cntF (lb u) 8 8 (cntF (lb u) 8 0 0))))))
  have c1 := cnt_c (P := lb u) 8 8 (cntF (lb u) 8 0 0)
  have c2 := cnt_c (P := lb u) 8 16 (cntF (lb u) 8 8 (cntF (lb u) 8 0 0))
  have c3 := cnt_c (P := lb u) 8 24 (cntF (lb u) 8 16 (cntF (lb u) 8 8 (cntF (lb u) 8 0 0)))
  have c4 := cnt_c (P := lb u) 8 32 (cntF (lb u) 8 24 (cntF (lb u) 8 16 (cntF (lb u) 8 8 (cntF (lb u) 8 0 0))))
  have c5 := cnt_c (P := lb u) 8 40 (cntF (lb u) 8 32 (cntF (lb u) 8 24 (cntF (lb u) 8 16 (cntF (lb u) 8 8 (cntF (lb u) 8 0 0)))))
  have c6 := cnt_c (P := lb u) 8 48 (cntF (lb u) 8 40 (cntF (lb u) 8 32 (cntF (lb u) 8 24 (cntF (lb u) 8 16 (cntF (lb u) 8 8 (cntF (lb u) 8 0 0))))))
  have c7 := cnt_c (P := lb u) 8 56 (cntF (lb u) 8 48 (cntF (lb u) 8 40 (cntF (lb u) 8 32 (cntF (lb u) 8 24 (cntF (lb u) 8 16 (cntF (lb u) 8 8 (cntF (lb u) 8 0 0)))))))
  simp only [Nat.reduceAdd, Nat.zero_add] at a1 a2 a3 a4 a5 a6 a7
  omega
/-- of a set -/
theorem bcL_s {u : Int64} {g : Nat → Int32} (h : setR u g) : bcL u = nI (cntF (mb g) 48 0 0) := by
  rw [bcL_c]
  congr 1
  have := cnt_add (P := lb u) 48 16 0 0
  simp only [Nat.reduceAdd] at this
  rw [this, cnt_none 16 48 _ (fun i h1 h2 => h.2 i h1)]
  exact cnt_congr 48 0 0 (fun i _ h2 => h.1 i (by omega))
