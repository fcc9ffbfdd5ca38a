/-! THE CALLS OF THE DEVICE AND THE JOURNAL, AS WHOLES -/
/-- the reference's numbers of what is thrown -/
def tS (t : Nat) : Nat := if t = 2 then 1 else if t = 5 then 2 else 0
section RUN
variable {d1 : cS1} {d4 : cS4} {d6 : cS6} {d9 : cS9} {e1 : rS1} {e2 : rS2} {e3 : rS3} {e4 : rS4}
theorem O_fuse {n k : Int32} (hs : RS d1 d4 d6 e1 e2 e3) : OpR tI 4 [.ref 0, .int n, .int k] 107 [.ref 13, .int n, .int k] d1 d4 d6 d9 e1 e2 e3 e4 := by
  have hs0 := hs
  obtain ⟨⟨h1, h2, h3, h4, h5, h6, h7, h8, h9, h10⟩, hw, ho, hM⟩ := hs
  have hb : noB n (-nI 1) (nI 60) = true ↔ (n < -nI 1 ∨ nI 60 < n) := by
    unfold noB
    simp only [Bool.or_eq_true, decide_eq_true_eq]
  by_cases c : n < -nI 1 ∨ nI 60 < n
  · refine ⟨1, none, d1, d4, d6, d9, ⟨⟨by omega, by decide⟩, fun z => by omega⟩, fun X nx ok Q R => ?_, fun X nx ok Q R => ⟨none, e1, e2, e3, (e4.1, e4.2.1, nI 1), ?_, rfl, ⟨fun z => by omega, vT_n (by decide +kernel)⟩, hs0⟩⟩
    · rw [q_cfuse, if_pos (hb.mpr c)]
      exact Iff.rfl
    · rw [q_rfuse, if_pos c]
  · refine ⟨0, none, (d1.1, d1.2.1, d1.2.2.1, d1.2.2.2.1, d1.2.2.2.2.1, n, k, d1.2.2.2.2.2.2.2), d4, d6, d9, ⟨⟨by omega, by decide⟩, fun _ => vT_n (by decide +kernel)⟩, fun X nx ok Q R => ?_, fun X nx ok Q R => ⟨none, (e1.1, e1.2.1, e1.2.2.1, e1.2.2.2.1, e1.2.2.2.2.1, e1.2.2.2.2.2.1, n, k, e1.2.2.2.2.2.2.2.2), e2, e3, (e4.1, e4.2.1, nI 0), ?_, rfl, ⟨fun z => rfl, vT_n (by decide +kernel)⟩, ⟨h1, h2, h3, h4, h5, h6, h7, rfl, rfl, h10⟩, hw, ho, hM⟩⟩
    · rw [q_cfuse, if_neg (fun z => c (hb.mp z))]
      exact Iff.rfl
    · rw [q_rfuse, if_neg c]
theorem O_crash (hs : RS d1 d4 d6 e1 e2 e3) : OpR tZ 5 [.ref 0] 108 [.ref 13] d1 d4 d6 d9 e1 e2 e3 e4 := by
  obtain ⟨⟨h1, h2, h3, h4, h5, h6, h7, h8, h9, h10⟩, hw, ho, hM⟩ := hs
  refine ⟨0, none, (d1.1, d1.2.1, d1.2.2.1, d1.2.2.2.1, d1.2.2.2.2.1, d1.2.2.2.2.2.1, d1.2.2.2.2.2.2.1, nI 0), d4, d6, d9, ⟨⟨by omega, by decide⟩, fun _ => vT_n (by decide +kernel)⟩, fun X nx ok Q R => ?_, fun X nx ok Q R => ⟨none, (e1.1, e1.2.1, e1.2.2.1, e1.2.2.2.1, nI 0, e1.2.2.2.2.2), e2, e3, (e4.1, e4.2.1, nI 0), ?_, rfl, ⟨fun z => rfl, vT_n (by decide +kernel)⟩, ⟨h1, h2, h3, h4, h5, h6, h7, h8, h9, rfl⟩, hw, ho, 0, by omega, rfl, fun z => by omega⟩⟩
  · rw [q_ccrash]
    exact Iff.rfl
  · rw [q_rcrash]
theorem O_raw {b i : Int32} (hs : RS d1 d4 d6 e1 e2 e3) : OpR tI 16 [.ref 0, .int b, .int i] 164 [.ref 13, .int b, .int i] d1 d4 d6 d9 e1 e2 e3 e4 := by
  have h4 : d1.1 = e1.1 := hs.1.2.2.2.1
  by_cases c : (noB b (nI 0) (nI 47) || noB i (nI 0) (nI 7)) = true
  · refine ⟨1, none, d1, d4, d6, d9, ⟨⟨by omega, by decide⟩, fun z => by omega⟩, fun X nx ok Q R => ?_, fun X nx ok Q R => ⟨some (.int (nI 0)), e1, e2, e3, (e4.1, e4.2.1, nI 1), ?_, rfl, ⟨fun z => by omega, vT_v (by decide +kernel)⟩, hs⟩⟩
    · rw [q_craw, if_pos c]
      exact Iff.rfl
    · rw [q_rraw, if_pos c]
  · refine ⟨0, some (.int (d1.1 (8 * b.toNatClampNeg + i.toNatClampNeg))), d1, d4, d6, d9, ⟨⟨by omega, by decide⟩, fun _ => vT_v (by decide +kernel)⟩, fun X nx ok Q R => ?_, fun X nx ok Q R => ⟨some (.int (e1.1 (8 * b.toNatClampNeg + i.toNatClampNeg))), e1, e2, e3, (e4.1, e4.2.1, nI 0), ?_, rfl, ⟨fun z => by rw [h4], vT_v (by decide +kernel)⟩, hs⟩⟩
    · rw [q_craw, if_neg c]
      exact Iff.rfl
    · rw [q_rraw, if_neg c]
theorem O_tamper {b i v : Int32} (hs : RS d1 d4 d6 e1 e2 e3) : OpR tT 17 [.ref 0, .int b, .int i, .int v] 165 [.ref 13, .int b, .int i, .int v] d1 d4 d6 d9 e1 e2 e3 e4 := by
  have hs0 := hs
  obtain ⟨⟨h1, h2, h3, h4, h5, h6, h7, h8, h9, h10⟩, hw, ho, m, hm2, hm, hM⟩ := hs
  have hmd : d1.2.2.2.2.2.2.2 = nI m := h10.trans hm
  by_cases c : (noB b (nI 0) (nI 47) || noB i (nI 0) (nI 7)) = true
  · refine ⟨1, none, d1, d4, d6, d9, ⟨⟨by omega, by decide⟩, fun z => by omega⟩, fun X nx ok Q R => ?_, fun X nx ok Q R => ⟨none, e1, e2, e3, (e4.1, e4.2.1, nI 1), ?_, rfl, ⟨fun z => by omega, vT_n (by decide +kernel)⟩, hs0⟩⟩
    · rw [q_ctamper hmd hm2, if_pos c]
      exact Iff.rfl
    · rw [q_rtamper hm hm2, if_pos c]
  · by_cases c0 : m = 0
    · refine ⟨0, none, (upd d1.1 (8 * b.toNatClampNeg + i.toNatClampNeg) v, upd d1.2.1 (8 * b.toNatClampNeg + i.toNatClampNeg) v, d1.2.2), d4, d6, d9, ⟨⟨by omega, by decide⟩, fun _ => vT_n (by decide +kernel)⟩, fun X nx ok Q R => ?_, fun X nx ok Q R => ⟨none, (upd e1.1 (8 * b.toNatClampNeg + i.toNatClampNeg) v, upd e1.2.1 (8 * b.toNatClampNeg + i.toNatClampNeg) v, e1.2.2), e2, e3, (e4.1, e4.2.1, nI 0), ?_, rfl, ⟨fun z => rfl, vT_n (by decide +kernel)⟩, ⟨h1, h2, h3, congrArg (fun g => upd g (8 * b.toNatClampNeg + i.toNatClampNeg) v) h4, congrArg (fun g => upd g (8 * b.toNatClampNeg + i.toNatClampNeg) v) h5, h6, h7, h8, h9, h10⟩, hw, ho, m, hm2, hm, fun z => by omega⟩⟩
      · rw [q_ctamper hmd hm2, if_neg c, if_pos c0]
        exact Iff.rfl
      · rw [q_rtamper hm hm2, if_neg c, if_pos c0]
    · refine ⟨2, none, d1, d4, d6, d9, ⟨⟨by omega, by decide⟩, fun z => by omega⟩, fun X nx ok Q R => ?_, fun X nx ok Q R => ⟨none, e1, e2, e3, (e4.1, e4.2.1, nI 2), ?_, rfl, ⟨fun z => by omega, vT_n (by decide +kernel)⟩, hs0⟩⟩
      · rw [q_ctamper hmd hm2, if_neg c, if_neg c0]
        exact Iff.rfl
      · rw [q_rtamper hm hm2, if_neg c, if_neg c0]
theorem cn_agree {w : Int32} {m : Nat} (h : RDg d1 e1 0) (hw : jnW d6 e3) (hm2 : m < 2) (hM : m = 1 → (∃ x u, jnR d6 e3 x u) ∧ e1.1 1 = nI 2 ∧ GI d4 e2 ∧ nCh e2 ≤ 6) : rcount w m e1 e2 e3 = ccount w m d1 d4 d6 := by
  obtain ⟨h1, h2, h3, h4, h5, h6, h7, h8, h9, h10⟩ := h
  have big : ∀ k, k < 12 → ¬ (4 ≤ k ∧ k ≤ 9) → ¬ (¬ nI k < nI 4 ∧ ¬ nI 9 < nI k) := by
    intro k hk hn hc
    rw [nI_ltI (by omega) (by omega), nI_ltI (by omega) (by omega)] at hc
    omega
  have sm : ∀ k, 4 ≤ k → k ≤ 9 → (¬ nI k < nI 4 ∧ ¬ nI 9 < nI k) := by
    intro k ha hb
    rw [nI_ltI (by omega) (by omega), nI_ltI (by omega) (by omega)]
    omega
  unfold rcount ccount
  by_cases a0 : w = nI 0
  · subst a0
    rw [if_pos rfl, if_neg (fun q => big 0 (by omega) (by omega) q.1)]
    unfold rcnt
    rw [if_pos rfl]
  rw [if_neg a0]
  by_cases a1 : w = nI 1
  · subst a1
    rw [if_pos rfl, if_neg (fun q => big 1 (by omega) (by omega) q.1)]
    unfold rcnt
    rw [if_neg a0, if_pos rfl]
    exact h6.symm
  rw [if_neg a1]
  by_cases a2 : w = nI 2
  · subst a2
    rw [if_pos rfl, if_neg (fun q => big 2 (by omega) (by omega) q.1)]
    unfold rcnt
    rw [if_neg a0, if_neg a1, if_pos rfl]
    exact h8.symm
  rw [if_neg a2]
  by_cases a3 : w = nI 3
  · subst a3
    rw [if_pos rfl, if_neg (fun q => big 3 (by omega) (by omega) q.1)]
    unfold rcnt
    rw [if_neg a0, if_neg a1, if_neg a2, if_pos rfl]
    exact h7.symm
  rw [if_neg a3]
  by_cases a10 : w = nI 10
  · subst a10
    rw [if_pos rfl, if_neg (fun q => big 10 (by omega) (by omega) q.1)]
    unfold rcnt
    rw [if_neg a0, if_neg a1, if_neg a2, if_neg a3, if_neg (show ¬ nI 10 = nI 4 by decide), if_neg (show ¬ nI 10 = nI 5 by decide), if_neg (show ¬ nI 10 = nI 6 by decide), if_neg (show ¬ nI 10 = nI 7 by decide), if_neg (show ¬ nI 10 = nI 8 by decide), if_neg (show ¬ nI 10 = nI 9 by decide), if_pos rfl]
    exact hw.1.symm
  rw [if_neg a10]
  by_cases a11 : w = nI 11
  · subst a11
    rw [if_pos rfl, if_neg (fun q => big 11 (by omega) (by omega) q.1)]
    unfold rcnt
    rw [if_neg a0, if_neg a1, if_neg a2, if_neg a3, if_neg (show ¬ nI 11 = nI 4 by decide), if_neg (show ¬ nI 11 = nI 5 by decide), if_neg (show ¬ nI 11 = nI 6 by decide), if_neg (show ¬ nI 11 = nI 7 by decide), if_neg (show ¬ nI 11 = nI 8 by decide), if_neg (show ¬ nI 11 = nI 9 by decide), if_neg a10, if_pos rfl]
    exact hw.2.symm
  rw [if_neg a11]
  have out : (w < nI 4 ∨ nI 9 < w) → rcnt w m e1 e2 e3 = -nI 1 := by
    intro hb
    have nk : ∀ k, 4 ≤ k → k ≤ 9 → ¬ w = nI k := by
      intro k ha hc q
      subst q
      have := sm k ha hc
      exact hb.elim this.1 this.2
    unfold rcnt
    rw [if_neg a0, if_neg a1, if_neg a2, if_neg a3, if_neg (nk 4 (by omega) (by omega)), if_neg (nk 5 (by omega) (by omega)), if_neg (nk 6 (by omega) (by omega)), if_neg (nk 7 (by omega) (by omega)), if_neg (nk 8 (by omega) (by omega)), if_neg (nk 9 (by omega) (by omega)), if_neg a10, if_neg a11]
  by_cases b1 : w < nI 4
  · rw [if_pos b1, if_neg (fun q => q.1.1 b1)]
    exact out (Or.inl b1)
  rw [if_neg b1]
  by_cases b2 : nI 9 < w
  · rw [if_pos b2, if_neg (fun q => q.1.2 b2)]
    exact out (Or.inr b2)
  rw [if_neg b2]
  by_cases c0 : m = 0
  · rw [if_pos c0, if_pos ⟨⟨b1, b2⟩, c0⟩]
  rw [if_neg c0, if_neg (fun q => c0 q.2)]
  obtain ⟨⟨x, u, hj⟩, -, hG, -⟩ := hM (by omega)
  obtain ⟨j1, j2, j3, j4, j5, j6, j7, j8, j9, j10, j11⟩ := hj
  obtain ⟨hmr, hsi, K, L, S, N, E, hx, f3, f4⟩ := hG
  have hL := F3_L hx.2.2.1 f3
  unfold rcnt ccnt
  rw [if_neg a0, if_neg a1, if_neg a2, if_neg a3]
  by_cases a4 : w = nI 4
  · rw [if_pos a4, if_pos a4]
    exact j7.symm
  rw [if_neg a4, if_neg a4]
  by_cases a5 : w = nI 5
  · rw [if_pos a5, if_pos a5]
    exact (bcL_s hmr.2.1).symm
  rw [if_neg a5, if_neg a5]
  by_cases a6 : w = nI 6
  · rw [if_pos a6, if_pos a6]
    exact (bcL_s hmr.2.2.1).symm
  rw [if_neg a6, if_neg a6]
  by_cases a7 : w = nI 7
  · rw [if_pos a7, if_pos a7, j4, j5]
  rw [if_neg a7, if_neg a7]
  by_cases a8 : w = nI 8
  · rw [if_pos a8, if_pos a8, tkN_eq hmr]
  rw [if_neg a8, if_neg a8]
  have a9 : w = nI 9 := by
    obtain ⟨j, hj, rfl⟩ := noB_f (v := w) (b := 9) (by omega) (by
      unfold noB
      simp only [Bool.or_eq_false_iff, decide_eq_false_iff_not]
      exact ⟨fun h => b1 (Int32.lt_trans h (by decide)), b2⟩)
    have n4 : ¬ j < 4 := fun q => b1 (nI_lt q (by decide))
    have : j ≠ 4 := fun q => a4 (by rw [q])
    have : j ≠ 5 := fun q => a5 (by rw [q])
    have : j ≠ 6 := fun q => a6 (by rw [q])
    have : j ≠ 7 := fun q => a7 (by rw [q])
    have : j ≠ 8 := fun q => a8 (by rw [q])
    have : j = 9 := by omega
    rw [this]
  rw [if_pos a9, hmr.1]
  exact congrArg nI (cnt_congr 15 1 0 (fun b g1 g2 => r_fin hx hL g1 (by omega)))
theorem O_count {w : Int32} (hs : RS d1 d4 d6 e1 e2 e3) : OpR tZ 19 [.ref 0, .int w] 167 [.ref 13, .int w] d1 d4 d6 d9 e1 e2 e3 e4 := by
  have hs0 := hs
  obtain ⟨hr, hw, ho, m, hm2, hm, hM⟩ := hs
  have hmd : d1.2.2.2.2.2.2.2 = nI m := hr.2.2.2.2.2.2.2.2.2.trans hm
  refine ⟨0, some (.int (ccount w m d1 d4 d6)), d1, d4, d6, d9, ⟨⟨by omega, by decide⟩, fun _ => vT_v (by decide +kernel)⟩, fun X nx ok Q R => ?_, fun X nx ok Q R => ⟨some (.int (rcount w m e1 e2 e3)), e1, e2, e3, (e4.1, e4.2.1, nI 0), ?_, rfl, ⟨fun z => by rw [cn_agree hr hw hm2 hM], vT_v (by decide +kernel)⟩, hs0⟩⟩
  · rw [q_ccount hmd hm2]
    exact Iff.rfl
  · rw [q_rcount hm hm2]
end RUN
