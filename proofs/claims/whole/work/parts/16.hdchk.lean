/-! HANDLERS: what the tables say of them -/
def pHiL : List (Nat × Nat × Nat × Nat × Nat × Nat) := [(180, 1, 1, 8, 1, 0), (180, 1, 4, 11, 1, 1), (181, 3, 1, 12, 2, 0), (181, 3, 3, 15, 2, 1), (181, 3, 4, 18, 2, 2), (182, 1, 1, 8, 1, 0), (182, 1, 4, 11, 1, 1), (183, 3, 0, 10, 3, 0), (184, 3, 1, 12, 2, 0), (184, 3, 4, 15, 2, 1), (185, 1, 1, 8, 1, 0), (185, 1, 4, 11, 1, 1), (186, 7, 0, 17, 5, 0), (186, 7, 1, 21, 5, 1), (186, 7, 2, 25, 5, 2), (186, 7, 3, 29, 5, 3), (186, 7, 4, 33, 5, 4), (187, 4, 0, 12, 4, 0), (187, 4, 1, 16, 4, 1), (187, 4, 2, 20, 4, 2), (187, 4, 3, 24, 4, 3), (187, 4, 4, 28, 4, 4), (188, 3, 0, 10, 3, 0), (188, 3, 1, 13, 3, 1), (188, 3, 2, 16, 3, 2), (188, 3, 3, 19, 3, 3), (188, 3, 4, 22, 3, 4), (189, 6, 0, 14, 5, 0), (189, 6, 1, 18, 5, 1), (189, 6, 2, 22, 5, 2), (189, 6, 3, 26, 5, 3), (189, 6, 4, 30, 5, 4), (190, 4, 0, 12, 4, 0), (190, 4, 1, 16, 4, 1), (190, 4, 2, 20, 4, 2), (190, 4, 3, 24, 4, 3), (190, 4, 4, 28, 4, 4), (191, 3, 0, 10, 3, 0), (191, 3, 1, 13, 3, 1), (191, 3, 2, 16, 3, 2), (191, 3, 3, 19, 3, 3), (191, 3, 4, 22, 3, 4), (192, 5, 0, 15, 4, 0), (192, 5, 1, 19, 4, 1), (192, 5, 2, 23, 4, 2), (192, 5, 3, 27, 4, 3), (193, 5, 0, 15, 4, 0), (193, 5, 1, 19, 4, 1), (193, 5, 2, 23, 4, 2), (193, 5, 3, 27, 4, 3), (194, 5, 0, 15, 4, 0), (195, 4, 0, 12, 4, 0), (195, 4, 1, 16, 4, 1), (196, 4, 0, 13, 3, 0), (196, 4, 1, 16, 3, 1)]
def pHiC (q : Nat × Nat × Nat × Nat × Nat × Nat) : Bool :=
  let k := q.1; let pc := q.2.1; let ex := q.2.2.1; let hpc := q.2.2.2.1; let j := q.2.2.2.2.1; let i := q.2.2.2.2.2; let own := pCn (pCl k)
  match (pHx k)[i]? with
  | some (a, b, h, ct) => ((pHx k).take i).all (fun z => !(decide (z.1 ≤ pc) && decide (pc < z.2.1)) || (decide (z.2.2.2 ≠ 0) && (List.range 5).any (fun x => decide (x ≠ ex) && decide (Jvm.Cond.classLink own z.2.2.2 (pXn x) ∈ lw_tbl)))) &&
      decide (a ≤ pc) && decide (pc < b) && decide (ct ≠ 0) && decide (Jvm.Cond.classLink own ct (pXn ex) ∈ lw_tbl) && decide (Jvm.Cond.castable (pXn ex) (pXn ex) ∈ lw_tbl) && decide (j < pN k) && decide (ex < 5) &&
      ((decide (hpc = h + 2) && decide (decode (pB k) h = .ok (.astore j, 2))) || (List.range 4).any (fun n => decide (n = j) && decide (hpc = h + 1) && decide (decode (pB k) h = .ok (.astore_n (Fin.ofNat 4 n), 1))))
  | none => false
theorem pHi_chk : (pHiL.all pHiC) = true := by decide +kernel
theorem pHi_all : (pHdL.all fun q => pHiL.any fun z => decide ((z.1, z.2.1, z.2.2.1) = q.1) && decide ((z.2.2.2.1, z.2.2.2.2.1) = q.2)) = true := by decide +kernel
theorem pHd_ok {k pc ex : Nat} {q : Nat × Nat} (h : pHd k pc ex = some q) : ∃ i, pHiC (k, pc, ex, q.1, q.2, i) = true := by
  unfold pHd at h
  have h1 := List.all_eq_true.mp pHi_all _ (pLk h)
  obtain ⟨z, h2, h3⟩ := List.any_eq_true.mp h1
  simp only [Bool.and_eq_true, decide_eq_true_eq] at h3
  obtain ⟨z1, z2, z3, z4, z5, z6⟩ := z
  obtain ⟨h4, h5⟩ := h3
  cases h4
  simp only at h5
  subst h5
  exact ⟨z6, List.all_eq_true.mp pHi_chk _ h2⟩
