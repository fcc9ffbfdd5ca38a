/-! THROWS: what the tables say of them -/
def jKc (w : Jvm.Cond) : Bool := w.onTables && w.keepsCast
theorem pAtS_0 : (((jAt "ExtVolume" 248 "java/lang/IllegalStateException" 7 prog_12_method_2_code).filter vx_no).all fun w => decide (w ∈ lw_tbl) && jKc w) = true := by decide +kernel
theorem pAtS_1 : (((jAt "ExtVolume" 256 "java/lang/IllegalArgumentException" 7 prog_11_method_2_code).filter vx_no).all fun w => decide (w ∈ lw_tbl) && jKc w) = true := by decide +kernel
theorem pAtS_2 : (((jAt "ExtVolume" 261 "java/util/NoSuchElementException" 13 prog_22_method_4_code).filter vx_no).all fun w => decide (w ∈ lw_tbl) && jKc w) = true := by decide +kernel
theorem pAtS_3 : (((jAt "ExtVolume" 266 "java/lang/UnsupportedOperationException" 7 prog_20_method_2_code).filter vx_no).all fun w => decide (w ∈ lw_tbl) && jKc w) = true := by decide +kernel
theorem pAtS_4 : (((jAt "ExtVolume$Device" 51 "java/lang/ArithmeticException" 7 prog_9_method_2_code).filter vx_no).all fun w => decide (w ∈ lw_tbl) && jKc w) = true := by decide +kernel
/-- what a throw rests on -/
def pThP (k pc ex : Nat) : Prop := ∃ (ik is ic ix : Nat) (tx : String) (bytes : ByteArray), decode (pB k) pc = .ok (.new ik, 3) ∧ decode (pB k) (pc + 3) = .ok (.dup, 1) ∧
  ((decode (pB k) (pc + 4) = .ok (.ldc is, 2) ∧ decode (pB k) (pc + 6) = .ok (.invokespecial ic, 3) ∧ decode (pB k) (pc + 9) = .ok (.athrow, 1)) ∨ (decode (pB k) (pc + 4) = .ok (.ldc_w is, 3) ∧ decode (pB k) (pc + 7) = .ok (.invokespecial ic, 3) ∧ decode (pB k) (pc + 10) = .ok (.athrow, 1))) ∧
  Bundle.fit (pXn ex) = true ∧ Jvm.Cond.classLink (pCn (pCl k)) ik (pXn ex) ∈ lw_tbl ∧ Jvm.Cond.initialized (pXn ex) ∈ lw_tbl ∧ Jvm.Cond.stringRef (pCn (pCl k)) is tx ∈ lw_tbl ∧ (((jAt (pCn (pCl k)) ic (pXn ex) ix bytes).filter vx_no).all fun w => decide (w ∈ lw_tbl) && jKc w) = true ∧ pHx k = [] ∧
  (decode bytes 0 = .ok (.aload_n 0, 1) ∧ decode bytes 1 = .ok (.aload_n 1, 1) ∧ decode bytes 2 = .ok (.invokespecial ix, 3) ∧ decode bytes 5 = .ok (.return_, 1))
theorem pTh_25_10 : pThP 25 10 1 := ⟨244, 246, 248, 7, "not mounted", prog_12_method_2_code, by decide +kernel, by decide +kernel, Or.inl ⟨by decide +kernel, by decide +kernel, by decide +kernel⟩, by decide +kernel, pAt_mem (i := 300) (by decide +kernel), pAt_mem (i := 79) (by decide +kernel), pAt_mem (i := 577) (by decide +kernel), pAtS_0, by decide +kernel, by decide +kernel, by decide +kernel, by decide +kernel, by decide +kernel⟩
theorem pTh_26_10 : pThP 26 10 1 := ⟨244, 251, 248, 7, "mounted", prog_12_method_2_code, by decide +kernel, by decide +kernel, Or.inl ⟨by decide +kernel, by decide +kernel, by decide +kernel⟩, by decide +kernel, pAt_mem (i := 300) (by decide +kernel), pAt_mem (i := 79) (by decide +kernel), pAt_mem (i := 343) (by decide +kernel), pAtS_0, by decide +kernel, by decide +kernel, by decide +kernel, by decide +kernel, by decide +kernel⟩
theorem pTh_29_10 : pThP 29 10 0 := ⟨252, 254, 256, 7, "out of range", prog_11_method_2_code, by decide +kernel, by decide +kernel, Or.inl ⟨by decide +kernel, by decide +kernel, by decide +kernel⟩, by decide +kernel, pAt_mem (i := 623) (by decide +kernel), pAt_mem (i := 87) (by decide +kernel), pAt_mem (i := 632) (by decide +kernel), pAtS_1, by decide +kernel, by decide +kernel, by decide +kernel, by decide +kernel, by decide +kernel⟩
theorem pTh_30_4 : pThP 30 4 2 := ⟨257, 259, 261, 13, "missing", prog_22_method_4_code, by decide +kernel, by decide +kernel, Or.inr ⟨by decide +kernel, by decide +kernel, by decide +kernel⟩, by decide +kernel, pAt_mem (i := 675) (by decide +kernel), pAt_mem (i := 88) (by decide +kernel), pAt_mem (i := 684) (by decide +kernel), pAtS_2, by decide +kernel, by decide +kernel, by decide +kernel, by decide +kernel, by decide +kernel⟩
theorem pTh_31_4 : pThP 31 4 3 := ⟨262, 264, 266, 7, "unfit", prog_20_method_2_code, by decide +kernel, by decide +kernel, Or.inr ⟨by decide +kernel, by decide +kernel, by decide +kernel⟩, by decide +kernel, pAt_mem (i := 423) (by decide +kernel), pAt_mem (i := 84) (by decide +kernel), pAt_mem (i := 432) (by decide +kernel), pAtS_3, by decide +kernel, by decide +kernel, by decide +kernel, by decide +kernel, by decide +kernel⟩
theorem pTh_32_4 : pThP 32 4 1 := ⟨244, 267, 248, 7, "no room", prog_12_method_2_code, by decide +kernel, by decide +kernel, Or.inr ⟨by decide +kernel, by decide +kernel, by decide +kernel⟩, by decide +kernel, pAt_mem (i := 300) (by decide +kernel), pAt_mem (i := 79) (by decide +kernel), pAt_mem (i := 720) (by decide +kernel), pAtS_0, by decide +kernel, by decide +kernel, by decide +kernel, by decide +kernel, by decide +kernel⟩
theorem pTh_53_38 : pThP 53 38 4 := ⟨47, 49, 51, 7, "power is gone", prog_9_method_2_code, by decide +kernel, by decide +kernel, Or.inl ⟨by decide +kernel, by decide +kernel, by decide +kernel⟩, by decide +kernel, pAt_mem (i := 391) (by decide +kernel), pAt_mem (i := 83) (by decide +kernel), pAt_mem (i := 400) (by decide +kernel), pAtS_4, by decide +kernel, by decide +kernel, by decide +kernel, by decide +kernel, by decide +kernel⟩
theorem pTh_ok {k pc ex : Nat} (h : pTh k pc = some ex) : pThP k pc ex := by
  unfold pTh at h
  obtain ⟨q, h1, h2⟩ := Option.map_eq_some_iff.mp h
  have h3 := pLk h1
  simp only [pThL, List.mem_cons, List.not_mem_nil, or_false, Prod.mk.injEq] at h3
  obtain ⟨q1, q2⟩ := q
  simp only at h2 h3
  subst h2
  rcases h3 with ⟨⟨rfl, rfl⟩, rfl, -⟩ | ⟨⟨rfl, rfl⟩, rfl, -⟩ | ⟨⟨rfl, rfl⟩, rfl, -⟩ | ⟨⟨rfl, rfl⟩, rfl, -⟩ | ⟨⟨rfl, rfl⟩, rfl, -⟩ | ⟨⟨rfl, rfl⟩, rfl, -⟩ | ⟨⟨rfl, rfl⟩, rfl, -⟩
  · exact pTh_25_10
  · exact pTh_26_10
  · exact pTh_29_10
  · exact pTh_30_4
  · exact pTh_31_4
  · exact pTh_32_4
  · exact pTh_53_38
