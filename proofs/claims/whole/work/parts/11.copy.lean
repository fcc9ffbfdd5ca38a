/-! System.arraycopy of ints -/
section JCP
variable {G : jG} {k pc : Nat} {L st : List Value} {M : pMem} {nx : Nat} {ok : Bool} {r : pRes}
theorem js_copy (hG : jOk G) {j a a0 n0 n1 : Nat} {f g : Nat → Int32} {sp dp n : Int32} {q : Nat × Nat × Nat} (hd : decode (pB k) pc = .ok (.invokestatic j, 3)) (hj : pCa (pCl k) j = some (4, q)) (h0 : M a0 = some (.inl (0, n0, .inl f))) (h1 : M a = some (.inl (0, n1, .inl g)))
    (b1 : ¬ sp < 0) (b2 : ¬ dp < 0) (b3 : ¬ n < 0) (b4 : sp.toNatClampNeg + n.toNatClampNeg ≤ n0) (b5 : dp.toNatClampNeg + n.toNatClampNeg ≤ n1) (hc : pCat st ≤ 8) (hf : 1 ≤ pFr k) (hlo : 59 ≤ pLo k)
    (h : jW G k (pc + 3) L st (pSet M a (.inl (0, n1, .inl (va_cpy f g sp.toNatClampNeg dp.toNatClampNeg n.toNatClampNeg)))) nx ok r) : jW G k pc L (.int n :: .int dp :: .ref a :: .int sp :: .ref a0 :: st) M nx ok r := by
  intro p e R s m args below meth c H locs cells slots ls tc ts cx a1 a2 a3 a4 a5 a6 hH hL hl
  have hW := cx.2.2.2.2.2.2.2.2.1
  have hK := jKt hG hW
  obtain ⟨w, hw⟩ := pCa_ok hj
  simp only [pCaC, Bool.and_eq_true] at hw
  have nn : ∀ z : Int32, ¬ z < 0 → z.toInt = (z.toNatClampNeg : Int) := by
    intro z hz
    have hz0 : (0 : Int) ≤ z.toInt := by
      have := Int32.not_lt.mp hz
      simpa using Int32.le_iff_toInt_le.mp this
    show z.toInt = ((z.toInt.toNat : Nat) : Int)
    omega
  intro T hT X
  have hc0 : H[jB G + a0]? = some (vp_cell (G.a 0) (n0, .inl f)) := hH.1 a0 _ (hH.at h0)
  have hc1 : H[jB G + a]? = some (vp_cell (G.a 0) (n1, .inl g)) := hH.1 a _ (hH.at h1)
  obtain ⟨-, k0, hk0, cm0, hkk0⟩ := (hK.2 0 _ rfl).1 n0 (fun j => .int (f j))
  obtain ⟨-, k1, hk1, cm1, hkk1⟩ := (hK.2 0 _ rfl).1 n1 (fun j => .int (g j))
  obtain ⟨vm', X', step⟩ := X.arraycopy cx.1 cx.2.2.2.2.2.1 (jWord hG hW (pAt_mem hw.1.1.1) (Or.inl rfl)) (jWord hG hW (pAt_mem hw.1.2) (Or.inl rfl)) (jWord hG hW (pAt_mem hw.1.1.2) (Or.inl rfl)) (jWord hG hW (pAt_mem hw.2) (Or.inl rfl)) (src := jB G + a0) (dst := jB G + a) (cs := vp_cell (G.a 0) (n0, .inl f)) (cd := vp_cell (G.a 0) (n1, .inl g)) (srcPos := sp) (destPos := dp) (n := n) (by rw [hT]; exact hc0) (by rw [hT]; exact hc1)
    (fun _ h => by cases h) (fun _ h => by cases h) (fun h => by cases h) (fun h => by cases h) hk0 hk1 hkk0 hkk1 (by simp [refKind]) b1 b2 b3
    (by rw [nn sp b1, nn n b3]; show ¬ _ > ((arrV (G.a 0) n0 (fun j => .int (f j))).slots.size : Int); rw [arrV_size]; omega)
    (by rw [nn dp b2, nn n b3]; show ¬ _ > ((arrV (G.a 0) n1 (fun j => .int (g j))).slots.size : Int); rw [arrV_size]; omega)
    (fun vm₁ _ i hi => by
      have e : (vp_cell (G.a 0) (n0, .inl f)).slots.getD (sp.toNatClampNeg + i) .null = .int (f (sp.toNatClampNeg + i)) := by
        show (arrV (G.a 0) n0 (fun j => .int (f j))).slots.getD _ _ = _
        rw [Array.getD_eq_getD_getElem?, arrV_read _ _ (by omega)]
        rfl
      refine ⟨?_, ?_⟩
      · rw [e]
        rfl
      · rw [e]
        exact trivial)
    (g := F0 m pc ls (.int n :: .int dp :: .ref (jB G + a) :: .int sp :: .ref (jB G + a0) :: st.map (jTr G))) rfl (by rw [cx.2.2.1]; exact hL.1) (rest := st.map (jTr G)) rfl (by rw [cx.2.1]; exact hd) (Nat.le_trans hf a1)
    (by
      show 2 * 0 + ((st.map (jTr G)).map _).sum + _ ≤ _
      rw [pCat_sum]
      have hn : nativeFrameWords "java/lang/System" "arraycopy" 5 ≤ 40 := by decide +kernel
      omega)
  have e1 : copied (vp_cell (G.a 0) (n0, .inl f)) (vp_cell (G.a 0) (n1, .inl g)) sp dp n = vp_cell (G.a 0) (n1, .inl (va_cpy f g sp.toNatClampNeg dp.toNatClampNeg n.toNatClampNeg)) := va_copied (fun z => .int z) (G.a 0) (G.a 0) f g b4
  rw [e1] at X' step
  have hl1 : jB G + a < H.size := (Array.getElem?_eq_some_iff.mp hc1).1
  have hheap : ((T.setVm vm').setCell (jB G + a) (vp_cell (G.a 0) (n1, .inl (va_cpy f g sp.toNatClampNeg dp.toNatClampNeg n.toNatClampNeg)))).heap = H.setIfInBounds (jB G + a) (vp_cell (G.a 0) (n1, .inl (va_cpy f g sp.toNatClampNeg dp.toNatClampNeg n.toNatClampNeg))) := by rw [← hT]; rfl
  have oq : ∀ q : Nat, q ≠ jB G + a → (H.setIfInBounds (jB G + a) (vp_cell (G.a 0) (n1, .inl (va_cpy f g sp.toNatClampNeg dp.toNatClampNeg n.toNatClampNeg))))[q]? = H[q]? := fun q hq => by simp [Array.getElem?_setIfInBounds, Ne.symm hq]
  obtain ⟨t, c1, c2⟩ := h p e R s m args below meth c _ _ cells slots ls tc ts cx a1 a2 a3 a4 a5 a6 (hH.put h1 (show (H.setIfInBounds (jB G + a) _)[jB G + a]? = some _ by simp [Array.getElem?_setIfInBounds, hl1]) (by simp) oq) hL (fun q hq => by
      rcases List.mem_append.mp hq with h | h
      · exact hl q h
      · obtain ⟨z, -, hz⟩ := List.mem_map.mp h
        rw [← hz]
        exact Nat.le_add_right _ _) _ hheap X'
  exact ⟨t, step t c1, c2⟩
end JCP
