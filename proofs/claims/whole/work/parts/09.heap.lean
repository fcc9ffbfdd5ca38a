/-! ROWS OF THE HEAP: fields, arrays, new objects; answers -/
def jOk (G : jG) : Prop := (∀ w ∈ lw_tbl, w.before #[Value.ref G.b] G.s = true) ∧ va_K G.D pvCl (jTy G) G.s ∧ va_X G.b G.X.1 G.X.2 G.s G.s.heap ∧ G.b < jB G ∧ G.X.1 < 2 ^ 31 ∧ G.l.stackTraces = false
theorem jWord {G : jG} (hG : jOk G) {s : State} {args : Array Value} (hW : G.s.WarmedH s.vm) {w : Jvm.Cond} (hw : w ∈ lw_tbl) (hk : (w.onTables && w.keeps) = true ∨ ∃ ty, w = .arrayClass ty) : w.before args s = true := word_at hW hk (hG.1 w hw)
theorem jKt {G : jG} (hG : jOk G) {s : State} (hW : G.s.WarmedH s.vm) : va_K G.D pvCl (jTy G) s := va_K.moved hW.alike hG.2.1
theorem jLay {C : String} {T : u_T} {k : Nat} : ((u_lay C T k).onTables && (u_lay C T k).keeps) = true := by
  unfold u_lay
  split <;> first | rfl | simp [Jvm.Cond.onTables, Jvm.Cond.keeps, Jvm.Cond.steady]
theorem jWs_u {G : jG} (hG : jOk G) {s : State} {args : Array Value} (hW : G.s.WarmedH s.vm) {C : String} {T : u_T} {N : Nat} (h : ∀ w ∈ u_ws C T N, w ∈ lw_tbl) : ∀ w ∈ u_ws C T N, w.before args s = true := by
  intro w hw
  refine jWord hG hW (h w hw) (Or.inl ?_)
  obtain ⟨k, -, rfl⟩ := List.mem_map.mp hw
  exact jLay
theorem jNar {ty : FieldType} {v : Value} (h : fits ty v = true) (hp : pPrim ty = true) : narrow ty v = v := by
  cases ty with
  | boolean =>
    cases v with
    | int x =>
      have h1 : x = 0 ∨ x = 1 := by simpa [fits] using h
      rcases h1 with rfl | rfl <;> decide
    | _ => cases h
  | int => cases v <;> first | rfl | cases h
  | long => cases v <;> first | rfl | cases h
  | object n => cases v <;> first | rfl | cases h
  | array t => cases v <;> first | rfl | cases h
  | _ => cases hp
theorem jFit {G : jG} {ty : FieldType} {v : Value} (h : fits ty v = true) : fits ty (jTr G v) = true := by
  cases v with
  | ref k => cases ty <;> first | rfl | cases h
  | retAddr n => cases ty <;> cases h
  | _ => exact h
/-- a store into one cell of the memory -/
theorem jH.put {G : jG} {M : pMem} {nx a : Nat} {ok : Bool} {H H1 : Heap} {o o1 : pObj} (h : jH G M nx ok H) (ha : M a = some o) (hat : va_at G.D pvCl (jB G + a, jE G o1) H1) (hz : H1.size = H.size) (oq : ∀ q : Nat, q ≠ jB G + a → H1[q]? = H[q]?) : jH G (pSet M a o1) nx ok H1 := by
  have hlt := h.lt ha
  obtain ⟨h1, ⟨h2, h3⟩, h4, h5, h6⟩ := h
  refine ⟨fun i q hq => ?_, ⟨by rw [hz]; exact h2, fun q hq => by rw [oq q (by omega)]; exact h3 q hq⟩, fun c x hc => ?_, fun c hc => ?_, fun e => by rw [hz]; exact h6 e⟩
  · rw [← jWs_set o1 hlt] at hq
    by_cases e : i = a
    · subst e
      have hl : i < (jWs G M nx).length := by simp [jWs]; exact hlt
      rw [List.getElem?_set_self hl] at hq
      cases hq
      exact hat
    · rw [List.getElem?_set_ne (by omega)] at hq
      refine (h1 i q hq).kept (oq q.1 ?_)
      obtain ⟨x, hx⟩ := h5 a hlt
      intro e2
      exact e (jWs_D.1 i a q _ hq (jWs_at hx hlt) e2)
  · by_cases e : c = a
    · rw [e]; exact hlt
    · exact h4 c x (by simpa [pSet, e] using hc)
  · by_cases e : c = a
    · exact ⟨o1, by simp [pSet, e]⟩
    · obtain ⟨x, hx⟩ := h5 c hc
      exact ⟨x, by simp [pSet, e, hx]⟩
theorem jLoc {G : jG} {locs : List Loc} {a i : Nat} (hl : ∀ q ∈ locs, jB G ≤ q.base) : ∀ q ∈ locs ++ [(⟨jB G + a, i⟩ : Loc)], jB G ≤ q.base := by
  intro q hq
  rcases List.mem_append.mp hq with h | h
  · exact hl q h
  · rw [List.mem_singleton.mp h]
    exact Nat.le_add_right _ _
theorem W_mono {p : Program} {l : Launch} {e : Env} {R : Room} {s : State} {m : MethodId} {args : Array Value} {below : List Frame} {meth : Method} {c : Code} {H : Heap} {locs : List Loc} {cells slots : Nat} {Q Q' : State → Prop} {g : JFrame} (h : ∀ t, Q t → Q' t) (k : W p l e R s m args below meth c H locs cells slots Q g) : W p l e R s m args below meth c H locs cells slots Q' g := by
  intro T hT X
  obtain ⟨t, a, b⟩ := k T hT X
  exact ⟨t, a, h t b⟩
section JF
variable {G : jG} {k pc : Nat} {L st : List Value} {M : pMem} {nx : Nat} {ok : Bool} {r : pRes}
theorem js_getfield (hG : jOk G) {j a c i : Nat} {fs : List Value} {v : Value} (hd : decode (pB k) pc = .ok (.getfield j, 3)) (hf : pFl (pCl k) j = some (c, i)) (hM : M a = some (.inr (c, fs))) (hv : fs[i]? = some v) (h : jW G k (pc + 3) L (v :: st) M nx ok r) : jW G k pc L (.ref a :: st) M nx ok r := by
  intro p e R s m args below meth cd H locs cells slots ls tc ts cx a1 a2 a3 a4 a5 a6 hH hL hl
  have hW := cx.2.2.2.2.2.2.2.2.1
  obtain ⟨t0, t2, t3⟩ := pFl_ok hf
  obtain ⟨t1, -, -, t4, -⟩ := pC_ok c t0
  exact va_get (D := G.D) (ci := c) (v := jTr G v) (C := pCn c) (T := pTf c) (N := pSl c) (fs := fs.map (jTr G)) cx.1 cx.2.1 (jWs_u hG hW t4) (fun _ h => h) cx.2.2.2.2.2.1 (jKt hG hW) hH.1 a (hH.at hM) t1 i t2 (jWord hG hW t3 (Or.inl rfl)) (fun _ h => h) (by rw [List.getElem?_map, hv]; rfl) hd
    (h p e R s m args below meth cd H locs cells slots ls tc ts cx a1 a2 a3 a4 a5 a6 hH hL hl)
theorem js_putfield (hG : jOk G) {j a c i : Nat} {fs : List Value} {v : Value} (hd : decode (pB k) pc = .ok (.putfield j, 3)) (hf : pFl (pCl k) j = some (c, i)) (hM : M a = some (.inr (c, fs))) (hv : fits (pFt c i) v = true) (hlen : i < fs.length) (hw : pFw k c i = true) (h : jW G k (pc + 3) L st (pSet M a (.inr (c, fs.set i v))) nx ok r) : jW G k pc L (v :: .ref a :: st) M nx ok r := by
  intro p e R s m args below meth cd H locs cells slots ls tc ts cx a1 a2 a3 a4 a5 a6 hH hL hl
  have hW := cx.2.2.2.2.2.2.2.2.1
  have hown := cx.2.2.2.2.2.1
  obtain ⟨t0, t2, t3⟩ := pFl_ok hf
  obtain ⟨t1, ty, nm, t4, pr, -⟩ := pC_ok c t0
  have hts := jWs_u (args := args) hG hW t4
  have hK := jKt hG hW
  have hap := va_apart (own := pCn (pCl k)) hts (fun _ h => h) (pFt c) ty nm hK t1
  have hfit := jFit (G := G) hv
  have hn := jNar hfit (pr i t2)
  obtain ⟨q, h1, cell, q1, q2, q3, q4⟩ := hH.1 a _ (hH.at hM)
  have hr : q = (pCn c, pTf c, pSl c) := Option.some.inj (h1.symm.trans t1)
  subst hr
  obtain ⟨hS, hfc, kC, hkC, hkind⟩ := hK.1 c _ t1
  obtain ⟨cf, kf, fi, f, hi, hsl⟩ := hS i t2
  have hlay := hts _ (u_in_lay t2)
  have hst := (u_facts hfc hkC (u_lays hts (fun _ h => h) t2) hi).1
  have fin : ∀ H' : Heap, H'[jB G + a]? = some (cell.setSlot f.slot (jTr G v)) → H'.size = H.size → (∀ q, q ≠ jB G + a → H'[q]? = H[q]?) → W p G.l e R s m args below meth cd H' (locs ++ [⟨jB G + a, f.slot⟩]) cells slots (jEnd G below s r tc ts) (F0 m (pc + 3) ls (st.map (jTr G))) := by
    intro H' e1 e2 e3
    refine h p e R s m args below meth cd H' _ cells slots ls tc ts cx a1 a2 a3 a4 a5 a6 (hH.put hM ?_ e2 e3) hL (jLoc hl)
    rw [hsl] at e1
    refine ⟨_, t1, t_OB.to (V := updV (vp_V (fs.map (jTr G))) i (jTr G v)) ⟨_, e1, q2, q3, t_set q4 hap t2 _⟩ (fun z _ => ?_)⟩
    rw [vp_updV_set (by simpa using hlen)]
    simp [List.map_set]
  unfold u_lay at hlay
  by_cases hfin : (pTf c i).2.2.2 = true
  · rw [if_pos hfin] at hlay
    have hw2 : (pY k).name = "<init>" ∧ (pTf c i).1 = pCn (pCl k) := by simpa [pFw, hfin] using hw
    have hcf : m.cls = cf := by
      obtain ⟨_, _, c', _, _, _, -, -, hf', -, -, -, hown2, -⟩ := Cond.laysFinal_spec hlay
      have e1 : c' = cf := by have := hi.symm.trans hf'; simp at this; exact this.1.symm
      rw [hw2.2] at hown2
      rw [← e1]; exact Option.some.inj (hown.symm.trans hown2)
    have h6 := u_fits hfc hkC hkind (Or.inr hlay) hi (ty i t2) hn hfit
    exact W.putFinK cx.1 cx.2.1 hown (jWord hG hW t3 (Or.inl rfl)) hi hst hcf (cx.2.2.2.2.2.2.1.trans hw2.1) (by rw [q2]; exact h6) q1 q3 (by rw [hsl]; exact k2_hasslot (q4 i t2)) rfl rfl hd fin
  · rw [if_neg hfin] at hlay
    have h6 := u_store hfc hkC hkind hlay hi (ty i t2) hn hfit
    exact W.putK cx.1 cx.2.1 (f := f) ⟨hown, jWord hG hW t3 (Or.inl rfl), ⟨_, _, _, hi⟩, hst⟩ (by rw [q2]; exact h6) q1 q3 (by rw [hsl]; exact k2_hasslot (q4 i t2)) rfl rfl hd fin
end JF
