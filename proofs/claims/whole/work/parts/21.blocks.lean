/-! WORLDS UP TO ORDER; blocks (a store, its journal, its copies) at any addresses -/
theorem va_P_mem {D : va_G} {cl : List vw_C} {ws ws' : va_W} {H : Heap} (h : va_P D cl ws H) (hm : ∀ q ∈ ws', q ∈ ws) : va_P D cl ws' H := by
  intro k q hq
  obtain ⟨i, hi⟩ := List.getElem?_of_mem (hm q (List.mem_of_getElem? hq))
  exact h i q hi
theorem va_D_nd {A : Nat → Prop} {ws : va_W} : va_D A ws ↔ (ws.map Prod.fst).Nodup ∧ ∀ q ∈ ws, A q.1 := by
  constructor
  · intro h
    refine ⟨?_, fun q hq => ?_⟩
    · refine List.pairwise_iff_getElem.mpr fun i j hi hj hij e => ?_
      rw [List.getElem_map, List.getElem_map] at e
      have hi' : i < ws.length := by simpa using hi
      have hj' : j < ws.length := by simpa using hj
      have := h.1 i j ws[i] ws[j] (List.getElem?_eq_getElem hi') (List.getElem?_eq_getElem hj') e
      omega
    · obtain ⟨i, hi⟩ := List.getElem?_of_mem hq
      exact h.2 i q hi
  · intro h
    refine ⟨fun i j p q hi hj e => ?_, fun k q hk => h.2 q (List.mem_of_getElem? hk)⟩
    have hp := List.pairwise_iff_getElem.mp h.1
    obtain ⟨hi1, hi2⟩ := List.getElem?_eq_some_iff.mp hi
    obtain ⟨hj1, hj2⟩ := List.getElem?_eq_some_iff.mp hj
    rcases Nat.lt_trichotomy i j with hl | hl | hl
    · exact absurd (by rw [List.getElem_map, List.getElem_map, hi2, hj2]; exact e) (hp i j (by simpa using hi1) (by simpa using hj1) hl)
    · exact hl
    · exact absurd (by rw [List.getElem_map, List.getElem_map, hi2, hj2]; exact e.symm) (hp j i (by simpa using hj1) (by simpa using hi1) hl)
theorem va_D_perm {A : Nat → Prop} {ws ws' : va_W} (h : va_D A ws) (hp : ws.Perm ws') : va_D A ws' := by
  rw [va_D_nd] at h ⊢
  exact ⟨(hp.map Prod.fst).nodup_iff.mp h.1, fun q hq => h.2 q (hp.mem_iff.mpr hq)⟩
theorem Dy.perm {g : Gp} {ws ws' : va_W} {s : State} {H : Heap} {locs : List Loc} (h : Dy g ws s H locs) (hp : ws.Perm ws') : Dy g ws' s H locs :=
  ⟨va_P_mem h.1 (fun _ hq => hp.mem_iff.mpr hq), va_D_perm h.2.1 hp, h.2.2⟩
theorem Pw.perm {g : Gp} {ws ws' : va_W} {U : State} (h : Pw g ws U) (hp : ws.Perm ws') : Pw g ws' U :=
  ⟨va_P_mem h.1 (fun _ hq => hp.mem_iff.mpr hq), va_D_perm h.2.1 hp, h.2.2⟩
theorem Dy.part {g : Gp} {A A' pl : va_W} {s : State} {H : Heap} {locs : List Loc} (h : Dy g (A ++ pl) s H locs) (is : List Nat) (hn : va_nd is = true) (hs : is.map (fun i => A[i]?) = A'.map some) : Dy g (A' ++ pl) s H locs :=
  ⟨h.1.part is hs, h.2.1.part is hn hs, h.2.2⟩
theorem cell_congr {c : ClassId} {n : Nat} {f f' : Nat → Int32} (h : ∀ i, i < n → f i = f' i) : vp_cell c (n, .inl f) = vp_cell c (n, .inl f') := by
  rw [vp_cell_i, vp_cell_i]
  unfold arrV
  congr 1
  congr 1
  funext j
  exact congrArg Value.int (h j.val j.isLt)
theorem va_P_congr {D : va_G} {cl : List vw_C} {ws : va_W} {H : Heap} {a q0 n : Nat} {c : ClassId} {f f' : Nat → Int32} (h : va_P D cl (ws.set q0 (a, .inl (c, n, .inl f))) H) (hf : ∀ i, i < n → f i = f' i) : va_P D cl (ws.set q0 (a, .inl (c, n, .inl f'))) H := by
  intro k q hq
  by_cases hk : k = q0
  · subst hk
    rw [List.getElem?_set] at hq
    by_cases hl : k < ws.length
    · rw [if_pos rfl, if_pos hl] at hq
      cases hq
      have h2 := h k (a, .inl (c, n, .inl f)) (by rw [List.getElem?_set, if_pos rfl, if_pos hl])
      show H[a]? = some (vp_cell c (n, .inl f'))
      rw [← cell_congr hf]
      exact h2
    · rw [if_pos rfl, if_neg hl] at hq
      cases hq
  · rw [List.getElem?_set_ne (fun e => hk e.symm)] at hq
    exact h k q (by rw [List.getElem?_set_ne (fun e => hk e.symm)]; exact hq)
theorem va_D_congr {A : Nat → Prop} {ws : va_W} {a q0 : Nat} {e e' : va_E} (h : va_D A (ws.set q0 (a, e))) : va_D A (ws.set q0 (a, e')) := by
  rw [va_D_nd] at h ⊢
  have hm : (ws.set q0 (a, e')).map Prod.fst = (ws.set q0 (a, e)).map Prod.fst := by rw [List.map_set, List.map_set]
  refine ⟨by rw [hm]; exact h.1, fun q hq => ?_⟩
  have h1 : q.1 ∈ (ws.set q0 (a, e)).map Prod.fst := by rw [← hm]; exact List.mem_map.mpr ⟨q, hq, rfl⟩
  obtain ⟨z, hz, hz2⟩ := List.mem_map.mp h1
  rw [← hz2]
  exact h.2 z hz
section CW
variable {p : Program} {l : Launch} {e : Env} {R : Room} {s : State} {m : MethodId} {args : Array Value} {below : List Frame} {meth : Method} {c : Code} {H : Heap} {locs : List Loc} {cells slots : Nat} {Q : State → Prop}
variable {g : Gp} {cc : ByteArray} {pc nL : Nat} {ls : Array Slot} {rest : List Value} {a : Nat} {ws ws' : va_W} {own : String}
/-- System.arraycopy of a whole row -/
theorem rCopyW {index n1 a0 t0 : Nat} {f gg : Nat → Int32} {ty : FieldType} {n : Int32} (C : Cx g p s m args meth c cc nL own) (hd : Dy g ws s H locs) (hsz : ls.size = nL) (q0 q1 : Nat) (ha0 : ws[q0]? = some (a0, .inl (gc g t0, n1, .inl f))) (ha1 : ws[q1]? = some (a, .inl (gc g t0, n1, .inl gg))) (ht : (gty g)[t0]? = some (gc g t0, ty)) (hprim : refKind ty = false)
    (hn : n.toNatClampNeg = n1) (hn0 : ¬ n < 0) (hfit : ∀ i, i < n1 → fits ty (.int (f i)) = true) (hws : ws.set q1 (a, .inl (gc g t0, n1, .inl f)) = ws') (hlk : Cond.methodLink own index arraycopyName ∈ lw_tbl)
    (hro : 1 ≤ R.frames ∧ (rest.map fun v => v.category).sum + (nativeFrameWords "java/lang/System" "arraycopy" 5 + 11) ≤ R.locals) (hdg : decode cc pc = .ok (.invokestatic index, 3))
    (kk : ∀ (H1 : Heap) (locs1 : List Loc), Dy g ws' s H1 locs1 → W p l e R s m args below meth c H1 locs1 cells slots Q (F0 m (pc + 3) ls rest)) : W p l e R s m args below meth c H locs cells slots Q (F0 m pc ls (.int n :: .int 0 :: .ref a :: .int 0 :: .ref a0 :: rest)) := by
  obtain ⟨hx, hb, hml, hown, hlocks, hts, hK, hSt, hE⟩ := C
  subst hws
  have h0 : (0 : Int32).toNatClampNeg = 0 := by decide
  refine va_copyi hx hb (hml.trans hsz.symm) hown (hts _ hlk rfl) (hts (.native arraycopyName) (mT 1004 (by decide +kernel)) rfl) (hts (.static arraycopyName) (mT 1003 (by decide +kernel)) rfl) (hts (.initialized "java/lang/System") (mT 20 (by decide +kernel)) rfl) hK hd.1 hd.2.1 hd.2.2 q0 q1 t0 t0 ha0 ha1 ht ht hprim (by decide) (by decide) hn0 (by rw [h0, hn]; omega) (by rw [h0, hn]; omega) (fun i hi => by rw [h0, Nat.zero_add]; exact hfit i (by rw [← hn]; exact hi)) hro.1 hro.2 hdg (fun H1 locs1 h1 h2 h3 => kk H1 locs1 ⟨va_P_congr h1 (fun i hi => ?_), va_D_congr h2, h3⟩)
  rw [h0, hn, pk_cpy_in (Nat.zero_le _) (by omega)]
  simp
end CW
