theorem arrStart {s : State} {a : Array Value} {ty : FieldType} (h : (Cond.arrayClass ty).before a s = true) (hp : ∀ cA, s.vm.findClass ("[" ++ ty.toString) = some cA → va_RA s cA ty) : ∃ cA : ClassId, ArrOfT s cA ty ∧ va_RA s cA ty := by
  obtain ⟨c, k, comp, h1, h2, h3⟩ := Cond.arrayClass_spec h
  exact ⟨c, fun n z => ⟨fun k h => (by cases h), k, h2, comp, h3⟩, hp c h1⟩
theorem arrStartO {s : State} {a : Array Value} {C : String} (h : (Cond.arrayOver (.object C)).before a s = true) : ∃ cA : ClassId, ArrOfT s cA (.object C) ∧ va_RA s cA (.object C) := by
  obtain ⟨comp, c, k, h1, h2, h3, h4, h5⟩ := Cond.arrayOver_spec h
  exact ⟨c, fun n z => ⟨fun k h => (by cases h), k, h3, comp, h4⟩, k, comp, h3, h4, h1, h5⟩
def sl0 (g : Gp) (a : Nat) : Nat × va_E := (a, .inl (gc g 4, 3, .inr (.inr (.inr (.inr (fun _ => none))))))
theorem wD_set40 {g : Gp} {u : Nat → Nat} {σ : St} (h : ∀ i, i < 40 → u i = ga g i) : wD (setA g u) σ = wD g σ := by
  have h : ∀ i, i < 40 → ga (setA g u) i = ga g i := h
  unfold wD
  simp only [h 0 (by omega), h 1 (by omega), h 2 (by omega), h 3 (by omega), h 4 (by omega), h 5 (by omega), h 6 (by omega), h 7 (by omega), h 8 (by omega), h 9 (by omega), h 10 (by omega), h 11 (by omega), h 12 (by omega), h 13 (by omega), h 14 (by omega), h 15 (by omega), h 16 (by omega), h 17 (by omega), h 18 (by omega), h 19 (by omega), h 20 (by omega), h 21 (by omega), h 22 (by omega), h 23 (by omega), h 24 (by omega), h 25 (by omega), h 26 (by omega), h 27 (by omega), h 28 (by omega), h 29 (by omega), h 30 (by omega), h 31 (by omega), h 32 (by omega), h 33 (by omega), h 34 (by omega)]
  rfl
theorem iL_9 : LKi RL 9 yX7_init cX7_init 1 0 := ⟨mT 25 (by decide +kernel), mT 26 (by decide +kernel), mT 1 (by decide +kernel), mT 27 (by decide +kernel), ⟨by decide +kernel, by decide +kernel⟩, by decide +kernel, by decide +kernel⟩
set_option maxRecDepth 100000 in
theorem iL_12 : LKi RL 12 yX8_init cX8_init 1 0 := ⟨mT 1314 (by decide +kernel), mT 1315 (by decide +kernel), mT 13 (by decide +kernel), mT 1316 rfl, ⟨by decide +kernel, by decide +kernel⟩, by decide +kernel, by decide +kernel⟩
/-- what is left to show: over numbers alone, the class and the reference answer alike -/
def PureLaw : Prop := ∀ (L : Nat) (xs : Nat → Int32), L ≤ 3072 → ∃ (F n : Nat) (τ0 : St), f_X8_init F m0 = some τ0 ∧ f_law F L xs n 0 s0 τ0 (fun _ => false) (fun _ => s0) = some 1
set_option maxRecDepth 100000 in
set_option maxHeartbeats 8000000 in
theorem start_open (hpure : PureLaw) {p : Program} {e : Env} {s : State} {m : MethodId} {below : List Frame} {meth : Method} {c : Code} (l : Launch) {b L : Nat} {xs : Nat → Int32} (hL : L ≤ 3072) (C0 : lw_At p s m meth c b L xs) : W p l e room_1 s m #[Value.ref b] below meth c s.heap [] 0 0 (lw_Z below #[Value.ref b] s) (entryFrame m ([Value.ref b] : List Value).toArray 4) := by
  obtain ⟨hx, hb, hr, hml, hown, hts, hX, hbl, hlocks, hgv⟩ := C0
  obtain ⟨F, n, τ0, hini, hlaw⟩ := hpure L xs hL
  obtain ⟨c0, i0, hKn0⟩ := u_known (C := RJ4) (T := TJ4) (N := 4) (n := 4) hts (fun w h => (inJ4 w h).1) (hts (.instantiable RJ4 4) (mT 283 (by decide +kernel)))
  obtain ⟨c1, i1, hKn1⟩ := u_known (C := RX0) (T := TX0) (N := 9) (n := 9) hts (fun w h => (inX0 w h).1) (hts (.instantiable RX0 9) (mT 84 (by decide +kernel)))
  obtain ⟨c2, i2, hKn2⟩ := u_known (C := RX1) (T := TX1) (N := 7) (n := 7) hts (fun w h => (inX1 w h).1) (hts (.instantiable RX1 7) (mT 206 (by decide +kernel)))
  obtain ⟨c3, i3, hKn3⟩ := u_known (C := RX2) (T := TX2) (N := 11) (n := 11) hts (fun w h => (inX2 w h).1) (hts (.instantiable RX2 11) (mT 38 (by decide +kernel)))
  obtain ⟨c4, i4, hKn4⟩ := u_known (C := RX3) (T := TX3) (N := 12) (n := 12) hts (fun w h => (inX3 w h).1) (hts (.instantiable RX3 12) (mT 137 (by decide +kernel)))
  obtain ⟨c5, i5, hKn5⟩ := u_known (C := RX4) (T := TX4) (N := 11) (n := 11) hts (fun w h => (inX4 w h).1) (hts (.instantiable RX4 11) (mT 239 (by decide +kernel)))
  obtain ⟨c6, i6, hKn6⟩ := u_known (C := RX5) (T := TX5) (N := 3) (n := 3) hts (fun w h => (inX5 w h).1) (hts (.instantiable RX5 3) (mT 32 (by decide +kernel)))
  obtain ⟨c7, i7, hKn7⟩ := u_known (C := RX6) (T := TX6) (N := 4) (n := 4) hts (fun w h => (inX6 w h).1) (hts (.instantiable RX6 4) (mT 186 (by decide +kernel)))
  obtain ⟨c8, i8, hKn8⟩ := u_known (C := RX7) (T := TX7) (N := 15) (n := 15) hts (fun w h => (inX7 w h).1) (hts (.instantiable RX7 15) (mT 24 (by decide +kernel)))
  obtain ⟨c9, i9, hKn9⟩ := u_known (C := RX8) (T := TX8) (N := 42) (n := 42) hts (fun w h => (inX8 w h).1) (hts (.instantiable RX8 42) (mT 1313 (by decide +kernel)))
  obtain ⟨dC, dI, hKc⟩ : ∃ (dC : Nat → ClassId) (dI : Nat → Nat → Nat), ∀ (k : Nat) (q : vw_C), vwCl[k]? = some q → u_Kn s q.1 q.2.1 q.2.2 (dC k) (dI k) := by
    refine ⟨fun k => if k = 0 then c0 else if k = 1 then c1 else if k = 2 then c2 else if k = 3 then c3 else if k = 4 then c4 else if k = 5 then c5 else if k = 6 then c6 else if k = 7 then c7 else if k = 8 then c8 else c9, fun k => if k = 0 then i0 else if k = 1 then i1 else if k = 2 then i2 else if k = 3 then i3 else if k = 4 then i4 else if k = 5 then i5 else if k = 6 then i6 else if k = 7 then i7 else if k = 8 then i8 else i9, ?_⟩
    intro k q hq
    match k, hq with
    | 0, hq => cases hq; exact hKn0
    | 1, hq => cases hq; exact hKn1
    | 2, hq => cases hq; exact hKn2
    | 3, hq => cases hq; exact hKn3
    | 4, hq => cases hq; exact hKn4
    | 5, hq => cases hq; exact hKn5
    | 6, hq => cases hq; exact hKn6
    | 7, hq => cases hq; exact hKn7
    | 8, hq => cases hq; exact hKn8
    | 9, hq => cases hq; exact hKn9
    | k + 10, hq => simp [vwCl] at hq
  obtain ⟨y0, hy0, ry0⟩ := arrStart (ty := .byte) (hts _ (mT 82 (by decide +kernel))) (fun _ h => h)
  obtain ⟨y1, hy1, ry1⟩ := arrStart (ty := .int) (hts _ (mT 81 (by decide +kernel))) (fun _ h => h)
  obtain ⟨y2, hy2, ry2⟩ := arrStart (ty := .long) (hts _ (mT 1459 (by decide +kernel))) (fun _ h => h)
  obtain ⟨y3, hy3, ry3⟩ := arrStart (ty := .boolean) (hts _ (mT 1460 (by decide +kernel))) (fun _ h => h)
  obtain ⟨y4, hy4, ry4⟩ := arrStartO (C := "RestoreDesk$Store") (hts _ (mT 184 (by decide +kernel)))
  obtain ⟨adK, adV, hstr, hev⟩ := strStart hgv
  obtain ⟨g, hg⟩ : ∃ g : Gp, g = ((dC, dI), (fun k => if k = 0 then y0 else if k = 1 then y1 else if k = 2 then y2 else if k = 3 then y3 else y4), (fun i => if i < 106 then adK (i - 100) else adV (i - 110)), s.heap.size, s, #[Value.ref b]) := ⟨_, rfl⟩
  have gz : g.2.2.2.1 = s.heap.size := by rw [hg]
  have gs : gu g = s := by rw [hg]
  have hK : va_K g.1 vwCl (gty g) s := by
    subst hg
    refine ⟨hKc, fun k q h => ?_⟩
    match k, h with
    | 0, h => cases h; exact ⟨hy0, ry0⟩
    | 1, h => cases h; exact ⟨hy1, ry1⟩
    | 2, h => cases h; exact ⟨hy2, ry2⟩
    | 3, h => cases h; exact ⟨hy3, ry3⟩
    | 4, h => cases h; exact ⟨hy4, ry4⟩
    | k + 5, h => simp at h
  have hE : E0 g := by
    subst hg
    refine ⟨hts, hgv, hK, rfl, ?_, fun i hi => ?_⟩
    · refine vk_S_congr hstr (fun i hi => ?_) (fun i hi => ?_)
      · show (if 100 + i < 106 then adK (100 + i - 100) else adV (100 + i - 110)) = adK i
        rw [if_pos (by omega)]
        congr 1
        omega
      · show (if 110 + i < 106 then adK (110 + i - 100) else adV (110 + i - 110)) = adV i
        rw [if_neg (by omega)]
        congr 1
        omega
    · have e1 : (if 100 + i < 106 then adK (100 + i - 100) else adV (100 + i - 110)) = adK i := by
        rw [if_pos (by omega)]
        congr 1
        omega
      show _ = some (Value.ref (if 100 + i < 106 then adK (100 + i - 100) else adV (100 + i - 110)))
      rw [e1]
      exact hev i hi
  have hSt : Sta g s := ⟨by rw [gs]; exact State.WarmedH.refl s, by rw [gz]; exact Nat.le_refl _, fun q _ => by rw [gs]⟩
  have C : Cx g p s m #[Value.ref b] meth c code 4 RL := ⟨hx, hb, hml, hown, hlocks, fun w hw _ => hts w hw, hK, hSt, hE⟩
  clear hg
  have hd : Dy g (([] : va_W) ++ []) s s.heap [] := ⟨fun k q h => by simp at h, ⟨fun i j p q h => by simp at h, fun k q h => by simp at h⟩, va_S.rf⟩
  have hl := lv_entry ([.ref b]) (n := 4) (Nat.le_of_ble_eq_true rfl)
  rw [lg_entry_eq]
  generalize (lg_sl ([.ref b]) ++ List.replicate (4 - (lg_sl ([.ref b])).length) Slot.unset).toArray = ls at hl ⊢
  have hl : lv_has ls 4 [(0, .ref b)] := hl
  refine rNew (Cn := RX7) (T := TX7) (N := 15) (ci := 8) (fs := [.null, .null, .null, .null, .null, .int 0, .null, .int 0, .int 0, .int 0, .null, .null, .null, .null, .null]) (A := []) C hd rfl inX7 tyX7 tyX7_ok (mT 23 (by decide +kernel)) (mT 24 (by decide +kernel)) (mT 1 (by decide +kernel)) (by decide +kernel) (Nat.le_of_ble_eq_true rfl) (Nat.le_of_ble_eq_true rfl) dL_law_0 (fun q1 H hd => ?_)
  refine lv_dup hx hb dL_law_3 rfl ?_
  refine rCallN C hd (c_X7_init hE) iL_9 rfl hl.1 rfl (Nat.le_of_ble_eq_true rfl) ⟨Nat.le_of_ble_eq_true rfl, Nat.le_of_ble_eq_true rfl⟩ ⟨Nat.le_of_ble_eq_true rfl, Nat.le_of_ble_eq_true rfl⟩ dL_law_4 (fun b1 H locs hp1 hd => ?_)
  obtain ⟨e1, p1⟩ := hp1
  refine lv_astore_n (lv' := [(1, .ref q1), (0, .ref b)]) hx hb dL_law_7 rfl hl (Nat.le_of_ble_eq_true rfl) rfl (fun ls hl => ?_)
  have C1 : Cx (setA g b1) p s m #[Value.ref b] meth c code 4 RL := C.set2 (fun i h1 h2 => p1 i (by omega))
  have hE1 := C1.2.2.2.2.2.2.2.2
  have hd : Dy (setA g b1) (([] : va_W) ++ (wD (setA g b1) s0 ++ [sl0 g (b1 34)])) s H locs := hd
  refine rNew (g := setA g b1) (Cn := RX8) (T := TX8) (N := 42) (ci := 9) (fs := [.int 0, .null, .int 0, .null, .int 0, .null, .null, .null, .null, .null, .int 0, .int 0, .int 0, .int 0, .int 0, .int 0, .int 0, .int 0, .int 0, .null, .null, .null, .null, .int 0, .null, .int 0, .null, .null, .null, .int 0, .null, .null, .null, .null, .int 0, .int 0, .int 0, .null, .null, .int 0, .null, .null]) (A := []) (X := wD (setA g b1) s0 ++ [sl0 g (b1 34)]) C1 hd rfl inX8 tyX8 tyX8_ok (mT 1312 (by decide +kernel)) (mT 1313 (by decide +kernel)) (mT 13 (by decide +kernel)) (by decide +kernel) (Nat.le_of_ble_eq_true rfl) (Nat.le_of_ble_eq_true rfl) dL_law_8 (fun q2 H hd => ?_)
  refine lv_dup hx hb dL_law_11 rfl ?_
  refine rCallN C1 hd (c_X8_init hE1 hini) iL_12 rfl hl.1 rfl (Nat.le_of_ble_eq_true rfl) ⟨Nat.le_of_ble_eq_true rfl, Nat.le_of_ble_eq_true rfl⟩ ⟨Nat.le_of_ble_eq_true rfl, Nat.le_of_ble_eq_true rfl⟩ dL_law_12 (fun b2 H locs hp2 hd => ?_)
  obtain ⟨e2, p2⟩ := hp2
  refine lv_astore_n (lv' := [(2, .ref q2), (1, .ref q1), (0, .ref b)]) hx hb dL_law_15 rfl hl (Nat.le_of_ble_eq_true rfl) rfl (fun ls hl => ?_)
  refine lv_iconst (v := nI 0) hx hb dL_law_16 (by decide) ?_
  refine lv_istore_n (lv' := [(3, .int (nI 0)), (2, .ref q2), (1, .ref q1), (0, .ref b)]) hx hb dL_law_17 rfl hl (Nat.le_of_ble_eq_true rfl) rfl (fun ls hl => ?_)
  have C2 : Cx (setA (setA g b1) b2) p s m #[Value.ref b] meth c code 4 RL := C1.set2 (fun i h1 h2 => p2 i (by omega))
  have CL : LC (setA (setA g b1) b2) p s m b L xs meth c := ⟨C2, gz, hX, hbl⟩
  have hl : lv_has ls 4 [(0, .ref b), (1, .ref (ga (setA (setA g b1) b2) 0)), (2, .ref (ga (setA (setA g b1) b2) 40)), (3, .int (nI (6 * 0)))] := by
    rw [show ga (setA (setA g b1) b2) 0 = q1 from (p2 0 (by omega)).trans e1, show ga (setA (setA g b1) b2) 40 = q2 from e2]
    exact lv_sub hl [3, 2, 1, 0] rfl
  have hd : Dy (setA (setA g b1) b2) (wD (setA (setA g b1) b2) s0 ++ (slW (setA (setA g b1) b2) (fun _ => false) (fun _ => s0) ++ wM (setA (setA g b1) b2) τ0)) s H locs := by
    rw [wD_set40 (g := setA g b1) (fun i hi => p2 i (Or.inl hi))]
    rw [show slW (setA (setA g b1) b2) (fun _ => false) (fun _ => s0) = [sl0 g (b1 34)] from by
      show (b2 34, _) :: _ = _
      rw [show b2 34 = b1 34 from p2 34 (by omega)]
      rfl]
    have hd : Dy (setA (setA g b1) b2) (wM (setA (setA g b1) b2) τ0 ++ (wD (setA g b1) s0 ++ [sl0 g (b1 34)])) s H locs := hd
    exact Dy.perm (ws := wM (setA (setA g b1) b2) τ0 ++ (wD (setA g b1) s0 ++ [sl0 g (b1 34)])) hd wl_perm.symm
  refine W.widen (k := 100 + 17 * 0) (n := 50000 + 3085 * 0) (Nat.le_of_ble_eq_true rfl) (Nat.le_of_ble_eq_true rfl) ?_
  exact law_loop hL hr hlocks n 0 s0 τ0 (fun _ => false) (fun _ => s0) (by omega) hlaw _ _ _ _ CL hd hl

