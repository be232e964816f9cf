section S
variable {p : Program} {l : Launch} {e : Env} {s : State} {m : MethodId} {args : Array Value} {below : List Frame} {meth : Method} {c : Code} {g : Gp} {X : va_W}
noncomputable def f_X7_add (F : Nat) (σ : St) (x1 : Int32) (x2 : Int32) : Option (Int32 × St) :=
  cal (f_X5_hasPage F σ x1) (fun r1 => if r1 = 0 then (some ((-1 : Int32), σ)) else (cal2 (f_X2_come F σ 1 x1 x2) (fun r3 t4 => some (r3, t4))))
set_option maxRecDepth 100000 in
set_option maxHeartbeats 4000000 in
theorem c_X7_add {l : Launch} {g : Gp} {X : va_W} (hE : E0 g) {F : Nat} {r' : Int32} {σ' : St} {σ : St} {x1 : Int32} {x2 : Int32} (h : f_X7_add F σ x1 x2 = some (r', σ')) : Ci l g yX7_add cX7_add 3 (some .int) 3 [.ref (ga g 0), .int x1, .int x2] (wD g σ ++ X) r' (wD g σ' ++ X) := by
  refine rHead hE (by decide +kernel) (Nat.le_of_ble_eq_true rfl) (fun p e s m below meth c C hr _ hd ls hl => ?_)
  have hx := C.1
  have hb := C.2.1
  have hl : lv_has ls 3 [(0, .ref (ga g 0)), (1, .int x1), (2, .int x2)] := hl
  generalize ([.ref (ga g 0), .int x1, .int x2] : List Value).toArray = args at C ⊢
  have C : Cx g p s m args meth c cX7_add 3 RX7 := C
  rw [f_X7_add] at h
  refine lv_aload_n hx hb dX7_add_0 rfl (lv_at hl 0 rfl) ?_
  refine gX7_10 C hd dX7_add_1 ?_
  refine lv_iload_n hx hb dX7_add_4 rfl (lv_at hl 1 rfl) ?_
  obtain ⟨r1, er1, h⟩ := cal_e h
  refine rCallI C hd (c_X5_hasPage hE er1) kX7_192 1 rfl rfl rfl rfl hl.1 rfl (Nat.le_of_ble_eq_true rfl) ⟨(Nat.le_of_ble_eq_true rfl), (Nat.le_of_ble_eq_true rfl)⟩ ⟨Nat.le_refl _, Nat.le_refl _⟩ dX7_add_5 (fun H locs hd => ?_)
  refine lv_if_eq (tgt := 24) hx hb dX7_add_8 (by decide) (fun c2 => ?_) (fun c2 => ?_)
  · replace h := iteT c2 h
    refine lv_iconst (v := (-1 : Int32)) hx hb dX7_add_24 ic_m1 ?_
    exact rIretS (w := wD g) C hr hd h dX7_add_25
  · replace h := iteF c2 h
    refine lv_aload_n hx hb dX7_add_11 rfl (lv_at hl 0 rfl) ?_
    refine gX7_20 C hd dX7_add_12 ?_
    refine lv_iconst (v := 1) hx hb dX7_add_15 ic_1 ?_
    refine lv_iload_n hx hb dX7_add_16 rfl (lv_at hl 1 rfl) ?_
    refine lv_iload_n hx hb dX7_add_17 rfl (lv_at hl 2 rfl) ?_
    obtain ⟨r3, t4, et4, h⟩ := cal2_e h
    refine rCallI C hd (c_X2_come hE et4) kX7_195 2 rfl rfl rfl rfl hl.1 rfl (Nat.le_of_ble_eq_true rfl) ⟨(Nat.le_of_ble_eq_true rfl), (Nat.le_of_ble_eq_true rfl)⟩ ⟨Nat.le_refl _, Nat.le_refl _⟩ dX7_add_18 (fun H locs hd => ?_)
    refine lv_goto (tgt := 25) hx hb dX7_add_21 (by decide) ?_
    exact rIretS (w := wD g) C hr hd h dX7_add_25
noncomputable def f_X7_age_26 (F : Nat) : Nat → St → Int32 → Int32 → Int32 → Option Int32
  | 0, _, _, _, _ => none
  | n + 1, σ, x1, x2, x3 => if (σ.1 4) ≤ x3 then (cal (f_X2_now F σ) (fun r2 => some (r2 - x2))) else (cal (f_X0_cellOf F σ x1 x3) (fun r3 => cal (f_X0_placeIn F σ r3) (fun r4 => bnd (mx x2 r4) (fun v5 => bnd (x3 + 1) (fun v6 => f_X7_age_26 F n σ x1 v5 v6)))))
set_option maxRecDepth 100000 in
set_option maxHeartbeats 4000000 in
theorem w_X7_age_26 {F : Nat} {r' : Int32}  (C : Cx g p s m args meth c cX7_age 4 RX7) (hr : meth.sig.returnType = some .int) :
    (∀ (n : Nat) (σ : St) (x1 : Int32) (x2 : Int32) (x3 : Int32), f_X7_age_26 F n σ x1 x2 x3 = some r' → ∀ (H : Heap) (locs : List Loc) (ls : Array Slot), Dy g (wD g σ ++ X) s H locs → lv_has ls 4 [(0, .ref (ga g 0)), (1, .int x1), (2, .int x2), (3, .int x3)] → W p l e (rmD 3) s m args below meth c H locs 0 0 (QI g below args s (wD g σ ++ X) r') (F0 m 26 ls [])) := by
  have hx := C.1
  have hb := C.2.1
  have hE := C.2.2.2.2.2.2.2.2
  intro n
  induction n with
  | zero =>
    intro σ x1 x2 x3 h
    cases h
  | succ n ih =>
    intro σ x1 x2 x3 h H locs ls hd hl
    rw [f_X7_age_26] at h
    refine lv_iload_n hx hb dX7_age_26 rfl (lv_at hl 3 rfl) ?_
    refine lv_aload_n hx hb dX7_age_27 rfl (lv_at hl 0 rfl) ?_
    refine gX7_10 C hd dX7_age_28 ?_
    refine gX7_225 C hd dX7_age_31 ?_
    refine lv_icmp_ge (tgt := 64) hx hb dX7_age_34 (by decide) (fun c1 => ?_) (fun c1 => ?_)
    · replace h := iteT c1 h
      refine lv_aload_n hx hb dX7_age_64 rfl (lv_at hl 0 rfl) ?_
      refine gX7_20 C hd dX7_age_65 ?_
      obtain ⟨r2, er2, h⟩ := cal_e h
      refine rCallI C hd (c_X2_now hE er2) kX7_123 2 rfl rfl rfl rfl hl.1 rfl (Nat.le_of_ble_eq_true rfl) ⟨(Nat.le_of_ble_eq_true rfl), (Nat.le_of_ble_eq_true rfl)⟩ ⟨Nat.le_refl _, Nat.le_refl _⟩ dX7_age_68 (fun H locs hd => ?_)
      refine lv_iload_n hx hb dX7_age_71 rfl (lv_at hl 2 rfl) ?_
      refine lv_isub hx hb dX7_age_72 ?_
      exact rIretP C hr hd h dX7_age_73
    · replace h := iteF c1 h
      refine lv_iload_n hx hb dX7_age_37 rfl (lv_at hl 2 rfl) ?_
      refine lv_aload_n hx hb dX7_age_38 rfl (lv_at hl 0 rfl) ?_
      refine gX7_25 C hd dX7_age_39 ?_
      refine lv_aload_n hx hb dX7_age_42 rfl (lv_at hl 0 rfl) ?_
      refine gX7_25 C hd dX7_age_43 ?_
      refine lv_iload_n hx hb dX7_age_46 rfl (lv_at hl 1 rfl) ?_
      refine lv_iload_n hx hb dX7_age_47 rfl (lv_at hl 3 rfl) ?_
      obtain ⟨r3, er3, h⟩ := cal_e h
      refine rCallI C hd (c_X0_cellOf hE er3) kX7_229 3 rfl rfl rfl rfl hl.1 rfl (Nat.le_of_ble_eq_true rfl) ⟨(Nat.le_of_ble_eq_true rfl), (Nat.le_of_ble_eq_true rfl)⟩ ⟨Nat.le_refl _, Nat.le_refl _⟩ dX7_age_48 (fun H locs hd => ?_)
      obtain ⟨r4, er4, h⟩ := cal_e h
      refine rCallI C hd (c_X0_placeIn hE er4) kX7_235 3 rfl rfl rfl rfl hl.1 rfl (Nat.le_of_ble_eq_true rfl) ⟨(Nat.le_of_ble_eq_true rfl), (Nat.le_of_ble_eq_true rfl)⟩ ⟨Nat.le_refl _, Nat.le_refl _⟩ dX7_age_51 (fun H locs hd => ?_)
      refine rMax C hl.1 (mT 1209 (by decide +kernel)) (mT 467 (by decide +kernel)) (mT 14 (by decide +kernel)) (mT 468 (by decide +kernel)) ⟨(Nat.le_of_ble_eq_true rfl), (Nat.le_of_ble_eq_true rfl)⟩ ⟨Nat.le_refl _, Nat.le_refl _⟩ dX7_age_54 ?_
      obtain ⟨v5, ev5, h⟩ := bnd_e h
      refine rTop ev5 ?_
      refine lv_istore_n (lv' := [(2, .int v5), (0, .ref (ga g 0)), (1, .int x1), (3, .int x3)]) hx hb dX7_age_57 rfl hl (Nat.le_of_ble_eq_true rfl) rfl (fun ls hl => ?_)
      obtain ⟨v6, ev6, h⟩ := bnd_e h
      refine lv_iinc (v := v6) (lv' := [(3, .int v6), (2, .int v5), (0, .ref (ga g 0)), (1, .int x1)]) hx hb dX7_age_58 hl (k := 3) rfl ((ii_1 _).trans ev6.symm) (Nat.le_of_ble_eq_true rfl) rfl (fun ls hl => ?_)
      refine lv_goto (tgt := 26) hx hb dX7_age_61 (by decide) ?_
      exact ih σ x1 v5 v6 h _ _ _ hd (lv_sub hl [2, 3, 1, 0] rfl)
noncomputable def f_X7_age (F : Nat) (σ : St) (x1 : Int32) : Option Int32 :=
  cal (f_X0_isFit F σ x1 (σ.1 4)) (fun r1 => if r1 = 0 then (some (-1000 : Int32)) else (f_X7_age_26 F F σ x1 0 0))
set_option maxRecDepth 100000 in
set_option maxHeartbeats 4000000 in
theorem c_X7_age {l : Launch} {g : Gp} {X : va_W} (hE : E0 g) {F : Nat} {r' : Int32} {σ : St} {x1 : Int32} (h : f_X7_age F σ x1 = some r') : Ci l g yX7_age cX7_age 4 (some .int) 3 [.ref (ga g 0), .int x1] (wD g σ ++ X) r' (wD g σ ++ X) := by
  refine rHead hE (by decide +kernel) (Nat.le_of_ble_eq_true rfl) (fun p e s m below meth c C hr _ hd ls hl => ?_)
  have hx := C.1
  have hb := C.2.1
  have hl : lv_has ls 4 [(0, .ref (ga g 0)), (1, .int x1)] := hl
  generalize ([.ref (ga g 0), .int x1] : List Value).toArray = args at C ⊢
  have C : Cx g p s m args meth c cX7_age 4 RX7 := C
  rw [f_X7_age] at h
  refine lv_aload_n hx hb dX7_age_0 rfl (lv_at hl 0 rfl) ?_
  refine gX7_25 C hd dX7_age_1 ?_
  refine lv_iload_n hx hb dX7_age_4 rfl (lv_at hl 1 rfl) ?_
  refine lv_aload_n hx hb dX7_age_5 rfl (lv_at hl 0 rfl) ?_
  refine gX7_10 C hd dX7_age_6 ?_
  refine gX7_225 C hd dX7_age_9 ?_
  obtain ⟨r1, er1, h⟩ := cal_e h
  refine rCallI C hd (c_X0_isFit hE er1) kX7_226 3 rfl rfl rfl rfl hl.1 rfl (Nat.le_of_ble_eq_true rfl) ⟨(Nat.le_of_ble_eq_true rfl), (Nat.le_of_ble_eq_true rfl)⟩ ⟨Nat.le_refl _, Nat.le_refl _⟩ dX7_age_12 (fun H locs hd => ?_)
  refine lv_if_ne (tgt := 22) hx hb dX7_age_15 (by decide) (fun c2 => ?_) (fun c2 => ?_)
  · replace h := iteF c2 h
    refine lv_iconst (v := 0) hx hb dX7_age_22 ic_0 ?_
    refine lv_istore_n (lv' := [(2, .int 0), (0, .ref (ga g 0)), (1, .int x1)]) hx hb dX7_age_23 rfl hl (Nat.le_of_ble_eq_true rfl) rfl (fun ls hl => ?_)
    refine lv_iconst (v := 0) hx hb dX7_age_24 ic_0 ?_
    refine lv_istore_n (lv' := [(3, .int 0), (2, .int 0), (0, .ref (ga g 0)), (1, .int x1)]) hx hb dX7_age_25 rfl hl (Nat.le_of_ble_eq_true rfl) rfl (fun ls hl => ?_)
    exact w_X7_age_26 C hr _ σ x1 0 0 h _ _ _ hd (lv_sub hl [2, 3, 1, 0] rfl)
  · replace h := iteT c2 h
    refine lv_sipush (v := (-1000 : Int32)) hx hb dX7_age_18 si_m1000 ?_
    exact rIretP C hr hd h dX7_age_21
noncomputable def f_X7_back (F : Nat) (σ : St) (x1 : Int32) : Option (Int32 × St) :=
  if x1 < 0 then (some ((-1 : Int32), σ)) else (if x1 ≤ (σ.1 1) then (bnd (ss σ 1 ((σ.1 1) - x1)) (fun t3 => some ((t3.1 1), t3))) else (some ((-1 : Int32), σ)))
set_option maxRecDepth 100000 in
set_option maxHeartbeats 4000000 in
theorem c_X7_back {l : Launch} {g : Gp} {X : va_W} (hE : E0 g) {F : Nat} {r' : Int32} {σ' : St} {σ : St} {x1 : Int32} (h : f_X7_back F σ x1 = some (r', σ')) : Ci l g yX7_back cX7_back 2 (some .int) 0 [.ref (ga g 0), .int x1] (wD g σ ++ X) r' (wD g σ' ++ X) := by
  refine rHead hE (by decide +kernel) (Nat.le_of_ble_eq_true rfl) (fun p e s m below meth c C hr _ hd ls hl => ?_)
  have hx := C.1
  have hb := C.2.1
  have hl : lv_has ls 2 [(0, .ref (ga g 0)), (1, .int x1)] := hl
  generalize ([.ref (ga g 0), .int x1] : List Value).toArray = args at C ⊢
  have C : Cx g p s m args meth c cX7_back 2 RX7 := C
  rw [f_X7_back] at h
  refine lv_iload_n hx hb dX7_back_0 rfl (lv_at hl 1 rfl) ?_
  refine lv_if_lt (tgt := 12) hx hb dX7_back_1 (by decide) (fun c1 => ?_) (fun c1 => ?_)
  · replace h := iteT c1 h
    refine lv_iconst (v := (-1 : Int32)) hx hb dX7_back_12 ic_m1 ?_
    exact rIretS (w := wD g) C hr hd h dX7_back_13
  · replace h := iteF c1 h
    refine lv_iload_n hx hb dX7_back_4 rfl (lv_at hl 1 rfl) ?_
    refine lv_aload_n hx hb dX7_back_5 rfl (lv_at hl 0 rfl) ?_
    refine gX7_47 C hd dX7_back_6 ?_
    refine lv_icmp_le (tgt := 14) hx hb dX7_back_9 (by decide) (fun c2 => ?_) (fun c2 => ?_)
    · replace h := iteT c2 h
      refine lv_aload_n hx hb dX7_back_14 rfl (lv_at hl 0 rfl) ?_
      refine lv_dup hx hb dX7_back_15 rfl ?_
      refine gX7_47 C hd dX7_back_16 ?_
      refine lv_iload_n hx hb dX7_back_19 rfl (lv_at hl 1 rfl) ?_
      refine lv_isub hx hb dX7_back_20 ?_
      obtain ⟨t3, et3, h⟩ := bnd_e h
      refine pX7_47 C hd et3 dX7_back_21 (fun H locs hd => ?_)
      refine lv_aload_n hx hb dX7_back_24 rfl (lv_at hl 0 rfl) ?_
      refine gX7_47 C hd dX7_back_25 ?_
      exact rIretS (w := wD g) C hr hd h dX7_back_28
    · replace h := iteF c2 h
      refine lv_iconst (v := (-1 : Int32)) hx hb dX7_back_12 ic_m1 ?_
      exact rIretS (w := wD g) C hr hd h dX7_back_13
noncomputable def f_X7_best_86 (F : Nat) (k_23 : St → Int32 → Int32 → Int32 → Int32 → Int32 → Option (Int32 × St)) (σ : St) (x1 : Int32) (x2 : Int32) (x3 : Int32) (x4 : Int32) (x5 : Int32) : Option (Int32 × St) :=
  bnd (x5 + 1) (fun v1 => k_23 σ x1 x2 x3 x4 v1)
set_option maxRecDepth 100000 in
set_option maxHeartbeats 4000000 in
theorem w_X7_best_86 {F : Nat} {r' : Int32} {σ' : St}  (C : Cx g p s m args meth c cX7_best 7 RX7) (hr : meth.sig.returnType = some .int)
    {k_23 : St → Int32 → Int32 → Int32 → Int32 → Int32 → Option (Int32 × St)} (hk_23 : (∀ (σ : St) (x1 : Int32) (x2 : Int32) (x3 : Int32) (x4 : Int32) (x5 : Int32), k_23 σ x1 x2 x3 x4 x5 = some (r', σ') → ∀ (H : Heap) (locs : List Loc) (ls : Array Slot), Dy g (wD g σ ++ X) s H locs → lv_has ls 7 [(0, .ref (ga g 0)), (1, .int x1), (2, .int x2), (3, .int x3), (4, .int x4), (5, .int x5)] → W p l e (rmD 4) s m args below meth c H locs 0 0 (QI g below args s (wD g σ' ++ X) r') (F0 m 23 ls []))) :
    (∀ (σ : St) (x1 : Int32) (x2 : Int32) (x3 : Int32) (x4 : Int32) (x5 : Int32), f_X7_best_86 F k_23 σ x1 x2 x3 x4 x5 = some (r', σ') → ∀ (H : Heap) (locs : List Loc) (ls : Array Slot), Dy g (wD g σ ++ X) s H locs → lv_has ls 7 [(0, .ref (ga g 0)), (1, .int x1), (2, .int x2), (3, .int x3), (4, .int x4), (5, .int x5)] → W p l e (rmD 4) s m args below meth c H locs 0 0 (QI g below args s (wD g σ' ++ X) r') (F0 m 86 ls [])) := by
  have hx := C.1
  have hb := C.2.1
  have hE := C.2.2.2.2.2.2.2.2
  intro σ x1 x2 x3 x4 x5 h H locs ls hd hl
  rw [f_X7_best_86] at h
  obtain ⟨v1, ev1, h⟩ := bnd_e h
  refine lv_iinc (v := v1) (lv' := [(5, .int v1), (0, .ref (ga g 0)), (1, .int x1), (2, .int x2), (3, .int x3), (4, .int x4)]) hx hb dX7_best_86 hl (k := 5) rfl ((ii_1 _).trans ev1.symm) (Nat.le_of_ble_eq_true rfl) rfl (fun ls hl => ?_)
  refine lv_goto (tgt := 23) hx hb dX7_best_89 (by decide) ?_
  exact hk_23 σ x1 x2 x3 x4 v1 h _ _ _ hd (lv_sub hl [1, 2, 3, 4, 5, 0] rfl)
noncomputable def f_X7_best_79 (F : Nat) (k_23 : St → Int32 → Int32 → Int32 → Int32 → Int32 → Option (Int32 × St)) (σ : St) (x1 : Int32) (x2 : Int32) (x5 : Int32) (x6 : Int32) : Option (Int32 × St) :=
  f_X7_best_86 F k_23 σ x1 x2 x5 x6 x5
set_option maxRecDepth 100000 in
set_option maxHeartbeats 4000000 in
theorem w_X7_best_79 {F : Nat} {r' : Int32} {σ' : St}  (C : Cx g p s m args meth c cX7_best 7 RX7) (hr : meth.sig.returnType = some .int)
    {k_23 : St → Int32 → Int32 → Int32 → Int32 → Int32 → Option (Int32 × St)} (hk_23 : (∀ (σ : St) (x1 : Int32) (x2 : Int32) (x3 : Int32) (x4 : Int32) (x5 : Int32), k_23 σ x1 x2 x3 x4 x5 = some (r', σ') → ∀ (H : Heap) (locs : List Loc) (ls : Array Slot), Dy g (wD g σ ++ X) s H locs → lv_has ls 7 [(0, .ref (ga g 0)), (1, .int x1), (2, .int x2), (3, .int x3), (4, .int x4), (5, .int x5)] → W p l e (rmD 4) s m args below meth c H locs 0 0 (QI g below args s (wD g σ' ++ X) r') (F0 m 23 ls []))) :
    (∀ (σ : St) (x1 : Int32) (x2 : Int32) (x5 : Int32) (x6 : Int32), f_X7_best_79 F k_23 σ x1 x2 x5 x6 = some (r', σ') → ∀ (H : Heap) (locs : List Loc) (ls : Array Slot), Dy g (wD g σ ++ X) s H locs → lv_has ls 7 [(0, .ref (ga g 0)), (1, .int x1), (2, .int x2), (5, .int x5), (6, .int x6)] → W p l e (rmD 4) s m args below meth c H locs 0 0 (QI g below args s (wD g σ' ++ X) r') (F0 m 79 ls [])) := by
  have hx := C.1
  have hb := C.2.1
  have hE := C.2.2.2.2.2.2.2.2
  intro σ x1 x2 x5 x6 h H locs ls hd hl
  rw [f_X7_best_79] at h
  refine lv_iload hx hb dX7_best_79 (lv_at hl 3 rfl) ?_
  refine lv_istore_n (lv' := [(3, .int x5), (0, .ref (ga g 0)), (1, .int x1), (2, .int x2), (5, .int x5), (6, .int x6)]) hx hb dX7_best_81 rfl hl (Nat.le_of_ble_eq_true rfl) rfl (fun ls hl => ?_)
  refine lv_iload hx hb dX7_best_82 (lv_at hl 5 rfl) ?_
  refine lv_istore (lv' := [(4, .int x6), (3, .int x5), (0, .ref (ga g 0)), (1, .int x1), (2, .int x2), (5, .int x5), (6, .int x6)]) hx hb dX7_best_84 hl (Nat.le_of_ble_eq_true rfl) rfl (fun ls hl => ?_)
  exact w_X7_best_86 C hr hk_23 σ x1 x2 x5 x6 x5 h _ _ _ hd (lv_sub hl [2, 3, 4, 1, 0, 5] rfl)
noncomputable def f_X7_best_23 (F : Nat) : Nat → St → Int32 → Int32 → Int32 → Int32 → Int32 → Option (Int32 × St)
  | 0, _, _, _, _, _, _ => none
  | n + 1, σ, x1, x2, x3, x4, x5 => if (σ.1 8) ≤ x5 then (some (x3, σ)) else (cal (f_X3_aim F σ x5 x1) (fun t2 => cal (f_X3_neededTo F t2 x2) (fun r3 => cal (f_X3_outcomeAt F t2 x2) (fun r4 => if r4 = 0 then (if x3 = (-2 : Int32) then (f_X7_best_79 F (f_X7_best_23 F n) t2 x1 x2 x5 r3) else (if x4 < r3 then (f_X7_best_86 F (f_X7_best_23 F n) t2 x1 x2 x3 x4 x5) else (f_X7_best_79 F (f_X7_best_23 F n) t2 x1 x2 x5 r3))) else (f_X7_best_86 F (f_X7_best_23 F n) t2 x1 x2 x3 x4 x5)))))
set_option maxRecDepth 100000 in
set_option maxHeartbeats 4000000 in
theorem w_X7_best_23 {F : Nat} {r' : Int32} {σ' : St}  (C : Cx g p s m args meth c cX7_best 7 RX7) (hr : meth.sig.returnType = some .int) :
    (∀ (n : Nat) (σ : St) (x1 : Int32) (x2 : Int32) (x3 : Int32) (x4 : Int32) (x5 : Int32), f_X7_best_23 F n σ x1 x2 x3 x4 x5 = some (r', σ') → ∀ (H : Heap) (locs : List Loc) (ls : Array Slot), Dy g (wD g σ ++ X) s H locs → lv_has ls 7 [(0, .ref (ga g 0)), (1, .int x1), (2, .int x2), (3, .int x3), (4, .int x4), (5, .int x5)] → W p l e (rmD 4) s m args below meth c H locs 0 0 (QI g below args s (wD g σ' ++ X) r') (F0 m 23 ls [])) := by
  have hx := C.1
  have hb := C.2.1
  have hE := C.2.2.2.2.2.2.2.2
  intro n
  induction n with
  | zero =>
    intro σ x1 x2 x3 x4 x5 h
    cases h
  | succ n ih =>
    intro σ x1 x2 x3 x4 x5 h H locs ls hd hl
    rw [f_X7_best_23] at h
    refine lv_iload hx hb dX7_best_23 (lv_at hl 5 rfl) ?_
    refine lv_aload_n hx hb dX7_best_25 rfl (lv_at hl 0 rfl) ?_
    refine gX7_25 C hd dX7_best_26 ?_
    refine gX7_132 C hd dX7_best_29 ?_
    refine lv_icmp_ge (tgt := 92) hx hb dX7_best_32 (by decide) (fun c1 => ?_) (fun c1 => ?_)
    · replace h := iteT c1 h
      refine lv_iload_n hx hb dX7_best_92 rfl (lv_at hl 3 rfl) ?_
      exact rIretS (w := wD g) C hr hd h dX7_best_93
    · replace h := iteF c1 h
      refine lv_aload_n hx hb dX7_best_35 rfl (lv_at hl 0 rfl) ?_
      refine gX7_31 C hd dX7_best_36 ?_
      refine lv_iload hx hb dX7_best_39 (lv_at hl 5 rfl) ?_
      refine lv_iload_n hx hb dX7_best_41 rfl (lv_at hl 1 rfl) ?_
      obtain ⟨t2, et2, h⟩ := cal_e h
      refine rCallV C hd (c_X3_aim hE et2) kX7_247 4 rfl rfl rfl rfl hl.1 rfl (Nat.le_of_ble_eq_true rfl) ⟨(Nat.le_of_ble_eq_true rfl), (Nat.le_of_ble_eq_true rfl)⟩ ⟨Nat.le_refl _, Nat.le_refl _⟩ dX7_best_42 (fun H locs hd => ?_)
      refine lv_aload_n hx hb dX7_best_45 rfl (lv_at hl 0 rfl) ?_
      refine gX7_31 C hd dX7_best_46 ?_
      refine lv_iload_n hx hb dX7_best_49 rfl (lv_at hl 2 rfl) ?_
      obtain ⟨r3, er3, h⟩ := cal_e h
      refine rCallI C hd (c_X3_neededTo hE er3) kX7_354 4 rfl rfl rfl rfl hl.1 rfl (Nat.le_of_ble_eq_true rfl) ⟨(Nat.le_of_ble_eq_true rfl), (Nat.le_of_ble_eq_true rfl)⟩ ⟨Nat.le_refl _, Nat.le_refl _⟩ dX7_best_50 (fun H locs hd => ?_)
      refine lv_istore (lv' := [(6, .int r3), (0, .ref (ga g 0)), (1, .int x1), (2, .int x2), (3, .int x3), (4, .int x4), (5, .int x5)]) hx hb dX7_best_53 hl (Nat.le_of_ble_eq_true rfl) rfl (fun ls hl => ?_)
      refine lv_aload_n hx hb dX7_best_55 rfl (lv_at hl 1 rfl) ?_
      refine gX7_31 C hd dX7_best_56 ?_
      refine lv_iload_n hx hb dX7_best_59 rfl (lv_at hl 3 rfl) ?_
      obtain ⟨r4, er4, h⟩ := cal_e h
      refine rCallI C hd (c_X3_outcomeAt hE er4) kX7_250 4 rfl rfl rfl rfl hl.1 rfl (Nat.le_of_ble_eq_true rfl) ⟨(Nat.le_of_ble_eq_true rfl), (Nat.le_of_ble_eq_true rfl)⟩ ⟨Nat.le_refl _, Nat.le_refl _⟩ dX7_best_60 (fun H locs hd => ?_)
      refine lv_if_ne (tgt := 86) hx hb dX7_best_63 (by decide) (fun c5 => ?_) (fun c5 => ?_)
      · replace h := iteF c5 h
        exact w_X7_best_86 C hr ih t2 x1 x2 x3 x4 x5 h _ _ _ hd (lv_sub hl [1, 2, 3, 4, 5, 6] rfl)
      · replace h := iteT c5 h
        refine lv_iload_n hx hb dX7_best_66 rfl (lv_at hl 4 rfl) ?_
        refine lv_bipush (v := (-2 : Int32)) hx hb dX7_best_67 bi_m2 ?_
        refine lv_icmp_eq (tgt := 79) hx hb dX7_best_69 (by decide) (fun c6 => ?_) (fun c6 => ?_)
        · replace h := iteT c6 h
          exact w_X7_best_79 C hr ih t2 x1 x2 x5 r3 h _ _ _ hd (lv_sub hl [1, 2, 3, 6, 0] rfl)
        · replace h := iteF c6 h
          refine lv_iload hx hb dX7_best_72 (lv_at hl 0 rfl) ?_
          refine lv_iload hx hb dX7_best_74 (lv_at hl 5 rfl) ?_
          refine lv_icmp_gt (tgt := 86) hx hb dX7_best_76 (by decide) (fun c7 => ?_) (fun c7 => ?_)
          · replace h := iteT c7 h
            exact w_X7_best_86 C hr ih t2 x1 x2 x3 x4 x5 h _ _ _ hd (lv_sub hl [1, 2, 3, 4, 5, 6] rfl)
          · replace h := iteF c7 h
            exact w_X7_best_79 C hr ih t2 x1 x2 x5 r3 h _ _ _ hd (lv_sub hl [1, 2, 3, 6, 0] rfl)
noncomputable def f_X7_best (F : Nat) (σ : St) (x1 : Int32) (x2 : Int32) : Option (Int32 × St) :=
  cal (f_X2_hasPlace F σ x1 x2) (fun r1 => if r1 = 0 then (some ((-1 : Int32), σ)) else (f_X7_best_23 F F σ x1 x2 (-2 : Int32) 0 0))
set_option maxRecDepth 100000 in
set_option maxHeartbeats 4000000 in
theorem c_X7_best {l : Launch} {g : Gp} {X : va_W} (hE : E0 g) {F : Nat} {r' : Int32} {σ' : St} {σ : St} {x1 : Int32} {x2 : Int32} (h : f_X7_best F σ x1 x2 = some (r', σ')) : Ci l g yX7_best cX7_best 7 (some .int) 4 [.ref (ga g 0), .int x1, .int x2] (wD g σ ++ X) r' (wD g σ' ++ X) := by
  refine rHead hE (by decide +kernel) (Nat.le_of_ble_eq_true rfl) (fun p e s m below meth c C hr _ hd ls hl => ?_)
  have hx := C.1
  have hb := C.2.1
  have hl : lv_has ls 7 [(0, .ref (ga g 0)), (1, .int x1), (2, .int x2)] := hl
  generalize ([.ref (ga g 0), .int x1, .int x2] : List Value).toArray = args at C ⊢
  have C : Cx g p s m args meth c cX7_best 7 RX7 := C
  rw [f_X7_best] at h
  refine lv_aload_n hx hb dX7_best_0 rfl (lv_at hl 0 rfl) ?_
  refine gX7_20 C hd dX7_best_1 ?_
  refine lv_iload_n hx hb dX7_best_4 rfl (lv_at hl 1 rfl) ?_
  refine lv_iload_n hx hb dX7_best_5 rfl (lv_at hl 2 rfl) ?_
  obtain ⟨r1, er1, h⟩ := cal_e h
  refine rCallI C hd (c_X2_hasPlace hE er1) kX7_263 2 rfl rfl rfl rfl hl.1 rfl (Nat.le_of_ble_eq_true rfl) ⟨(Nat.le_of_ble_eq_true rfl), (Nat.le_of_ble_eq_true rfl)⟩ ⟨Nat.le_refl _, Nat.le_refl _⟩ dX7_best_6 (fun H locs hd => ?_)
  refine lv_if_ne (tgt := 14) hx hb dX7_best_9 (by decide) (fun c2 => ?_) (fun c2 => ?_)
  · replace h := iteF c2 h
    refine lv_bipush (v := (-2 : Int32)) hx hb dX7_best_14 bi_m2 ?_
    refine lv_istore_n (lv' := [(3, .int (-2 : Int32)), (0, .ref (ga g 0)), (1, .int x1), (2, .int x2)]) hx hb dX7_best_16 rfl hl (Nat.le_of_ble_eq_true rfl) rfl (fun ls hl => ?_)
    refine lv_iconst (v := 0) hx hb dX7_best_17 ic_0 ?_
    refine lv_istore (lv' := [(4, .int 0), (3, .int (-2 : Int32)), (0, .ref (ga g 0)), (1, .int x1), (2, .int x2)]) hx hb dX7_best_18 hl (Nat.le_of_ble_eq_true rfl) rfl (fun ls hl => ?_)
    refine lv_iconst (v := 0) hx hb dX7_best_20 ic_0 ?_
    refine lv_istore (lv' := [(5, .int 0), (4, .int 0), (3, .int (-2 : Int32)), (0, .ref (ga g 0)), (1, .int x1), (2, .int x2)]) hx hb dX7_best_21 hl (Nat.le_of_ble_eq_true rfl) rfl (fun ls hl => ?_)
    exact w_X7_best_23 C hr _ σ x1 x2 (-2 : Int32) 0 0 h _ _ _ hd (lv_sub hl [3, 4, 5, 2, 1, 0] rfl)
  · replace h := iteT c2 h
    refine lv_iconst (v := (-1 : Int32)) hx hb dX7_best_12 ic_m1 ?_
    exact rIretS (w := wD g) C hr hd h dX7_best_13
noncomputable def f_X7_busiest_68 (F : Nat) (k_30 : St → Int32 → Int32 → Int32 → Int32 → Int32 → Option Int32) (σ : St) (x1 : Int32) (x2 : Int32) (x3 : Int32) (x4 : Int32) (x5 : Int32) : Option Int32 :=
  bnd (x5 + 1) (fun v1 => k_30 σ x1 x2 x3 x4 v1)
set_option maxRecDepth 100000 in
set_option maxHeartbeats 4000000 in
theorem w_X7_busiest_68 {F : Nat} {r' : Int32}  (C : Cx g p s m args meth c cX7_busiest 7 RX7) (hr : meth.sig.returnType = some .int)
    {k_30 : St → Int32 → Int32 → Int32 → Int32 → Int32 → Option Int32} (hk_30 : (∀ (σ : St) (x1 : Int32) (x2 : Int32) (x3 : Int32) (x4 : Int32) (x5 : Int32), k_30 σ x1 x2 x3 x4 x5 = some r' → ∀ (H : Heap) (locs : List Loc) (ls : Array Slot), Dy g (wD g σ ++ X) s H locs → lv_has ls 7 [(0, .ref (ga g 0)), (1, .int x1), (2, .int x2), (3, .int x3), (4, .int x4), (5, .int x5)] → W p l e (rmD 3) s m args below meth c H locs 0 0 (QI g below args s (wD g σ ++ X) r') (F0 m 30 ls []))) :
    (∀ (σ : St) (x1 : Int32) (x2 : Int32) (x3 : Int32) (x4 : Int32) (x5 : Int32), f_X7_busiest_68 F k_30 σ x1 x2 x3 x4 x5 = some r' → ∀ (H : Heap) (locs : List Loc) (ls : Array Slot), Dy g (wD g σ ++ X) s H locs → lv_has ls 7 [(0, .ref (ga g 0)), (1, .int x1), (2, .int x2), (3, .int x3), (4, .int x4), (5, .int x5)] → W p l e (rmD 3) s m args below meth c H locs 0 0 (QI g below args s (wD g σ ++ X) r') (F0 m 68 ls [])) := by
  have hx := C.1
  have hb := C.2.1
  have hE := C.2.2.2.2.2.2.2.2
  intro σ x1 x2 x3 x4 x5 h H locs ls hd hl
  rw [f_X7_busiest_68] at h
  obtain ⟨v1, ev1, h⟩ := bnd_e h
  refine lv_iinc (v := v1) (lv' := [(5, .int v1), (0, .ref (ga g 0)), (1, .int x1), (2, .int x2), (3, .int x3), (4, .int x4)]) hx hb dX7_busiest_68 hl (k := 5) rfl ((ii_1 _).trans ev1.symm) (Nat.le_of_ble_eq_true rfl) rfl (fun ls hl => ?_)
  refine lv_goto (tgt := 30) hx hb dX7_busiest_71 (by decide) ?_
  exact hk_30 σ x1 x2 x3 x4 v1 h _ _ _ hd (lv_sub hl [1, 2, 3, 4, 5, 0] rfl)
noncomputable def f_X7_busiest_30 (F : Nat) : Nat → St → Int32 → Int32 → Int32 → Int32 → Int32 → Option Int32
  | 0, _, _, _, _, _, _ => none
  | n + 1, σ, x1, x2, x3, x4, x5 => if (σ.1 4) ≤ x5 then (if x2 = 0 then (some x3) else (some x4)) else (cal (f_X2_changesOf F σ x5 x1) (fun r3 => if r3 ≤ x4 then (f_X7_busiest_68 F (f_X7_busiest_30 F n) σ x1 x2 x3 x4 x5) else (f_X7_busiest_68 F (f_X7_busiest_30 F n) σ x1 x2 x5 r3 x5)))
set_option maxRecDepth 100000 in
set_option maxHeartbeats 4000000 in
theorem w_X7_busiest_30 {F : Nat} {r' : Int32}  (C : Cx g p s m args meth c cX7_busiest 7 RX7) (hr : meth.sig.returnType = some .int) :
    (∀ (n : Nat) (σ : St) (x1 : Int32) (x2 : Int32) (x3 : Int32) (x4 : Int32) (x5 : Int32), f_X7_busiest_30 F n σ x1 x2 x3 x4 x5 = some r' → ∀ (H : Heap) (locs : List Loc) (ls : Array Slot), Dy g (wD g σ ++ X) s H locs → lv_has ls 7 [(0, .ref (ga g 0)), (1, .int x1), (2, .int x2), (3, .int x3), (4, .int x4), (5, .int x5)] → W p l e (rmD 3) s m args below meth c H locs 0 0 (QI g below args s (wD g σ ++ X) r') (F0 m 30 ls [])) := by
  have hx := C.1
  have hb := C.2.1
  have hE := C.2.2.2.2.2.2.2.2
  intro n
  induction n with
  | zero =>
    intro σ x1 x2 x3 x4 x5 h
    cases h
  | succ n ih =>
    intro σ x1 x2 x3 x4 x5 h H locs ls hd hl
    rw [f_X7_busiest_30] at h
    refine lv_iload hx hb dX7_busiest_30 (lv_at hl 5 rfl) ?_
    refine lv_aload_n hx hb dX7_busiest_32 rfl (lv_at hl 0 rfl) ?_
    refine gX7_10 C hd dX7_busiest_33 ?_
    refine gX7_225 C hd dX7_busiest_36 ?_
    refine lv_icmp_ge (tgt := 74) hx hb dX7_busiest_39 (by decide) (fun c1 => ?_) (fun c1 => ?_)
    · replace h := iteT c1 h
      refine lv_iload_n hx hb dX7_busiest_74 rfl (lv_at hl 2 rfl) ?_
      refine lv_if_ne (tgt := 82) hx hb dX7_busiest_75 (by decide) (fun c2 => ?_) (fun c2 => ?_)
      · replace h := iteF c2 h
        refine lv_iload hx hb dX7_busiest_82 (lv_at hl 4 rfl) ?_
        exact rIretP C hr hd h dX7_busiest_84
      · replace h := iteT c2 h
        refine lv_iload_n hx hb dX7_busiest_78 rfl (lv_at hl 3 rfl) ?_
        refine lv_goto (tgt := 84) hx hb dX7_busiest_79 (by decide) ?_
        exact rIretP C hr hd h dX7_busiest_84
    · replace h := iteF c1 h
      refine lv_aload_n hx hb dX7_busiest_42 rfl (lv_at hl 0 rfl) ?_
      refine gX7_20 C hd dX7_busiest_43 ?_
      refine lv_iload hx hb dX7_busiest_46 (lv_at hl 5 rfl) ?_
      refine lv_iload_n hx hb dX7_busiest_48 rfl (lv_at hl 1 rfl) ?_
      obtain ⟨r3, er3, h⟩ := cal_e h
      refine rCallI C hd (c_X2_changesOf hE er3) kX7_419 2 rfl rfl rfl rfl hl.1 rfl (Nat.le_of_ble_eq_true rfl) ⟨(Nat.le_of_ble_eq_true rfl), (Nat.le_of_ble_eq_true rfl)⟩ ⟨Nat.le_refl _, Nat.le_refl _⟩ dX7_busiest_49 (fun H locs hd => ?_)
      refine lv_istore (lv' := [(6, .int r3), (0, .ref (ga g 0)), (1, .int x1), (2, .int x2), (3, .int x3), (4, .int x4), (5, .int x5)]) hx hb dX7_busiest_52 hl (Nat.le_of_ble_eq_true rfl) rfl (fun ls hl => ?_)
      refine lv_iload hx hb dX7_busiest_54 (lv_at hl 0 rfl) ?_
      refine lv_iload hx hb dX7_busiest_56 (lv_at hl 5 rfl) ?_
      refine lv_icmp_le (tgt := 68) hx hb dX7_busiest_58 (by decide) (fun c4 => ?_) (fun c4 => ?_)
      · replace h := iteT c4 h
        exact w_X7_busiest_68 C hr ih σ x1 x2 x3 x4 x5 h _ _ _ hd (lv_sub hl [1, 2, 3, 4, 5, 6] rfl)
      · replace h := iteF c4 h
        refine lv_iload hx hb dX7_busiest_61 (lv_at hl 6 rfl) ?_
        refine lv_istore_n (lv' := [(3, .int x5), (6, .int r3), (0, .ref (ga g 0)), (1, .int x1), (2, .int x2), (4, .int x4), (5, .int x5)]) hx hb dX7_busiest_63 rfl hl (Nat.le_of_ble_eq_true rfl) rfl (fun ls hl => ?_)
        refine lv_iload hx hb dX7_busiest_64 (lv_at hl 1 rfl) ?_
        refine lv_istore (lv' := [(4, .int r3), (3, .int x5), (6, .int r3), (0, .ref (ga g 0)), (1, .int x1), (2, .int x2), (5, .int x5)]) hx hb dX7_busiest_66 hl (Nat.le_of_ble_eq_true rfl) rfl (fun ls hl => ?_)
        exact w_X7_busiest_68 C hr ih σ x1 x2 x5 r3 x5 h _ _ _ hd (lv_sub hl [3, 4, 5, 1, 0, 6] rfl)
noncomputable def f_X7_busiest (F : Nat) (σ : St) (x1 : Int32) (x2 : Int32) : Option Int32 :=
  cal (f_X2_hasLine F σ x1) (fun r1 => if r1 = 0 then (some (-1 : Int32)) else (if x2 < 0 then (some (-1 : Int32)) else (if x2 ≤ 1 then (f_X7_busiest_30 F F σ x1 x2 0 0 0) else (some (-1 : Int32)))))
set_option maxRecDepth 100000 in
set_option maxHeartbeats 4000000 in
theorem c_X7_busiest {l : Launch} {g : Gp} {X : va_W} (hE : E0 g) {F : Nat} {r' : Int32} {σ : St} {x1 : Int32} {x2 : Int32} (h : f_X7_busiest F σ x1 x2 = some r') : Ci l g yX7_busiest cX7_busiest 7 (some .int) 3 [.ref (ga g 0), .int x1, .int x2] (wD g σ ++ X) r' (wD g σ ++ X) := by
  refine rHead hE (by decide +kernel) (Nat.le_of_ble_eq_true rfl) (fun p e s m below meth c C hr _ hd ls hl => ?_)
  have hx := C.1
  have hb := C.2.1
  have hl : lv_has ls 7 [(0, .ref (ga g 0)), (1, .int x1), (2, .int x2)] := hl
  generalize ([.ref (ga g 0), .int x1, .int x2] : List Value).toArray = args at C ⊢
  have C : Cx g p s m args meth c cX7_busiest 7 RX7 := C
  rw [f_X7_busiest] at h
  refine lv_aload_n hx hb dX7_busiest_0 rfl (lv_at hl 0 rfl) ?_
  refine gX7_20 C hd dX7_busiest_1 ?_
  refine lv_iload_n hx hb dX7_busiest_4 rfl (lv_at hl 1 rfl) ?_
  obtain ⟨r1, er1, h⟩ := cal_e h
  refine rCallI C hd (c_X2_hasLine hE er1) kX7_282 2 rfl rfl rfl rfl hl.1 rfl (Nat.le_of_ble_eq_true rfl) ⟨(Nat.le_of_ble_eq_true rfl), (Nat.le_of_ble_eq_true rfl)⟩ ⟨Nat.le_refl _, Nat.le_refl _⟩ dX7_busiest_5 (fun H locs hd => ?_)
  refine lv_if_eq (tgt := 20) hx hb dX7_busiest_8 (by decide) (fun c2 => ?_) (fun c2 => ?_)
  · replace h := iteT c2 h
    refine lv_iconst (v := (-1 : Int32)) hx hb dX7_busiest_20 ic_m1 ?_
    exact rIretP C hr hd h dX7_busiest_21
  · replace h := iteF c2 h
    refine lv_iload_n hx hb dX7_busiest_11 rfl (lv_at hl 2 rfl) ?_
    refine lv_if_lt (tgt := 20) hx hb dX7_busiest_12 (by decide) (fun c3 => ?_) (fun c3 => ?_)
    · replace h := iteT c3 h
      refine lv_iconst (v := (-1 : Int32)) hx hb dX7_busiest_20 ic_m1 ?_
      exact rIretP C hr hd h dX7_busiest_21
    · replace h := iteF c3 h
      refine lv_iload_n hx hb dX7_busiest_15 rfl (lv_at hl 2 rfl) ?_
      refine lv_iconst (v := 1) hx hb dX7_busiest_16 ic_1 ?_
      refine lv_icmp_le (tgt := 22) hx hb dX7_busiest_17 (by decide) (fun c4 => ?_) (fun c4 => ?_)
      · replace h := iteT c4 h
        refine lv_iconst (v := 0) hx hb dX7_busiest_22 ic_0 ?_
        refine lv_istore_n (lv' := [(3, .int 0), (0, .ref (ga g 0)), (1, .int x1), (2, .int x2)]) hx hb dX7_busiest_23 rfl hl (Nat.le_of_ble_eq_true rfl) rfl (fun ls hl => ?_)
        refine lv_iconst (v := 0) hx hb dX7_busiest_24 ic_0 ?_
        refine lv_istore (lv' := [(4, .int 0), (3, .int 0), (0, .ref (ga g 0)), (1, .int x1), (2, .int x2)]) hx hb dX7_busiest_25 hl (Nat.le_of_ble_eq_true rfl) rfl (fun ls hl => ?_)
        refine lv_iconst (v := 0) hx hb dX7_busiest_27 ic_0 ?_
        refine lv_istore (lv' := [(5, .int 0), (4, .int 0), (3, .int 0), (0, .ref (ga g 0)), (1, .int x1), (2, .int x2)]) hx hb dX7_busiest_28 hl (Nat.le_of_ble_eq_true rfl) rfl (fun ls hl => ?_)
        exact w_X7_busiest_30 C hr _ σ x1 x2 0 0 0 h _ _ _ hd (lv_sub hl [3, 4, 5, 2, 1, 0] rfl)
      · replace h := iteF c4 h
        refine lv_iconst (v := (-1 : Int32)) hx hb dX7_busiest_20 ic_m1 ?_
        exact rIretP C hr hd h dX7_busiest_21
noncomputable def f_X7_close (F : Nat) (σ : St) (x1 : Int32) : Option (Int32 × St) :=
  cal2 (f_X0_shut F σ x1) (fun r1 t2 => if r1 = 0 ∨ r1 = 1 then some (r1, t2) else none)
set_option maxRecDepth 100000 in
set_option maxHeartbeats 4000000 in
theorem c_X7_close {l : Launch} {g : Gp} {X : va_W} (hE : E0 g) {F : Nat} {r' : Int32} {σ' : St} {σ : St} {x1 : Int32} (h : f_X7_close F σ x1 = some (r', σ')) : Ci l g yX7_close cX7_close 2 (some .boolean) 3 [.ref (ga g 0), .int x1] (wD g σ ++ X) r' (wD g σ' ++ X) := by
  refine rHead hE (by decide +kernel) (Nat.le_of_ble_eq_true rfl) (fun p e s m below meth c C hr _ hd ls hl => ?_)
  have hx := C.1
  have hb := C.2.1
  have hl : lv_has ls 2 [(0, .ref (ga g 0)), (1, .int x1)] := hl
  generalize ([.ref (ga g 0), .int x1] : List Value).toArray = args at C ⊢
  have C : Cx g p s m args meth c cX7_close 2 RX7 := C
  rw [f_X7_close] at h
  refine lv_aload_n hx hb dX7_close_0 rfl (lv_at hl 0 rfl) ?_
  refine gX7_25 C hd dX7_close_1 ?_
  refine lv_iload_n hx hb dX7_close_4 rfl (lv_at hl 1 rfl) ?_
  obtain ⟨r1, t2, et2, h⟩ := cal2_e h
  refine rCallI C hd (c_X0_shut hE et2) kX7_222 3 rfl rfl rfl rfl hl.1 rfl (Nat.le_of_ble_eq_true rfl) ⟨(Nat.le_of_ble_eq_true rfl), (Nat.le_of_ble_eq_true rfl)⟩ ⟨Nat.le_refl _, Nat.le_refl _⟩ dX7_close_5 (fun H locs hd => ?_)
  obtain ⟨n3, h⟩ := chk h
  exact rZretS (w := wD g) C hr hd h n3 dX7_close_8
noncomputable def f_X7_combine_47 (F : Nat) : Nat → St → Int32 → Int32 → Int32 → Option (Int32 × St)
  | 0, _, _, _, _ => none
  | n + 1, σ, x1, x2, x3 => if (σ.1 4) ≤ x3 then (cal2 (f_X0_shut F σ x2) (fun r2 t3 => some (x2, t3))) else (cal (f_X0_cellOf F σ x1 x3) (fun r4 => cal (f_X0_sourceIn F σ r4) (fun r5 => cal (f_X0_placeIn F σ r4) (fun r6 => cal (f_X0_valueIn F σ r4) (fun r7 => cal (f_X0_put F σ x2 x3 r5 r6 r7) (fun t8 => bnd (x3 + 1) (fun v9 => f_X7_combine_47 F n t8 x1 x2 v9)))))))
set_option maxRecDepth 100000 in
set_option maxHeartbeats 4000000 in
theorem w_X7_combine_47 {F : Nat} {r' : Int32} {σ' : St}  (C : Cx g p s m args meth c cX7_combine 5 RX7) (hr : meth.sig.returnType = some .int) :
    (∀ (n : Nat) (σ : St) (x1 : Int32) (x2 : Int32) (x3 : Int32), f_X7_combine_47 F n σ x1 x2 x3 = some (r', σ') → ∀ (H : Heap) (locs : List Loc) (ls : Array Slot), Dy g (wD g σ ++ X) s H locs → lv_has ls 5 [(0, .ref (ga g 0)), (1, .int x1), (2, .int x2), (3, .int x3)] → W p l e (rmD 3) s m args below meth c H locs 0 0 (QI g below args s (wD g σ' ++ X) r') (F0 m 47 ls [])) := by
  have hx := C.1
  have hb := C.2.1
  have hE := C.2.2.2.2.2.2.2.2
  intro n
  induction n with
  | zero =>
    intro σ x1 x2 x3 h
    cases h
  | succ n ih =>
    intro σ x1 x2 x3 h H locs ls hd hl
    rw [f_X7_combine_47] at h
    refine lv_iload_n hx hb dX7_combine_47 rfl (lv_at hl 3 rfl) ?_
    refine lv_aload_n hx hb dX7_combine_48 rfl (lv_at hl 0 rfl) ?_
    refine gX7_10 C hd dX7_combine_49 ?_
    refine gX7_225 C hd dX7_combine_52 ?_
    refine lv_icmp_ge (tgt := 111) hx hb dX7_combine_55 (by decide) (fun c1 => ?_) (fun c1 => ?_)
    · replace h := iteT c1 h
      refine lv_aload_n hx hb dX7_combine_111 rfl (lv_at hl 0 rfl) ?_
      refine gX7_25 C hd dX7_combine_112 ?_
      refine lv_iload_n hx hb dX7_combine_115 rfl (lv_at hl 2 rfl) ?_
      obtain ⟨r2, t3, et3, h⟩ := cal2_e h
      refine rCallI C hd (c_X0_shut hE et3) kX7_222 3 rfl rfl rfl rfl hl.1 rfl (Nat.le_of_ble_eq_true rfl) ⟨(Nat.le_of_ble_eq_true rfl), (Nat.le_of_ble_eq_true rfl)⟩ ⟨Nat.le_refl _, Nat.le_refl _⟩ dX7_combine_116 (fun H locs hd => ?_)
      refine lv_pop hx hb dX7_combine_119 rfl ?_
      refine lv_iload_n hx hb dX7_combine_120 rfl (lv_at hl 2 rfl) ?_
      exact rIretS (w := wD g) C hr hd h dX7_combine_121
    · replace h := iteF c1 h
      refine lv_aload_n hx hb dX7_combine_58 rfl (lv_at hl 0 rfl) ?_
      refine gX7_25 C hd dX7_combine_59 ?_
      refine lv_iload_n hx hb dX7_combine_62 rfl (lv_at hl 1 rfl) ?_
      refine lv_iload_n hx hb dX7_combine_63 rfl (lv_at hl 3 rfl) ?_
      obtain ⟨r4, er4, h⟩ := cal_e h
      refine rCallI C hd (c_X0_cellOf hE er4) kX7_229 3 rfl rfl rfl rfl hl.1 rfl (Nat.le_of_ble_eq_true rfl) ⟨(Nat.le_of_ble_eq_true rfl), (Nat.le_of_ble_eq_true rfl)⟩ ⟨Nat.le_refl _, Nat.le_refl _⟩ dX7_combine_64 (fun H locs hd => ?_)
      refine lv_istore (lv' := [(4, .int r4), (0, .ref (ga g 0)), (1, .int x1), (2, .int x2), (3, .int x3)]) hx hb dX7_combine_67 hl (Nat.le_of_ble_eq_true rfl) rfl (fun ls hl => ?_)
      refine lv_aload_n hx hb dX7_combine_69 rfl (lv_at hl 1 rfl) ?_
      refine gX7_25 C hd dX7_combine_70 ?_
      refine lv_iload_n hx hb dX7_combine_73 rfl (lv_at hl 3 rfl) ?_
      refine lv_iload_n hx hb dX7_combine_74 rfl (lv_at hl 4 rfl) ?_
      refine lv_aload_n hx hb dX7_combine_75 rfl (lv_at hl 1 rfl) ?_
      refine gX7_25 C hd dX7_combine_76 ?_
      refine lv_iload hx hb dX7_combine_79 (lv_at hl 0 rfl) ?_
      obtain ⟨r5, er5, h⟩ := cal_e h
      refine rCallI C hd (c_X0_sourceIn hE er5) kX7_232 3 rfl rfl rfl rfl hl.1 rfl (Nat.le_of_ble_eq_true rfl) ⟨(Nat.le_of_ble_eq_true rfl), (Nat.le_of_ble_eq_true rfl)⟩ ⟨Nat.le_refl _, Nat.le_refl _⟩ dX7_combine_81 (fun H locs hd => ?_)
      refine lv_aload_n hx hb dX7_combine_84 rfl (lv_at hl 1 rfl) ?_
      refine gX7_25 C hd dX7_combine_85 ?_
      refine lv_iload hx hb dX7_combine_88 (lv_at hl 0 rfl) ?_
      obtain ⟨r6, er6, h⟩ := cal_e h
      refine rCallI C hd (c_X0_placeIn hE er6) kX7_235 3 rfl rfl rfl rfl hl.1 rfl (Nat.le_of_ble_eq_true rfl) ⟨(Nat.le_of_ble_eq_true rfl), (Nat.le_of_ble_eq_true rfl)⟩ ⟨Nat.le_refl _, Nat.le_refl _⟩ dX7_combine_90 (fun H locs hd => ?_)
      refine lv_aload_n hx hb dX7_combine_93 rfl (lv_at hl 1 rfl) ?_
      refine gX7_25 C hd dX7_combine_94 ?_
      refine lv_iload hx hb dX7_combine_97 (lv_at hl 0 rfl) ?_
      obtain ⟨r7, er7, h⟩ := cal_e h
      refine rCallI C hd (c_X0_valueIn hE er7) kX7_238 3 rfl rfl rfl rfl hl.1 rfl (Nat.le_of_ble_eq_true rfl) ⟨(Nat.le_of_ble_eq_true rfl), (Nat.le_of_ble_eq_true rfl)⟩ ⟨Nat.le_refl _, Nat.le_refl _⟩ dX7_combine_99 (fun H locs hd => ?_)
      obtain ⟨t8, et8, h⟩ := cal_e h
      refine rCallV C hd (c_X0_put hE et8) kX7_218 3 rfl rfl rfl rfl hl.1 rfl (Nat.le_of_ble_eq_true rfl) ⟨(Nat.le_of_ble_eq_true rfl), (Nat.le_of_ble_eq_true rfl)⟩ ⟨Nat.le_refl _, Nat.le_refl _⟩ dX7_combine_102 (fun H locs hd => ?_)
      obtain ⟨v9, ev9, h⟩ := bnd_e h
      refine lv_iinc (v := v9) (lv' := [(3, .int v9), (4, .int r4), (0, .ref (ga g 0)), (1, .int x1), (2, .int x2)]) hx hb dX7_combine_105 hl (k := 4) rfl ((ii_1 _).trans ev9.symm) (Nat.le_of_ble_eq_true rfl) rfl (fun ls hl => ?_)
      refine lv_goto (tgt := 47) hx hb dX7_combine_108 (by decide) ?_
      exact ih t8 x1 x2 v9 h _ _ _ hd (lv_sub hl [2, 3, 4, 0] rfl)
noncomputable def f_X7_combine (F : Nat) (σ : St) (x1 : Int32) : Option (Int32 × St) :=
  cal (f_X0_isFit F σ x1 (σ.1 4)) (fun r1 => if r1 = 0 then (some ((-1 : Int32), σ)) else (cal (f_X0_lineOf F σ x1) (fun r3 => cal2 (f_X0_begin F σ r3 (-2 : Int32)) (fun r4 t5 => if r4 = (-1 : Int32) then (some ((-1 : Int32), t5)) else (f_X7_combine_47 F F t5 x1 r4 0)))))
set_option maxRecDepth 100000 in
set_option maxHeartbeats 4000000 in
theorem c_X7_combine {l : Launch} {g : Gp} {X : va_W} (hE : E0 g) {F : Nat} {r' : Int32} {σ' : St} {σ : St} {x1 : Int32} (h : f_X7_combine F σ x1 = some (r', σ')) : Ci l g yX7_combine cX7_combine 5 (some .int) 3 [.ref (ga g 0), .int x1] (wD g σ ++ X) r' (wD g σ' ++ X) := by
  refine rHead hE (by decide +kernel) (Nat.le_of_ble_eq_true rfl) (fun p e s m below meth c C hr _ hd ls hl => ?_)
  have hx := C.1
  have hb := C.2.1
  have hl : lv_has ls 5 [(0, .ref (ga g 0)), (1, .int x1)] := hl
  generalize ([.ref (ga g 0), .int x1] : List Value).toArray = args at C ⊢
  have C : Cx g p s m args meth c cX7_combine 5 RX7 := C
  rw [f_X7_combine] at h
  refine lv_aload_n hx hb dX7_combine_0 rfl (lv_at hl 0 rfl) ?_
  refine gX7_25 C hd dX7_combine_1 ?_
  refine lv_iload_n hx hb dX7_combine_4 rfl (lv_at hl 1 rfl) ?_
  refine lv_aload_n hx hb dX7_combine_5 rfl (lv_at hl 0 rfl) ?_
  refine gX7_10 C hd dX7_combine_6 ?_
  refine gX7_225 C hd dX7_combine_9 ?_
  obtain ⟨r1, er1, h⟩ := cal_e h
  refine rCallI C hd (c_X0_isFit hE er1) kX7_226 3 rfl rfl rfl rfl hl.1 rfl (Nat.le_of_ble_eq_true rfl) ⟨(Nat.le_of_ble_eq_true rfl), (Nat.le_of_ble_eq_true rfl)⟩ ⟨Nat.le_refl _, Nat.le_refl _⟩ dX7_combine_12 (fun H locs hd => ?_)
  refine lv_if_ne (tgt := 20) hx hb dX7_combine_15 (by decide) (fun c2 => ?_) (fun c2 => ?_)
  · replace h := iteF c2 h
    refine lv_aload_n hx hb dX7_combine_20 rfl (lv_at hl 0 rfl) ?_
    refine gX7_25 C hd dX7_combine_21 ?_
    refine lv_aload_n hx hb dX7_combine_24 rfl (lv_at hl 0 rfl) ?_
    refine gX7_25 C hd dX7_combine_25 ?_
    refine lv_iload_n hx hb dX7_combine_28 rfl (lv_at hl 1 rfl) ?_
    obtain ⟨r3, er3, h⟩ := cal_e h
    refine rCallI C hd (c_X0_lineOf hE er3) kX7_212 3 rfl rfl rfl rfl hl.1 rfl (Nat.le_of_ble_eq_true rfl) ⟨(Nat.le_of_ble_eq_true rfl), (Nat.le_of_ble_eq_true rfl)⟩ ⟨Nat.le_refl _, Nat.le_refl _⟩ dX7_combine_29 (fun H locs hd => ?_)
    refine lv_bipush (v := (-2 : Int32)) hx hb dX7_combine_32 bi_m2 ?_
    obtain ⟨r4, t5, et5, h⟩ := cal2_e h
    refine rCallI C hd (c_X0_begin hE et5) kX7_207 3 rfl rfl rfl rfl hl.1 rfl (Nat.le_of_ble_eq_true rfl) ⟨(Nat.le_of_ble_eq_true rfl), (Nat.le_of_ble_eq_true rfl)⟩ ⟨Nat.le_refl _, Nat.le_refl _⟩ dX7_combine_34 (fun H locs hd => ?_)
    refine lv_istore_n (lv' := [(2, .int r4), (0, .ref (ga g 0)), (1, .int x1)]) hx hb dX7_combine_37 rfl hl (Nat.le_of_ble_eq_true rfl) rfl (fun ls hl => ?_)
    refine lv_iload_n hx hb dX7_combine_38 rfl (lv_at hl 0 rfl) ?_
    refine lv_iconst (v := (-1 : Int32)) hx hb dX7_combine_39 ic_m1 ?_
    refine lv_icmp_ne (tgt := 45) hx hb dX7_combine_40 (by decide) (fun c6 => ?_) (fun c6 => ?_)
    · replace h := iteF c6 h
      refine lv_iconst (v := 0) hx hb dX7_combine_45 ic_0 ?_
      refine lv_istore_n (lv' := [(3, .int 0), (2, .int r4), (0, .ref (ga g 0)), (1, .int x1)]) hx hb dX7_combine_46 rfl hl (Nat.le_of_ble_eq_true rfl) rfl (fun ls hl => ?_)
      exact w_X7_combine_47 C hr _ t5 x1 r4 0 h _ _ _ hd (lv_sub hl [2, 3, 1, 0] rfl)
    · replace h := iteT c6 h
      refine lv_iconst (v := (-1 : Int32)) hx hb dX7_combine_43 ic_m1 ?_
      exact rIretS (w := wD g) C hr hd h dX7_combine_44
  · replace h := iteT c2 h
    refine lv_iconst (v := (-1 : Int32)) hx hb dX7_combine_18 ic_m1 ?_
    exact rIretS (w := wD g) C hr hd h dX7_combine_19
noncomputable def f_X7_common_47 (F : Nat) : Nat → St → Int32 → Int32 → Int32 → Int32 → Option Int32
  | 0, _, _, _, _, _ => none
  | n + 1, σ, x1, x2, x3, x4 => if x3 ≤ x4 then (some x4) else (cal (f_X2_rowOf F σ x1 (x4 + 1)) (fun r2 => cal (f_X2_rowOf F σ x2 (x4 + 1)) (fun r3 => if r2 = r3 then (bnd (x4 + 1) (fun v5 => f_X7_common_47 F n σ x1 x2 x3 v5)) else (some x4))))
set_option maxRecDepth 100000 in
set_option maxHeartbeats 4000000 in
theorem w_X7_common_47 {F : Nat} {r' : Int32}  (C : Cx g p s m args meth c cX7_common 5 RX7) (hr : meth.sig.returnType = some .int) :
    (∀ (n : Nat) (σ : St) (x1 : Int32) (x2 : Int32) (x3 : Int32) (x4 : Int32), f_X7_common_47 F n σ x1 x2 x3 x4 = some r' → ∀ (H : Heap) (locs : List Loc) (ls : Array Slot), Dy g (wD g σ ++ X) s H locs → lv_has ls 5 [(0, .ref (ga g 0)), (1, .int x1), (2, .int x2), (3, .int x3), (4, .int x4)] → W p l e (rmD 2) s m args below meth c H locs 0 0 (QI g below args s (wD g σ ++ X) r') (F0 m 47 ls [])) := by
  have hx := C.1
  have hb := C.2.1
  have hE := C.2.2.2.2.2.2.2.2
  intro n
  induction n with
  | zero =>
    intro σ x1 x2 x3 x4 h
    cases h
  | succ n ih =>
    intro σ x1 x2 x3 x4 h H locs ls hd hl
    rw [f_X7_common_47] at h
    refine lv_iload hx hb dX7_common_47 (lv_at hl 4 rfl) ?_
    refine lv_iload_n hx hb dX7_common_49 rfl (lv_at hl 3 rfl) ?_
    refine lv_icmp_ge (tgt := 86) hx hb dX7_common_50 (by decide) (fun c1 => ?_) (fun c1 => ?_)
    · replace h := iteT c1 h
      refine lv_iload hx hb dX7_common_86 (lv_at hl 4 rfl) ?_
      exact rIretP C hr hd h dX7_common_88
    · replace h := iteF c1 h
      refine lv_aload_n hx hb dX7_common_53 rfl (lv_at hl 0 rfl) ?_
      refine gX7_20 C hd dX7_common_54 ?_
      refine lv_iload_n hx hb dX7_common_57 rfl (lv_at hl 1 rfl) ?_
      refine lv_iload hx hb dX7_common_58 (lv_at hl 4 rfl) ?_
      refine lv_iconst (v := 1) hx hb dX7_common_60 ic_1 ?_
      refine lv_iadd hx hb dX7_common_61 ?_
      obtain ⟨r2, er2, h⟩ := cal_e h
      refine rCallI C hd (c_X2_rowOf hE er2) kX7_266 2 rfl rfl rfl rfl hl.1 rfl (Nat.le_of_ble_eq_true rfl) ⟨(Nat.le_of_ble_eq_true rfl), (Nat.le_of_ble_eq_true rfl)⟩ ⟨Nat.le_refl _, Nat.le_refl _⟩ dX7_common_62 (fun H locs hd => ?_)
      refine lv_aload_n hx hb dX7_common_65 rfl (lv_at hl 0 rfl) ?_
      refine gX7_20 C hd dX7_common_66 ?_
      refine lv_iload_n hx hb dX7_common_69 rfl (lv_at hl 2 rfl) ?_
      refine lv_iload hx hb dX7_common_70 (lv_at hl 4 rfl) ?_
      refine lv_iconst (v := 1) hx hb dX7_common_72 ic_1 ?_
      refine lv_iadd hx hb dX7_common_73 ?_
      obtain ⟨r3, er3, h⟩ := cal_e h
      refine rCallI C hd (c_X2_rowOf hE er3) kX7_266 2 rfl rfl rfl rfl hl.1 rfl (Nat.le_of_ble_eq_true rfl) ⟨(Nat.le_of_ble_eq_true rfl), (Nat.le_of_ble_eq_true rfl)⟩ ⟨Nat.le_refl _, Nat.le_refl _⟩ dX7_common_74 (fun H locs hd => ?_)
      refine lv_icmp_ne (tgt := 86) hx hb dX7_common_77 (by decide) (fun c4 => ?_) (fun c4 => ?_)
      · replace h := iteF c4 h
        refine lv_iload hx hb dX7_common_86 (lv_at hl 4 rfl) ?_
        exact rIretP C hr hd h dX7_common_88
      · replace h := iteT c4 h
        obtain ⟨v5, ev5, h⟩ := bnd_e h
        refine lv_iinc (v := v5) (lv' := [(4, .int v5), (0, .ref (ga g 0)), (1, .int x1), (2, .int x2), (3, .int x3)]) hx hb dX7_common_80 hl (k := 4) rfl ((ii_1 _).trans ev5.symm) (Nat.le_of_ble_eq_true rfl) rfl (fun ls hl => ?_)
        refine lv_goto (tgt := 47) hx hb dX7_common_83 (by decide) ?_
        exact ih σ x1 x2 x3 v5 h _ _ _ hd (lv_sub hl [1, 2, 3, 4, 0] rfl)
noncomputable def f_X7_common (F : Nat) (σ : St) (x1 : Int32) (x2 : Int32) : Option Int32 :=
  cal (f_X2_hasLine F σ x1) (fun r1 => if r1 = 0 then (some (-1 : Int32)) else (cal (f_X2_hasLine F σ x2) (fun r3 => if r3 = 0 then (some (-1 : Int32)) else (cal (f_X2_tipOf F σ x1) (fun r5 => cal (f_X2_tipOf F σ x2) (fun r6 => bnd (mn r5 r6) (fun v7 => f_X7_common_47 F F σ x1 x2 v7 0)))))))
set_option maxRecDepth 100000 in
set_option maxHeartbeats 4000000 in
theorem c_X7_common {l : Launch} {g : Gp} {X : va_W} (hE : E0 g) {F : Nat} {r' : Int32} {σ : St} {x1 : Int32} {x2 : Int32} (h : f_X7_common F σ x1 x2 = some r') : Ci l g yX7_common cX7_common 5 (some .int) 2 [.ref (ga g 0), .int x1, .int x2] (wD g σ ++ X) r' (wD g σ ++ X) := by
  refine rHead hE (by decide +kernel) (Nat.le_of_ble_eq_true rfl) (fun p e s m below meth c C hr _ hd ls hl => ?_)
  have hx := C.1
  have hb := C.2.1
  have hl : lv_has ls 5 [(0, .ref (ga g 0)), (1, .int x1), (2, .int x2)] := hl
  generalize ([.ref (ga g 0), .int x1, .int x2] : List Value).toArray = args at C ⊢
  have C : Cx g p s m args meth c cX7_common 5 RX7 := C
  rw [f_X7_common] at h
  refine lv_aload_n hx hb dX7_common_0 rfl (lv_at hl 0 rfl) ?_
  refine gX7_20 C hd dX7_common_1 ?_
  refine lv_iload_n hx hb dX7_common_4 rfl (lv_at hl 1 rfl) ?_
  obtain ⟨r1, er1, h⟩ := cal_e h
  refine rCallI C hd (c_X2_hasLine hE er1) kX7_282 2 rfl rfl rfl rfl hl.1 rfl (Nat.le_of_ble_eq_true rfl) ⟨(Nat.le_of_ble_eq_true rfl), (Nat.le_of_ble_eq_true rfl)⟩ ⟨Nat.le_refl _, Nat.le_refl _⟩ dX7_common_5 (fun H locs hd => ?_)
  refine lv_if_eq (tgt := 22) hx hb dX7_common_8 (by decide) (fun c2 => ?_) (fun c2 => ?_)
  · replace h := iteT c2 h
    refine lv_iconst (v := (-1 : Int32)) hx hb dX7_common_22 ic_m1 ?_
    exact rIretP C hr hd h dX7_common_23
  · replace h := iteF c2 h
    refine lv_aload_n hx hb dX7_common_11 rfl (lv_at hl 0 rfl) ?_
    refine gX7_20 C hd dX7_common_12 ?_
    refine lv_iload_n hx hb dX7_common_15 rfl (lv_at hl 2 rfl) ?_
    obtain ⟨r3, er3, h⟩ := cal_e h
    refine rCallI C hd (c_X2_hasLine hE er3) kX7_282 2 rfl rfl rfl rfl hl.1 rfl (Nat.le_of_ble_eq_true rfl) ⟨(Nat.le_of_ble_eq_true rfl), (Nat.le_of_ble_eq_true rfl)⟩ ⟨Nat.le_refl _, Nat.le_refl _⟩ dX7_common_16 (fun H locs hd => ?_)
    refine lv_if_ne (tgt := 24) hx hb dX7_common_19 (by decide) (fun c4 => ?_) (fun c4 => ?_)
    · replace h := iteF c4 h
      refine lv_aload_n hx hb dX7_common_24 rfl (lv_at hl 0 rfl) ?_
      refine gX7_20 C hd dX7_common_25 ?_
      refine lv_iload_n hx hb dX7_common_28 rfl (lv_at hl 1 rfl) ?_
      obtain ⟨r5, er5, h⟩ := cal_e h
      refine rCallI C hd (c_X2_tipOf hE er5) kX7_285 2 rfl rfl rfl rfl hl.1 rfl (Nat.le_of_ble_eq_true rfl) ⟨(Nat.le_of_ble_eq_true rfl), (Nat.le_of_ble_eq_true rfl)⟩ ⟨Nat.le_refl _, Nat.le_refl _⟩ dX7_common_29 (fun H locs hd => ?_)
      refine lv_aload_n hx hb dX7_common_32 rfl (lv_at hl 0 rfl) ?_
      refine gX7_20 C hd dX7_common_33 ?_
      refine lv_iload_n hx hb dX7_common_36 rfl (lv_at hl 2 rfl) ?_
      obtain ⟨r6, er6, h⟩ := cal_e h
      refine rCallI C hd (c_X2_tipOf hE er6) kX7_285 2 rfl rfl rfl rfl hl.1 rfl (Nat.le_of_ble_eq_true rfl) ⟨(Nat.le_of_ble_eq_true rfl), (Nat.le_of_ble_eq_true rfl)⟩ ⟨Nat.le_refl _, Nat.le_refl _⟩ dX7_common_37 (fun H locs hd => ?_)
      refine rMin C hl.1 (mT 1176 (by decide +kernel)) (mT 380 (by decide +kernel)) (mT 14 (by decide +kernel)) (mT 381 (by decide +kernel)) ⟨(Nat.le_of_ble_eq_true rfl), (Nat.le_of_ble_eq_true rfl)⟩ ⟨Nat.le_refl _, Nat.le_refl _⟩ dX7_common_40 ?_
      obtain ⟨v7, ev7, h⟩ := bnd_e h
      refine rTop ev7 ?_
      refine lv_istore_n (lv' := [(3, .int v7), (0, .ref (ga g 0)), (1, .int x1), (2, .int x2)]) hx hb dX7_common_43 rfl hl (Nat.le_of_ble_eq_true rfl) rfl (fun ls hl => ?_)
      refine lv_iconst (v := 0) hx hb dX7_common_44 ic_0 ?_
      refine lv_istore (lv' := [(4, .int 0), (3, .int v7), (0, .ref (ga g 0)), (1, .int x1), (2, .int x2)]) hx hb dX7_common_45 hl (Nat.le_of_ble_eq_true rfl) rfl (fun ls hl => ?_)
      exact w_X7_common_47 C hr _ σ x1 x2 v7 0 h _ _ _ hd (lv_sub hl [2, 3, 4, 1, 0] rfl)
    · replace h := iteT c4 h
      refine lv_iconst (v := (-1 : Int32)) hx hb dX7_common_22 ic_m1 ?_
      exact rIretP C hr hd h dX7_common_23
noncomputable def f_X7_copy_18 (F : Nat) (σ : St) (x1 : Int32) : Option (Int32 × St) :=
  cal (f_X2_going F σ) (fun r1 => if x1 = (-1 : Int32) then (cal2 (f_X0_begin F σ r1 (-2 : Int32)) (fun r5 t6 => some (r5, t6))) else (cal2 (f_X0_begin F σ r1 x1) (fun r3 t4 => some (r3, t4))))
set_option maxRecDepth 100000 in
set_option maxHeartbeats 4000000 in
theorem w_X7_copy_18 {F : Nat} {r' : Int32} {σ' : St}  (C : Cx g p s m args meth c cX7_copy 2 RX7) (hr : meth.sig.returnType = some .int) :
    (∀ (σ : St) (x1 : Int32), f_X7_copy_18 F σ x1 = some (r', σ') → ∀ (H : Heap) (locs : List Loc) (ls : Array Slot), Dy g (wD g σ ++ X) s H locs → lv_has ls 2 [(0, .ref (ga g 0)), (1, .int x1)] → W p l e (rmD 1) s m args below meth c H locs 0 0 (QI g below args s (wD g σ' ++ X) r') (F0 m 18 ls [])) := by
  have hx := C.1
  have hb := C.2.1
  have hE := C.2.2.2.2.2.2.2.2
  intro σ x1 h H locs ls hd hl
  rw [f_X7_copy_18] at h
  refine lv_aload_n hx hb dX7_copy_18 rfl (lv_at hl 0 rfl) ?_
  refine gX7_25 C hd dX7_copy_19 ?_
  refine lv_aload_n hx hb dX7_copy_22 rfl (lv_at hl 0 rfl) ?_
  refine gX7_20 C hd dX7_copy_23 ?_
  obtain ⟨r1, er1, h⟩ := cal_e h
  refine rCallI C hd (c_X2_going hE er1) kX7_129 2 rfl rfl rfl rfl hl.1 rfl (Nat.le_of_ble_eq_true rfl) ⟨(Nat.le_of_ble_eq_true rfl), (Nat.le_of_ble_eq_true rfl)⟩ ⟨Nat.le_refl _, Nat.le_refl _⟩ dX7_copy_26 (fun H locs hd => ?_)
  refine lv_iload_n hx hb dX7_copy_29 rfl (lv_at hl 1 rfl) ?_
  refine lv_iconst (v := (-1 : Int32)) hx hb dX7_copy_30 ic_m1 ?_
  refine lv_icmp_ne (tgt := 39) hx hb dX7_copy_31 (by decide) (fun c2 => ?_) (fun c2 => ?_)
  · replace h := iteF c2 h
    refine lv_iload_n hx hb dX7_copy_39 rfl (lv_at hl 1 rfl) ?_
    obtain ⟨r3, t4, et4, h⟩ := cal2_e h
    refine rCallI C hd (c_X0_begin hE et4) kX7_207 3 rfl rfl rfl rfl hl.1 rfl (Nat.le_of_ble_eq_true rfl) ⟨(Nat.le_of_ble_eq_true rfl), (Nat.le_of_ble_eq_true rfl)⟩ ⟨Nat.le_refl _, Nat.le_refl _⟩ dX7_copy_40 (fun H locs hd => ?_)
    exact rIretS (w := wD g) C hr hd h dX7_copy_43
  · replace h := iteT c2 h
    refine lv_bipush (v := (-2 : Int32)) hx hb dX7_copy_34 bi_m2 ?_
    refine lv_goto (tgt := 40) hx hb dX7_copy_36 (by decide) ?_
    obtain ⟨r5, t6, et6, h⟩ := cal2_e h
    refine rCallI C hd (c_X0_begin hE et6) kX7_207 3 rfl rfl rfl rfl hl.1 rfl (Nat.le_of_ble_eq_true rfl) ⟨(Nat.le_of_ble_eq_true rfl), (Nat.le_of_ble_eq_true rfl)⟩ ⟨Nat.le_refl _, Nat.le_refl _⟩ dX7_copy_40 (fun H locs hd => ?_)
    exact rIretS (w := wD g) C hr hd h dX7_copy_43
noncomputable def f_X7_copy (F : Nat) (σ : St) (x1 : Int32) : Option (Int32 × St) :=
  if x1 = (-1 : Int32) then (f_X7_copy_18 F σ x1) else (cal (f_X0_hasCopy F σ x1) (fun r2 => if r2 = 0 then (some ((-1 : Int32), σ)) else (f_X7_copy_18 F σ x1)))
set_option maxRecDepth 100000 in
set_option maxHeartbeats 4000000 in
theorem c_X7_copy {l : Launch} {g : Gp} {X : va_W} (hE : E0 g) {F : Nat} {r' : Int32} {σ' : St} {σ : St} {x1 : Int32} (h : f_X7_copy F σ x1 = some (r', σ')) : Ci l g yX7_copy cX7_copy 2 (some .int) 1 [.ref (ga g 0), .int x1] (wD g σ ++ X) r' (wD g σ' ++ X) := by
  refine rHead hE (by decide +kernel) (Nat.le_of_ble_eq_true rfl) (fun p e s m below meth c C hr _ hd ls hl => ?_)
  have hx := C.1
  have hb := C.2.1
  have hl : lv_has ls 2 [(0, .ref (ga g 0)), (1, .int x1)] := hl
  generalize ([.ref (ga g 0), .int x1] : List Value).toArray = args at C ⊢
  have C : Cx g p s m args meth c cX7_copy 2 RX7 := C
  rw [f_X7_copy] at h
  refine lv_iload_n hx hb dX7_copy_0 rfl (lv_at hl 1 rfl) ?_
  refine lv_iconst (v := (-1 : Int32)) hx hb dX7_copy_1 ic_m1 ?_
  refine lv_icmp_eq (tgt := 18) hx hb dX7_copy_2 (by decide) (fun c1 => ?_) (fun c1 => ?_)
  · replace h := iteT c1 h
    exact w_X7_copy_18 C hr σ x1 h _ _ _ hd (lv_sub hl [0, 1] rfl)
  · replace h := iteF c1 h
    refine lv_aload_n hx hb dX7_copy_5 rfl (lv_at hl 0 rfl) ?_
    refine gX7_25 C hd dX7_copy_6 ?_
    refine lv_iload_n hx hb dX7_copy_9 rfl (lv_at hl 1 rfl) ?_
    obtain ⟨r2, er2, h⟩ := cal_e h
    refine rCallI C hd (c_X0_hasCopy hE er2) kX7_204 3 rfl rfl rfl rfl hl.1 rfl (Nat.le_of_ble_eq_true rfl) ⟨(Nat.le_of_ble_eq_true rfl), (Nat.le_of_ble_eq_true rfl)⟩ ⟨Nat.le_refl _, Nat.le_refl _⟩ dX7_copy_10 (fun H locs hd => ?_)
    refine lv_if_ne (tgt := 18) hx hb dX7_copy_13 (by decide) (fun c3 => ?_) (fun c3 => ?_)
    · replace h := iteF c3 h
      exact w_X7_copy_18 C hr σ x1 h _ _ _ hd (lv_sub hl [0, 1] rfl)
    · replace h := iteT c3 h
      refine lv_iconst (v := (-1 : Int32)) hx hb dX7_copy_16 ic_m1 ?_
      exact rIretS (w := wD g) C hr hd h dX7_copy_17
noncomputable def f_X7_count (F : Nat) (σ : St) (x1 : Int32) : Option Int32 :=
  if x1 = 0 then (some (σ.1 4)) else (if x1 = 1 then (some (σ.1 5)) else (if x1 = 2 then (some (σ.1 6)) else (if x1 = 3 then (cal (f_X2_going F σ) (fun r5 => some r5)) else (if x1 = 4 then (cal (f_X2_now F σ) (fun r7 => some r7)) else (if x1 = 5 then (some (σ.1 7)) else (if x1 = 6 then (some (σ.1 8)) else (if x1 = 7 then (cal (f_X0_fitOnes F σ (σ.1 4)) (fun r11 => some r11)) else (if x1 = 8 then (some (σ.1 1)) else (if x1 = 9 then (cal (f_X2_keptPieces F σ) (fun r14 => some r14)) else (if x1 = 10 then (cal (f_J6_bitCount_0f7a4 F σ (σ.1 0)) (fun r16 => some r16)) else (if x1 = 11 then (some (σ.1 3)) else (if x1 = 12 then (some (σ.1 9)) else (if x1 = 13 then (some (σ.1 10)) else (if x1 = 14 then (cal (f_X2_marks F σ) (fun r21 => some r21)) else (if x1 = 15 then (cal (f_X2_parentOnes F σ) (fun r23 => some r23)) else (some (-1 : Int32)))))))))))))))))
set_option maxRecDepth 100000 in
set_option maxHeartbeats 4000000 in
theorem c_X7_count {l : Launch} {g : Gp} {X : va_W} (hE : E0 g) {F : Nat} {r' : Int32} {σ : St} {x1 : Int32} (h : f_X7_count F σ x1 = some r') : Ci l g yX7_count cX7_count 2 (some .int) 4 [.ref (ga g 0), .int x1] (wD g σ ++ X) r' (wD g σ ++ X) := by
  refine rHead hE (by decide +kernel) (Nat.le_of_ble_eq_true rfl) (fun p e s m below meth c C hr _ hd ls hl => ?_)
  have hx := C.1
  have hb := C.2.1
  have hl : lv_has ls 2 [(0, .ref (ga g 0)), (1, .int x1)] := hl
  generalize ([.ref (ga g 0), .int x1] : List Value).toArray = args at C ⊢
  have C : Cx g p s m args meth c cX7_count 2 RX7 := C
  rw [f_X7_count] at h
  refine lv_iload_n hx hb dX7_count_0 rfl (lv_at hl 1 rfl) ?_
  by_cases c1 : x1 = 0
  · replace h := iteT c1 h
    refine rTop c1.symm ?_
    refine lv_tableIn (off := 79) (tgt := 80) hx hb dX7_count_1 (by decide) (by decide) (by decide) (by decide) ?_
    refine lv_aload_n hx hb dX7_count_80 rfl (lv_at hl 0 rfl) ?_
    refine gX7_10 C hd dX7_count_81 ?_
    refine gX7_225 C hd dX7_count_84 ?_
    exact rIretP C hr hd h dX7_count_87
  · replace h := iteF c1 h
    by_cases c2 : x1 = 1
    · replace h := iteT c2 h
      refine rTop c2.symm ?_
      refine lv_tableIn (off := 87) (tgt := 88) hx hb dX7_count_1 (by decide) (by decide) (by decide) (by decide) ?_
      refine lv_aload_n hx hb dX7_count_88 rfl (lv_at hl 0 rfl) ?_
      refine gX7_20 C hd dX7_count_89 ?_
      refine gX7_425 C hd dX7_count_92 ?_
      exact rIretP C hr hd h dX7_count_95
    · replace h := iteF c2 h
      by_cases c3 : x1 = 2
      · replace h := iteT c3 h
        refine rTop c3.symm ?_
        refine lv_tableIn (off := 95) (tgt := 96) hx hb dX7_count_1 (by decide) (by decide) (by decide) (by decide) ?_
        refine lv_aload_n hx hb dX7_count_96 rfl (lv_at hl 0 rfl) ?_
        refine gX7_20 C hd dX7_count_97 ?_
        refine gX7_244 C hd dX7_count_100 ?_
        exact rIretP C hr hd h dX7_count_103
      · replace h := iteF c3 h
        by_cases c4 : x1 = 3
        · replace h := iteT c4 h
          refine rTop c4.symm ?_
          refine lv_tableIn (off := 103) (tgt := 104) hx hb dX7_count_1 (by decide) (by decide) (by decide) (by decide) ?_
          refine lv_aload_n hx hb dX7_count_104 rfl (lv_at hl 0 rfl) ?_
          refine gX7_20 C hd dX7_count_105 ?_
          obtain ⟨r5, er5, h⟩ := cal_e h
          refine rCallI C hd (c_X2_going hE er5) kX7_129 2 rfl rfl rfl rfl hl.1 rfl (Nat.le_of_ble_eq_true rfl) ⟨(Nat.le_of_ble_eq_true rfl), (Nat.le_of_ble_eq_true rfl)⟩ ⟨Nat.le_refl _, Nat.le_refl _⟩ dX7_count_108 (fun H locs hd => ?_)
          exact rIretP C hr hd h dX7_count_111
        · replace h := iteF c4 h
          by_cases c6 : x1 = 4
          · replace h := iteT c6 h
            refine rTop c6.symm ?_
            refine lv_tableIn (off := 111) (tgt := 112) hx hb dX7_count_1 (by decide) (by decide) (by decide) (by decide) ?_
            refine lv_aload_n hx hb dX7_count_112 rfl (lv_at hl 0 rfl) ?_
            refine gX7_20 C hd dX7_count_113 ?_
            obtain ⟨r7, er7, h⟩ := cal_e h
            refine rCallI C hd (c_X2_now hE er7) kX7_123 2 rfl rfl rfl rfl hl.1 rfl (Nat.le_of_ble_eq_true rfl) ⟨(Nat.le_of_ble_eq_true rfl), (Nat.le_of_ble_eq_true rfl)⟩ ⟨Nat.le_refl _, Nat.le_refl _⟩ dX7_count_116 (fun H locs hd => ?_)
            exact rIretP C hr hd h dX7_count_119
          · replace h := iteF c6 h
            by_cases c8 : x1 = 5
            · replace h := iteT c8 h
              refine rTop c8.symm ?_
              refine lv_tableIn (off := 119) (tgt := 120) hx hb dX7_count_1 (by decide) (by decide) (by decide) (by decide) ?_
              refine lv_aload_n hx hb dX7_count_120 rfl (lv_at hl 0 rfl) ?_
              refine gX7_20 C hd dX7_count_121 ?_
              refine gX7_413 C hd dX7_count_124 ?_
              exact rIretP C hr hd h dX7_count_127
            · replace h := iteF c8 h
              by_cases c9 : x1 = 6
              · replace h := iteT c9 h
                refine rTop c9.symm ?_
                refine lv_tableIn (off := 127) (tgt := 128) hx hb dX7_count_1 (by decide) (by decide) (by decide) (by decide) ?_
                refine lv_aload_n hx hb dX7_count_128 rfl (lv_at hl 0 rfl) ?_
                refine gX7_25 C hd dX7_count_129 ?_
                refine gX7_132 C hd dX7_count_132 ?_
                exact rIretP C hr hd h dX7_count_135
              · replace h := iteF c9 h
                by_cases c10 : x1 = 7
                · replace h := iteT c10 h
                  refine rTop c10.symm ?_
                  refine lv_tableIn (off := 135) (tgt := 136) hx hb dX7_count_1 (by decide) (by decide) (by decide) (by decide) ?_
                  refine lv_aload_n hx hb dX7_count_136 rfl (lv_at hl 0 rfl) ?_
                  refine gX7_25 C hd dX7_count_137 ?_
                  refine lv_aload_n hx hb dX7_count_140 rfl (lv_at hl 0 rfl) ?_
                  refine gX7_10 C hd dX7_count_141 ?_
                  refine gX7_225 C hd dX7_count_144 ?_
                  obtain ⟨r11, er11, h⟩ := cal_e h
                  refine rCallI C hd (c_X0_fitOnes hE er11) kX7_426 3 rfl rfl rfl rfl hl.1 rfl (Nat.le_of_ble_eq_true rfl) ⟨(Nat.le_of_ble_eq_true rfl), (Nat.le_of_ble_eq_true rfl)⟩ ⟨Nat.le_refl _, Nat.le_refl _⟩ dX7_count_147 (fun H locs hd => ?_)
                  exact rIretP C hr hd h dX7_count_150
                · replace h := iteF c10 h
                  by_cases c12 : x1 = 8
                  · replace h := iteT c12 h
                    refine rTop c12.symm ?_
                    refine lv_tableIn (off := 150) (tgt := 151) hx hb dX7_count_1 (by decide) (by decide) (by decide) (by decide) ?_
                    refine lv_aload_n hx hb dX7_count_151 rfl (lv_at hl 0 rfl) ?_
                    refine gX7_47 C hd dX7_count_152 ?_
                    exact rIretP C hr hd h dX7_count_155
                  · replace h := iteF c12 h
                    by_cases c13 : x1 = 9
                    · replace h := iteT c13 h
                      refine rTop c13.symm ?_
                      refine lv_tableIn (off := 155) (tgt := 156) hx hb dX7_count_1 (by decide) (by decide) (by decide) (by decide) ?_
                      refine lv_aload_n hx hb dX7_count_156 rfl (lv_at hl 0 rfl) ?_
                      refine gX7_20 C hd dX7_count_157 ?_
                      obtain ⟨r14, er14, h⟩ := cal_e h
                      refine rCallI C hd (c_X2_keptPieces hE er14) kX7_407 2 rfl rfl rfl rfl hl.1 rfl (Nat.le_of_ble_eq_true rfl) ⟨(Nat.le_of_ble_eq_true rfl), (Nat.le_of_ble_eq_true rfl)⟩ ⟨Nat.le_refl _, Nat.le_refl _⟩ dX7_count_160 (fun H locs hd => ?_)
                      exact rIretP C hr hd h dX7_count_163
                    · replace h := iteF c13 h
                      by_cases c15 : x1 = 10
                      · replace h := iteT c15 h
                        refine rTop c15.symm ?_
                        refine lv_tableIn (off := 163) (tgt := 164) hx hb dX7_count_1 (by decide) (by decide) (by decide) (by decide) ?_
                        refine lv_aload_n hx hb dX7_count_164 rfl (lv_at hl 0 rfl) ?_
                        refine gX7_39 C hd dX7_count_165 ?_
                        obtain ⟨r16, er16, h⟩ := cal_e h
                        refine rCallSI C hd (c_J6_bitCount_0f7a4 hE er16) kX7_429 rfl hl.1 rfl (Nat.le_of_ble_eq_true rfl) ⟨(Nat.le_of_ble_eq_true rfl), (Nat.le_of_ble_eq_true rfl)⟩ ⟨Nat.le_refl _, Nat.le_refl _⟩ dX7_count_168 (fun H locs hd => ?_)
                        exact rIretP C hr hd h dX7_count_171
                      · replace h := iteF c15 h
                        by_cases c17 : x1 = 11
                        · replace h := iteT c17 h
                          refine rTop c17.symm ?_
                          refine lv_tableIn (off := 171) (tgt := 172) hx hb dX7_count_1 (by decide) (by decide) (by decide) (by decide) ?_
                          refine lv_aload_n hx hb dX7_count_172 rfl (lv_at hl 0 rfl) ?_
                          refine gX7_53 C hd dX7_count_173 ?_
                          exact rIretP C hr hd h dX7_count_176
                        · replace h := iteF c17 h
                          by_cases c18 : x1 = 12
                          · replace h := iteT c18 h
                            refine rTop c18.symm ?_
                            refine lv_tableIn (off := 176) (tgt := 177) hx hb dX7_count_1 (by decide) (by decide) (by decide) (by decide) ?_
                            refine lv_aload_n hx hb dX7_count_177 rfl (lv_at hl 0 rfl) ?_
                            refine gX7_25 C hd dX7_count_178 ?_
                            refine gX7_434 C hd dX7_count_181 ?_
                            exact rIretP C hr hd h dX7_count_184
                          · replace h := iteF c18 h
                            by_cases c19 : x1 = 13
                            · replace h := iteT c19 h
                              refine rTop c19.symm ?_
                              refine lv_tableIn (off := 184) (tgt := 185) hx hb dX7_count_1 (by decide) (by decide) (by decide) (by decide) ?_
                              refine lv_aload_n hx hb dX7_count_185 rfl (lv_at hl 0 rfl) ?_
                              refine gX7_25 C hd dX7_count_186 ?_
                              refine gX7_437 C hd dX7_count_189 ?_
                              exact rIretP C hr hd h dX7_count_192
                            · replace h := iteF c19 h
                              by_cases c20 : x1 = 14
                              · replace h := iteT c20 h
                                refine rTop c20.symm ?_
                                refine lv_tableIn (off := 192) (tgt := 193) hx hb dX7_count_1 (by decide) (by decide) (by decide) (by decide) ?_
                                refine lv_aload_n hx hb dX7_count_193 rfl (lv_at hl 0 rfl) ?_
                                refine gX7_20 C hd dX7_count_194 ?_
                                obtain ⟨r21, er21, h⟩ := cal_e h
                                refine rCallI C hd (c_X2_marks hE er21) kX7_440 2 rfl rfl rfl rfl hl.1 rfl (Nat.le_of_ble_eq_true rfl) ⟨(Nat.le_of_ble_eq_true rfl), (Nat.le_of_ble_eq_true rfl)⟩ ⟨Nat.le_refl _, Nat.le_refl _⟩ dX7_count_197 (fun H locs hd => ?_)
                                exact rIretP C hr hd h dX7_count_200
                              · replace h := iteF c20 h
                                by_cases c22 : x1 = 15
                                · replace h := iteT c22 h
                                  refine rTop c22.symm ?_
                                  refine lv_tableIn (off := 200) (tgt := 201) hx hb dX7_count_1 (by decide) (by decide) (by decide) (by decide) ?_
                                  refine lv_aload_n hx hb dX7_count_201 rfl (lv_at hl 0 rfl) ?_
                                  refine gX7_20 C hd dX7_count_202 ?_
                                  obtain ⟨r23, er23, h⟩ := cal_e h
                                  refine rCallI C hd (c_X2_parentOnes hE er23) kX7_443 2 rfl rfl rfl rfl hl.1 rfl (Nat.le_of_ble_eq_true rfl) ⟨(Nat.le_of_ble_eq_true rfl), (Nat.le_of_ble_eq_true rfl)⟩ ⟨Nat.le_refl _, Nat.le_refl _⟩ dX7_count_205 (fun H locs hd => ?_)
                                  exact rIretP C hr hd h dX7_count_208
                                · replace h := iteF c22 h
                                  refine lv_tableOut (tgt := 209) hx hb dX7_count_1 (sw_out (lo := 0) (hi := 15) (fun z z1 z2 e => ?_)) (by decide) ?_
                                  · have hz : z = 0 ∨ z = 1 ∨ z = 2 ∨ z = 3 ∨ z = 4 ∨ z = 5 ∨ z = 6 ∨ z = 7 ∨ z = 8 ∨ z = 9 ∨ z = 10 ∨ z = 11 ∨ z = 12 ∨ z = 13 ∨ z = 14 ∨ z = 15 := by omega
                                    rcases hz with rfl | rfl | rfl | rfl | rfl | rfl | rfl | rfl | rfl | rfl | rfl | rfl | rfl | rfl | rfl | rfl
                                    · exact c1 (Int32.toInt_inj.mp (e.trans (by decide)))
                                    · exact c2 (Int32.toInt_inj.mp (e.trans (by decide)))
                                    · exact c3 (Int32.toInt_inj.mp (e.trans (by decide)))
                                    · exact c4 (Int32.toInt_inj.mp (e.trans (by decide)))
                                    · exact c6 (Int32.toInt_inj.mp (e.trans (by decide)))
                                    · exact c8 (Int32.toInt_inj.mp (e.trans (by decide)))
                                    · exact c9 (Int32.toInt_inj.mp (e.trans (by decide)))
                                    · exact c10 (Int32.toInt_inj.mp (e.trans (by decide)))
                                    · exact c12 (Int32.toInt_inj.mp (e.trans (by decide)))
                                    · exact c13 (Int32.toInt_inj.mp (e.trans (by decide)))
                                    · exact c15 (Int32.toInt_inj.mp (e.trans (by decide)))
                                    · exact c17 (Int32.toInt_inj.mp (e.trans (by decide)))
                                    · exact c18 (Int32.toInt_inj.mp (e.trans (by decide)))
                                    · exact c19 (Int32.toInt_inj.mp (e.trans (by decide)))
                                    · exact c20 (Int32.toInt_inj.mp (e.trans (by decide)))
                                    · exact c22 (Int32.toInt_inj.mp (e.trans (by decide)))
                                  refine lv_iconst (v := (-1 : Int32)) hx hb dX7_count_209 ic_m1 ?_
                                  exact rIretP C hr hd h dX7_count_210
noncomputable def f_X7_differ_80 (F : Nat) (k_33 : St → Int32 → Int32 → Int32 → Int32 → Int32 → Int32 → Option Int32) (σ : St) (x1 : Int32) (x2 : Int32) (x3 : Int32) (x4 : Int32) (x5 : Int32) (x6 : Int32) : Option Int32 :=
  bnd (x6 + 1) (fun v1 => k_33 σ x1 x2 x3 x4 x5 v1)
set_option maxRecDepth 100000 in
set_option maxHeartbeats 4000000 in
theorem w_X7_differ_80 {F : Nat} {r' : Int32}  (C : Cx g p s m args meth c cX7_differ 7 RX7) (hr : meth.sig.returnType = some .int)
    {k_33 : St → Int32 → Int32 → Int32 → Int32 → Int32 → Int32 → Option Int32} (hk_33 : (∀ (σ : St) (x1 : Int32) (x2 : Int32) (x3 : Int32) (x4 : Int32) (x5 : Int32) (x6 : Int32), k_33 σ x1 x2 x3 x4 x5 x6 = some r' → ∀ (H : Heap) (locs : List Loc) (ls : Array Slot), Dy g (wD g σ ++ X) s H locs → lv_has ls 7 [(0, .ref (ga g 0)), (1, .int x1), (2, .int x2), (3, .int x3), (4, .int x4), (5, .int x5), (6, .int x6)] → W p l e (rmD 3) s m args below meth c H locs 0 0 (QI g below args s (wD g σ ++ X) r') (F0 m 33 ls []))) :
    (∀ (σ : St) (x1 : Int32) (x2 : Int32) (x3 : Int32) (x4 : Int32) (x5 : Int32) (x6 : Int32), f_X7_differ_80 F k_33 σ x1 x2 x3 x4 x5 x6 = some r' → ∀ (H : Heap) (locs : List Loc) (ls : Array Slot), Dy g (wD g σ ++ X) s H locs → lv_has ls 7 [(0, .ref (ga g 0)), (1, .int x1), (2, .int x2), (3, .int x3), (4, .int x4), (5, .int x5), (6, .int x6)] → W p l e (rmD 3) s m args below meth c H locs 0 0 (QI g below args s (wD g σ ++ X) r') (F0 m 80 ls [])) := by
  have hx := C.1
  have hb := C.2.1
  have hE := C.2.2.2.2.2.2.2.2
  intro σ x1 x2 x3 x4 x5 x6 h H locs ls hd hl
  rw [f_X7_differ_80] at h
  obtain ⟨v1, ev1, h⟩ := bnd_e h
  refine lv_iinc (v := v1) (lv' := [(6, .int v1), (0, .ref (ga g 0)), (1, .int x1), (2, .int x2), (3, .int x3), (4, .int x4), (5, .int x5)]) hx hb dX7_differ_80 hl (k := 6) rfl ((ii_1 _).trans ev1.symm) (Nat.le_of_ble_eq_true rfl) rfl (fun ls hl => ?_)
  refine lv_goto (tgt := 33) hx hb dX7_differ_83 (by decide) ?_
  exact hk_33 σ x1 x2 x3 x4 x5 v1 h _ _ _ hd (lv_sub hl [1, 2, 3, 4, 5, 6, 0] rfl)
noncomputable def f_X7_differ_33 (F : Nat) : Nat → St → Int32 → Int32 → Int32 → Int32 → Int32 → Int32 → Option Int32
  | 0, _, _, _, _, _, _, _ => none
  | n + 1, σ, x1, x2, x3, x4, x5, x6 => if (σ.1 4) ≤ x6 then (some x5) else (cal (f_X2_valueAs F σ x6 x1 x2) (fun r2 => cal (f_X2_valueAs F σ x6 x3 x4) (fun r3 => if r2 = r3 then (f_X7_differ_80 F (f_X7_differ_33 F n) σ x1 x2 x3 x4 x5 x6) else (bnd (x5 ||| (1 <<< (x6 &&& 31))) (fun v5 => f_X7_differ_80 F (f_X7_differ_33 F n) σ x1 x2 x3 x4 v5 x6)))))
set_option maxRecDepth 100000 in
set_option maxHeartbeats 4000000 in
theorem w_X7_differ_33 {F : Nat} {r' : Int32}  (C : Cx g p s m args meth c cX7_differ 7 RX7) (hr : meth.sig.returnType = some .int) :
    (∀ (n : Nat) (σ : St) (x1 : Int32) (x2 : Int32) (x3 : Int32) (x4 : Int32) (x5 : Int32) (x6 : Int32), f_X7_differ_33 F n σ x1 x2 x3 x4 x5 x6 = some r' → ∀ (H : Heap) (locs : List Loc) (ls : Array Slot), Dy g (wD g σ ++ X) s H locs → lv_has ls 7 [(0, .ref (ga g 0)), (1, .int x1), (2, .int x2), (3, .int x3), (4, .int x4), (5, .int x5), (6, .int x6)] → W p l e (rmD 3) s m args below meth c H locs 0 0 (QI g below args s (wD g σ ++ X) r') (F0 m 33 ls [])) := by
  have hx := C.1
  have hb := C.2.1
  have hE := C.2.2.2.2.2.2.2.2
  intro n
  induction n with
  | zero =>
    intro σ x1 x2 x3 x4 x5 x6 h
    cases h
  | succ n ih =>
    intro σ x1 x2 x3 x4 x5 x6 h H locs ls hd hl
    rw [f_X7_differ_33] at h
    refine lv_iload hx hb dX7_differ_33 (lv_at hl 6 rfl) ?_
    refine lv_aload_n hx hb dX7_differ_35 rfl (lv_at hl 0 rfl) ?_
    refine gX7_10 C hd dX7_differ_36 ?_
    refine gX7_225 C hd dX7_differ_39 ?_
    refine lv_icmp_ge (tgt := 86) hx hb dX7_differ_42 (by decide) (fun c1 => ?_) (fun c1 => ?_)
    · replace h := iteT c1 h
      refine lv_iload hx hb dX7_differ_86 (lv_at hl 5 rfl) ?_
      exact rIretP C hr hd h dX7_differ_88
    · replace h := iteF c1 h
      refine lv_aload_n hx hb dX7_differ_45 rfl (lv_at hl 0 rfl) ?_
      refine gX7_20 C hd dX7_differ_46 ?_
      refine lv_iload hx hb dX7_differ_49 (lv_at hl 6 rfl) ?_
      refine lv_iload_n hx hb dX7_differ_51 rfl (lv_at hl 1 rfl) ?_
      refine lv_iload_n hx hb dX7_differ_52 rfl (lv_at hl 2 rfl) ?_
      obtain ⟨r2, er2, h⟩ := cal_e h
      refine rCallI C hd (c_X2_valueAs hE er2) kX7_215 2 rfl rfl rfl rfl hl.1 rfl (Nat.le_of_ble_eq_true rfl) ⟨(Nat.le_of_ble_eq_true rfl), (Nat.le_of_ble_eq_true rfl)⟩ ⟨Nat.le_refl _, Nat.le_refl _⟩ dX7_differ_53 (fun H locs hd => ?_)
      refine lv_aload_n hx hb dX7_differ_56 rfl (lv_at hl 0 rfl) ?_
      refine gX7_20 C hd dX7_differ_57 ?_
      refine lv_iload hx hb dX7_differ_60 (lv_at hl 6 rfl) ?_
      refine lv_iload_n hx hb dX7_differ_62 rfl (lv_at hl 3 rfl) ?_
      refine lv_iload hx hb dX7_differ_63 (lv_at hl 4 rfl) ?_
      obtain ⟨r3, er3, h⟩ := cal_e h
      refine rCallI C hd (c_X2_valueAs hE er3) kX7_215 2 rfl rfl rfl rfl hl.1 rfl (Nat.le_of_ble_eq_true rfl) ⟨(Nat.le_of_ble_eq_true rfl), (Nat.le_of_ble_eq_true rfl)⟩ ⟨Nat.le_refl _, Nat.le_refl _⟩ dX7_differ_65 (fun H locs hd => ?_)
      refine lv_icmp_eq (tgt := 80) hx hb dX7_differ_68 (by decide) (fun c4 => ?_) (fun c4 => ?_)
      · replace h := iteT c4 h
        exact w_X7_differ_80 C hr ih σ x1 x2 x3 x4 x5 x6 h _ _ _ hd (lv_sub hl [0, 1, 2, 3, 4, 5, 6] rfl)
      · replace h := iteF c4 h
        refine lv_iload hx hb dX7_differ_71 (lv_at hl 5 rfl) ?_
        refine lv_iconst (v := 1) hx hb dX7_differ_73 ic_1 ?_
        refine lv_iload hx hb dX7_differ_74 (lv_at hl 6 rfl) ?_
        refine lv_ishl hx hb dX7_differ_76 ?_
        refine lv_ior hx hb dX7_differ_77 ?_
        obtain ⟨v5, ev5, h⟩ := bnd_e h
        refine rTop ev5 ?_
        refine lv_istore (lv' := [(5, .int v5), (0, .ref (ga g 0)), (1, .int x1), (2, .int x2), (3, .int x3), (4, .int x4), (6, .int x6)]) hx hb dX7_differ_78 hl (Nat.le_of_ble_eq_true rfl) rfl (fun ls hl => ?_)
        exact w_X7_differ_80 C hr ih σ x1 x2 x3 x4 v5 x6 h _ _ _ hd (lv_sub hl [1, 2, 3, 4, 5, 0, 6] rfl)
noncomputable def f_X7_differ (F : Nat) (σ : St) (x1 : Int32) (x2 : Int32) (x3 : Int32) (x4 : Int32) : Option Int32 :=
  cal (f_X2_hasPlace F σ x1 x2) (fun r1 => if r1 = 0 then (some (-1 : Int32)) else (cal (f_X2_hasPlace F σ x3 x4) (fun r3 => if r3 = 0 then (some (-1 : Int32)) else (f_X7_differ_33 F F σ x1 x2 x3 x4 0 0))))
set_option maxRecDepth 100000 in
set_option maxHeartbeats 4000000 in
theorem c_X7_differ {l : Launch} {g : Gp} {X : va_W} (hE : E0 g) {F : Nat} {r' : Int32} {σ : St} {x1 : Int32} {x2 : Int32} {x3 : Int32} {x4 : Int32} (h : f_X7_differ F σ x1 x2 x3 x4 = some r') : Ci l g yX7_differ cX7_differ 7 (some .int) 3 [.ref (ga g 0), .int x1, .int x2, .int x3, .int x4] (wD g σ ++ X) r' (wD g σ ++ X) := by
  refine rHead hE (by decide +kernel) (Nat.le_of_ble_eq_true rfl) (fun p e s m below meth c C hr _ hd ls hl => ?_)
  have hx := C.1
  have hb := C.2.1
  have hl : lv_has ls 7 [(0, .ref (ga g 0)), (1, .int x1), (2, .int x2), (3, .int x3), (4, .int x4)] := hl
  generalize ([.ref (ga g 0), .int x1, .int x2, .int x3, .int x4] : List Value).toArray = args at C ⊢
  have C : Cx g p s m args meth c cX7_differ 7 RX7 := C
  rw [f_X7_differ] at h
  refine lv_aload_n hx hb dX7_differ_0 rfl (lv_at hl 0 rfl) ?_
  refine gX7_20 C hd dX7_differ_1 ?_
  refine lv_iload_n hx hb dX7_differ_4 rfl (lv_at hl 1 rfl) ?_
  refine lv_iload_n hx hb dX7_differ_5 rfl (lv_at hl 2 rfl) ?_
  obtain ⟨r1, er1, h⟩ := cal_e h
  refine rCallI C hd (c_X2_hasPlace hE er1) kX7_263 2 rfl rfl rfl rfl hl.1 rfl (Nat.le_of_ble_eq_true rfl) ⟨(Nat.le_of_ble_eq_true rfl), (Nat.le_of_ble_eq_true rfl)⟩ ⟨Nat.le_refl _, Nat.le_refl _⟩ dX7_differ_6 (fun H locs hd => ?_)
  refine lv_if_eq (tgt := 25) hx hb dX7_differ_9 (by decide) (fun c2 => ?_) (fun c2 => ?_)
  · replace h := iteT c2 h
    refine lv_iconst (v := (-1 : Int32)) hx hb dX7_differ_25 ic_m1 ?_
    exact rIretP C hr hd h dX7_differ_26
  · replace h := iteF c2 h
    refine lv_aload_n hx hb dX7_differ_12 rfl (lv_at hl 0 rfl) ?_
    refine gX7_20 C hd dX7_differ_13 ?_
    refine lv_iload_n hx hb dX7_differ_16 rfl (lv_at hl 3 rfl) ?_
    refine lv_iload hx hb dX7_differ_17 (lv_at hl 4 rfl) ?_
    obtain ⟨r3, er3, h⟩ := cal_e h
    refine rCallI C hd (c_X2_hasPlace hE er3) kX7_263 2 rfl rfl rfl rfl hl.1 rfl (Nat.le_of_ble_eq_true rfl) ⟨(Nat.le_of_ble_eq_true rfl), (Nat.le_of_ble_eq_true rfl)⟩ ⟨Nat.le_refl _, Nat.le_refl _⟩ dX7_differ_19 (fun H locs hd => ?_)
    refine lv_if_ne (tgt := 27) hx hb dX7_differ_22 (by decide) (fun c4 => ?_) (fun c4 => ?_)
    · replace h := iteF c4 h
      refine lv_iconst (v := 0) hx hb dX7_differ_27 ic_0 ?_
      refine lv_istore (lv' := [(5, .int 0), (0, .ref (ga g 0)), (1, .int x1), (2, .int x2), (3, .int x3), (4, .int x4)]) hx hb dX7_differ_28 hl (Nat.le_of_ble_eq_true rfl) rfl (fun ls hl => ?_)
      refine lv_iconst (v := 0) hx hb dX7_differ_30 ic_0 ?_
      refine lv_istore (lv' := [(6, .int 0), (5, .int 0), (0, .ref (ga g 0)), (1, .int x1), (2, .int x2), (3, .int x3), (4, .int x4)]) hx hb dX7_differ_31 hl (Nat.le_of_ble_eq_true rfl) rfl (fun ls hl => ?_)
      exact w_X7_differ_33 C hr _ σ x1 x2 x3 x4 0 0 h _ _ _ hd (lv_sub hl [2, 3, 4, 5, 6, 1, 0] rfl)
    · replace h := iteT c4 h
      refine lv_iconst (v := (-1 : Int32)) hx hb dX7_differ_25 ic_m1 ?_
      exact rIretP C hr hd h dX7_differ_26
noncomputable def f_X7_dirty_118 (F : Nat) (k_26 : St → Int32 → Int32 → Int32 → Int32 → Option Int32) (σ : St) (x1 : Int32) (x2 : Int32) (x3 : Int32) (x4 : Int32) : Option Int32 :=
  bnd (x4 + 1) (fun v1 => k_26 σ x1 x2 x3 v1)
set_option maxRecDepth 100000 in
set_option maxHeartbeats 4000000 in
theorem w_X7_dirty_118 {F : Nat} {r' : Int32}  (C : Cx g p s m args meth c cX7_dirty 7 RX7) (hr : meth.sig.returnType = some .int)
    {k_26 : St → Int32 → Int32 → Int32 → Int32 → Option Int32} (hk_26 : (∀ (σ : St) (x1 : Int32) (x2 : Int32) (x3 : Int32) (x4 : Int32), k_26 σ x1 x2 x3 x4 = some r' → ∀ (H : Heap) (locs : List Loc) (ls : Array Slot), Dy g (wD g σ ++ X) s H locs → lv_has ls 7 [(0, .ref (ga g 0)), (1, .int x1), (2, .int x2), (3, .int x3), (4, .int x4)] → W p l e (rmD 3) s m args below meth c H locs 0 0 (QI g below args s (wD g σ ++ X) r') (F0 m 26 ls []))) :
    (∀ (σ : St) (x1 : Int32) (x2 : Int32) (x3 : Int32) (x4 : Int32), f_X7_dirty_118 F k_26 σ x1 x2 x3 x4 = some r' → ∀ (H : Heap) (locs : List Loc) (ls : Array Slot), Dy g (wD g σ ++ X) s H locs → lv_has ls 7 [(0, .ref (ga g 0)), (1, .int x1), (2, .int x2), (3, .int x3), (4, .int x4)] → W p l e (rmD 3) s m args below meth c H locs 0 0 (QI g below args s (wD g σ ++ X) r') (F0 m 118 ls [])) := by
  have hx := C.1
  have hb := C.2.1
  have hE := C.2.2.2.2.2.2.2.2
  intro σ x1 x2 x3 x4 h H locs ls hd hl
  rw [f_X7_dirty_118] at h
  obtain ⟨v1, ev1, h⟩ := bnd_e h
  refine lv_iinc (v := v1) (lv' := [(4, .int v1), (0, .ref (ga g 0)), (1, .int x1), (2, .int x2), (3, .int x3)]) hx hb dX7_dirty_118 hl (k := 4) rfl ((ii_1 _).trans ev1.symm) (Nat.le_of_ble_eq_true rfl) rfl (fun ls hl => ?_)
  refine lv_goto (tgt := 26) hx hb dX7_dirty_121 (by decide) ?_
  exact hk_26 σ x1 x2 x3 v1 h _ _ _ hd (lv_sub hl [1, 2, 3, 4, 0] rfl)
noncomputable def f_X7_dirty_111 (F : Nat) (k_26 : St → Int32 → Int32 → Int32 → Int32 → Option Int32) (σ : St) (x1 : Int32) (x2 : Int32) (x3 : Int32) (x4 : Int32) : Option Int32 :=
  bnd (x3 ||| (1 <<< (x4 &&& 31))) (fun v1 => f_X7_dirty_118 F k_26 σ x1 x2 v1 x4)
set_option maxRecDepth 100000 in
set_option maxHeartbeats 4000000 in
theorem w_X7_dirty_111 {F : Nat} {r' : Int32}  (C : Cx g p s m args meth c cX7_dirty 7 RX7) (hr : meth.sig.returnType = some .int)
    {k_26 : St → Int32 → Int32 → Int32 → Int32 → Option Int32} (hk_26 : (∀ (σ : St) (x1 : Int32) (x2 : Int32) (x3 : Int32) (x4 : Int32), k_26 σ x1 x2 x3 x4 = some r' → ∀ (H : Heap) (locs : List Loc) (ls : Array Slot), Dy g (wD g σ ++ X) s H locs → lv_has ls 7 [(0, .ref (ga g 0)), (1, .int x1), (2, .int x2), (3, .int x3), (4, .int x4)] → W p l e (rmD 3) s m args below meth c H locs 0 0 (QI g below args s (wD g σ ++ X) r') (F0 m 26 ls []))) :
    (∀ (σ : St) (x1 : Int32) (x2 : Int32) (x3 : Int32) (x4 : Int32), f_X7_dirty_111 F k_26 σ x1 x2 x3 x4 = some r' → ∀ (H : Heap) (locs : List Loc) (ls : Array Slot), Dy g (wD g σ ++ X) s H locs → lv_has ls 7 [(0, .ref (ga g 0)), (1, .int x1), (2, .int x2), (3, .int x3), (4, .int x4)] → W p l e (rmD 3) s m args below meth c H locs 0 0 (QI g below args s (wD g σ ++ X) r') (F0 m 111 ls [])) := by
  have hx := C.1
  have hb := C.2.1
  have hE := C.2.2.2.2.2.2.2.2
  intro σ x1 x2 x3 x4 h H locs ls hd hl
  rw [f_X7_dirty_111] at h
  refine lv_iload_n hx hb dX7_dirty_111 rfl (lv_at hl 3 rfl) ?_
  refine lv_iconst (v := 1) hx hb dX7_dirty_112 ic_1 ?_
  refine lv_iload hx hb dX7_dirty_113 (lv_at hl 4 rfl) ?_
  refine lv_ishl hx hb dX7_dirty_115 ?_
  refine lv_ior hx hb dX7_dirty_116 ?_
  obtain ⟨v1, ev1, h⟩ := bnd_e h
  refine rTop ev1 ?_
  refine lv_istore_n (lv' := [(3, .int v1), (0, .ref (ga g 0)), (1, .int x1), (2, .int x2), (4, .int x4)]) hx hb dX7_dirty_117 rfl hl (Nat.le_of_ble_eq_true rfl) rfl (fun ls hl => ?_)
  exact w_X7_dirty_118 C hr hk_26 σ x1 x2 v1 x4 h _ _ _ hd (lv_sub hl [1, 2, 3, 0, 4] rfl)
noncomputable def f_X7_dirty_26 (F : Nat) : Nat → St → Int32 → Int32 → Int32 → Int32 → Option Int32
  | 0, _, _, _, _, _ => none
  | n + 1, σ, x1, x2, x3, x4 => if (σ.1 4) ≤ x4 then (some x3) else (cal (f_X0_cellOf F σ x1 x4) (fun r2 => cal (f_X0_placeIn F σ r2) (fun r3 => if r2 = (-1 : Int32) then (f_X7_dirty_111 F (f_X7_dirty_26 F n) σ x1 x2 x3 x4) else (cal (f_X0_sourceIn F σ r2) (fun r5 => cal (f_X2_leadsTo F σ x2 r5 r3) (fun r6 => if r6 = 0 then (f_X7_dirty_111 F (f_X7_dirty_26 F n) σ x1 x2 x3 x4) else (cal (f_X2_now F σ) (fun r8 => cal (f_X2_lastChange F σ x4 x2 r8) (fun r9 => if r9 ≤ r3 then (f_X7_dirty_118 F (f_X7_dirty_26 F n) σ x1 x2 x3 x4) else (f_X7_dirty_111 F (f_X7_dirty_26 F n) σ x1 x2 x3 x4))))))))))
set_option maxRecDepth 100000 in
set_option maxHeartbeats 4000000 in
theorem w_X7_dirty_26 {F : Nat} {r' : Int32}  (C : Cx g p s m args meth c cX7_dirty 7 RX7) (hr : meth.sig.returnType = some .int) :
    (∀ (n : Nat) (σ : St) (x1 : Int32) (x2 : Int32) (x3 : Int32) (x4 : Int32), f_X7_dirty_26 F n σ x1 x2 x3 x4 = some r' → ∀ (H : Heap) (locs : List Loc) (ls : Array Slot), Dy g (wD g σ ++ X) s H locs → lv_has ls 7 [(0, .ref (ga g 0)), (1, .int x1), (2, .int x2), (3, .int x3), (4, .int x4)] → W p l e (rmD 3) s m args below meth c H locs 0 0 (QI g below args s (wD g σ ++ X) r') (F0 m 26 ls [])) := by
  have hx := C.1
  have hb := C.2.1
  have hE := C.2.2.2.2.2.2.2.2
  intro n
  induction n with
  | zero =>
    intro σ x1 x2 x3 x4 h
    cases h
  | succ n ih =>
    intro σ x1 x2 x3 x4 h H locs ls hd hl
    rw [f_X7_dirty_26] at h
    refine lv_iload hx hb dX7_dirty_26 (lv_at hl 4 rfl) ?_
    refine lv_aload_n hx hb dX7_dirty_28 rfl (lv_at hl 0 rfl) ?_
    refine gX7_10 C hd dX7_dirty_29 ?_
    refine gX7_225 C hd dX7_dirty_32 ?_
    refine lv_icmp_ge (tgt := 124) hx hb dX7_dirty_35 (by decide) (fun c1 => ?_) (fun c1 => ?_)
    · replace h := iteT c1 h
      refine lv_iload_n hx hb dX7_dirty_124 rfl (lv_at hl 3 rfl) ?_
      exact rIretP C hr hd h dX7_dirty_125
    · replace h := iteF c1 h
      refine lv_aload_n hx hb dX7_dirty_38 rfl (lv_at hl 0 rfl) ?_
      refine gX7_25 C hd dX7_dirty_39 ?_
      refine lv_iload_n hx hb dX7_dirty_42 rfl (lv_at hl 1 rfl) ?_
      refine lv_iload hx hb dX7_dirty_43 (lv_at hl 4 rfl) ?_
      obtain ⟨r2, er2, h⟩ := cal_e h
      refine rCallI C hd (c_X0_cellOf hE er2) kX7_229 3 rfl rfl rfl rfl hl.1 rfl (Nat.le_of_ble_eq_true rfl) ⟨(Nat.le_of_ble_eq_true rfl), (Nat.le_of_ble_eq_true rfl)⟩ ⟨Nat.le_refl _, Nat.le_refl _⟩ dX7_dirty_45 (fun H locs hd => ?_)
      refine lv_istore (lv' := [(5, .int r2), (0, .ref (ga g 0)), (1, .int x1), (2, .int x2), (3, .int x3), (4, .int x4)]) hx hb dX7_dirty_48 hl (Nat.le_of_ble_eq_true rfl) rfl (fun ls hl => ?_)
      refine lv_aload_n hx hb dX7_dirty_50 rfl (lv_at hl 1 rfl) ?_
      refine gX7_25 C hd dX7_dirty_51 ?_
      refine lv_iload hx hb dX7_dirty_54 (lv_at hl 0 rfl) ?_
      obtain ⟨r3, er3, h⟩ := cal_e h
      refine rCallI C hd (c_X0_placeIn hE er3) kX7_235 3 rfl rfl rfl rfl hl.1 rfl (Nat.le_of_ble_eq_true rfl) ⟨(Nat.le_of_ble_eq_true rfl), (Nat.le_of_ble_eq_true rfl)⟩ ⟨Nat.le_refl _, Nat.le_refl _⟩ dX7_dirty_56 (fun H locs hd => ?_)
      refine lv_istore (lv' := [(6, .int r3), (5, .int r2), (0, .ref (ga g 0)), (1, .int x1), (2, .int x2), (3, .int x3), (4, .int x4)]) hx hb dX7_dirty_59 hl (Nat.le_of_ble_eq_true rfl) rfl (fun ls hl => ?_)
      refine lv_iload hx hb dX7_dirty_61 (lv_at hl 1 rfl) ?_
      refine lv_iconst (v := (-1 : Int32)) hx hb dX7_dirty_63 ic_m1 ?_
      refine lv_icmp_eq (tgt := 111) hx hb dX7_dirty_64 (by decide) (fun c4 => ?_) (fun c4 => ?_)
      · replace h := iteT c4 h
        exact w_X7_dirty_111 C hr ih σ x1 x2 x3 x4 h _ _ _ hd (lv_sub hl [2, 3, 4, 5, 6] rfl)
      · replace h := iteF c4 h
        refine lv_aload_n hx hb dX7_dirty_67 rfl (lv_at hl 2 rfl) ?_
        refine gX7_20 C hd dX7_dirty_68 ?_
        refine lv_iload_n hx hb dX7_dirty_71 rfl (lv_at hl 4 rfl) ?_
        refine lv_aload_n hx hb dX7_dirty_72 rfl (lv_at hl 2 rfl) ?_
        refine gX7_25 C hd dX7_dirty_73 ?_
        refine lv_iload hx hb dX7_dirty_76 (lv_at hl 1 rfl) ?_
        obtain ⟨r5, er5, h⟩ := cal_e h
        refine rCallI C hd (c_X0_sourceIn hE er5) kX7_232 3 rfl rfl rfl rfl hl.1 rfl (Nat.le_of_ble_eq_true rfl) ⟨(Nat.le_of_ble_eq_true rfl), (Nat.le_of_ble_eq_true rfl)⟩ ⟨Nat.le_refl _, Nat.le_refl _⟩ dX7_dirty_78 (fun H locs hd => ?_)
        refine lv_iload hx hb dX7_dirty_81 (lv_at hl 0 rfl) ?_
        obtain ⟨r6, er6, h⟩ := cal_e h
        refine rCallI C hd (c_X2_leadsTo hE er6) kX7_369 2 rfl rfl rfl rfl hl.1 rfl (Nat.le_of_ble_eq_true rfl) ⟨(Nat.le_of_ble_eq_true rfl), (Nat.le_of_ble_eq_true rfl)⟩ ⟨Nat.le_refl _, Nat.le_refl _⟩ dX7_dirty_83 (fun H locs hd => ?_)
        refine lv_if_eq (tgt := 111) hx hb dX7_dirty_86 (by decide) (fun c7 => ?_) (fun c7 => ?_)
        · replace h := iteT c7 h
          exact w_X7_dirty_111 C hr ih σ x1 x2 x3 x4 h _ _ _ hd (lv_sub hl [2, 3, 4, 5, 6] rfl)
        · replace h := iteF c7 h
          refine lv_aload_n hx hb dX7_dirty_89 rfl (lv_at hl 2 rfl) ?_
          refine gX7_20 C hd dX7_dirty_90 ?_
          refine lv_iload hx hb dX7_dirty_93 (lv_at hl 6 rfl) ?_
          refine lv_iload_n hx hb dX7_dirty_95 rfl (lv_at hl 4 rfl) ?_
          refine lv_aload_n hx hb dX7_dirty_96 rfl (lv_at hl 2 rfl) ?_
          refine gX7_20 C hd dX7_dirty_97 ?_
          obtain ⟨r8, er8, h⟩ := cal_e h
          refine rCallI C hd (c_X2_now hE er8) kX7_123 2 rfl rfl rfl rfl hl.1 rfl (Nat.le_of_ble_eq_true rfl) ⟨(Nat.le_of_ble_eq_true rfl), (Nat.le_of_ble_eq_true rfl)⟩ ⟨Nat.le_refl _, Nat.le_refl _⟩ dX7_dirty_100 (fun H locs hd => ?_)
          obtain ⟨r9, er9, h⟩ := cal_e h
          refine rCallI C hd (c_X2_lastChange hE er9) kX7_373 2 rfl rfl rfl rfl hl.1 rfl (Nat.le_of_ble_eq_true rfl) ⟨(Nat.le_of_ble_eq_true rfl), (Nat.le_of_ble_eq_true rfl)⟩ ⟨Nat.le_refl _, Nat.le_refl _⟩ dX7_dirty_103 (fun H locs hd => ?_)
          refine lv_iload hx hb dX7_dirty_106 (lv_at hl 0 rfl) ?_
          refine lv_icmp_le (tgt := 118) hx hb dX7_dirty_108 (by decide) (fun c10 => ?_) (fun c10 => ?_)
          · replace h := iteT c10 h
            exact w_X7_dirty_118 C hr ih σ x1 x2 x3 x4 h _ _ _ hd (lv_sub hl [2, 3, 4, 5, 6] rfl)
          · replace h := iteF c10 h
            exact w_X7_dirty_111 C hr ih σ x1 x2 x3 x4 h _ _ _ hd (lv_sub hl [2, 3, 4, 5, 6] rfl)
noncomputable def f_X7_dirty (F : Nat) (σ : St) (x1 : Int32) : Option Int32 :=
  cal (f_X0_hasCopy F σ x1) (fun r1 => if r1 = 0 then (some (-1 : Int32)) else (cal (f_X2_going F σ) (fun r3 => f_X7_dirty_26 F F σ x1 r3 0 0)))
set_option maxRecDepth 100000 in
set_option maxHeartbeats 4000000 in
theorem c_X7_dirty {l : Launch} {g : Gp} {X : va_W} (hE : E0 g) {F : Nat} {r' : Int32} {σ : St} {x1 : Int32} (h : f_X7_dirty F σ x1 = some r') : Ci l g yX7_dirty cX7_dirty 7 (some .int) 3 [.ref (ga g 0), .int x1] (wD g σ ++ X) r' (wD g σ ++ X) := by
  refine rHead hE (by decide +kernel) (Nat.le_of_ble_eq_true rfl) (fun p e s m below meth c C hr _ hd ls hl => ?_)
  have hx := C.1
  have hb := C.2.1
  have hl : lv_has ls 7 [(0, .ref (ga g 0)), (1, .int x1)] := hl
  generalize ([.ref (ga g 0), .int x1] : List Value).toArray = args at C ⊢
  have C : Cx g p s m args meth c cX7_dirty 7 RX7 := C
  rw [f_X7_dirty] at h
  refine lv_aload_n hx hb dX7_dirty_0 rfl (lv_at hl 0 rfl) ?_
  refine gX7_25 C hd dX7_dirty_1 ?_
  refine lv_iload_n hx hb dX7_dirty_4 rfl (lv_at hl 1 rfl) ?_
  obtain ⟨r1, er1, h⟩ := cal_e h
  refine rCallI C hd (c_X0_hasCopy hE er1) kX7_204 3 rfl rfl rfl rfl hl.1 rfl (Nat.le_of_ble_eq_true rfl) ⟨(Nat.le_of_ble_eq_true rfl), (Nat.le_of_ble_eq_true rfl)⟩ ⟨Nat.le_refl _, Nat.le_refl _⟩ dX7_dirty_5 (fun H locs hd => ?_)
  refine lv_if_ne (tgt := 13) hx hb dX7_dirty_8 (by decide) (fun c2 => ?_) (fun c2 => ?_)
  · replace h := iteF c2 h
    refine lv_aload_n hx hb dX7_dirty_13 rfl (lv_at hl 0 rfl) ?_
    refine gX7_20 C hd dX7_dirty_14 ?_
    obtain ⟨r3, er3, h⟩ := cal_e h
    refine rCallI C hd (c_X2_going hE er3) kX7_129 2 rfl rfl rfl rfl hl.1 rfl (Nat.le_of_ble_eq_true rfl) ⟨(Nat.le_of_ble_eq_true rfl), (Nat.le_of_ble_eq_true rfl)⟩ ⟨Nat.le_refl _, Nat.le_refl _⟩ dX7_dirty_17 (fun H locs hd => ?_)
    refine lv_istore_n (lv' := [(2, .int r3), (0, .ref (ga g 0)), (1, .int x1)]) hx hb dX7_dirty_20 rfl hl (Nat.le_of_ble_eq_true rfl) rfl (fun ls hl => ?_)
    refine lv_iconst (v := 0) hx hb dX7_dirty_21 ic_0 ?_
    refine lv_istore_n (lv' := [(3, .int 0), (2, .int r3), (0, .ref (ga g 0)), (1, .int x1)]) hx hb dX7_dirty_22 rfl hl (Nat.le_of_ble_eq_true rfl) rfl (fun ls hl => ?_)
    refine lv_iconst (v := 0) hx hb dX7_dirty_23 ic_0 ?_
    refine lv_istore (lv' := [(4, .int 0), (3, .int 0), (2, .int r3), (0, .ref (ga g 0)), (1, .int x1)]) hx hb dX7_dirty_24 hl (Nat.le_of_ble_eq_true rfl) rfl (fun ls hl => ?_)
    exact w_X7_dirty_26 C hr _ σ x1 r3 0 0 h _ _ _ hd (lv_sub hl [3, 4, 2, 1, 0] rfl)
  · replace h := iteT c2 h
    refine lv_iconst (v := (-1 : Int32)) hx hb dX7_dirty_11 ic_m1 ?_
    exact rIretP C hr hd h dX7_dirty_12
noncomputable def f_X7_drop (F : Nat) (σ : St) (x1 : Int32) : Option (Int32 × St) :=
  cal2 (f_X0_letGo F σ x1) (fun r1 t2 => if r1 = 0 ∨ r1 = 1 then some (r1, t2) else none)
set_option maxRecDepth 100000 in
set_option maxHeartbeats 4000000 in
theorem c_X7_drop {l : Launch} {g : Gp} {X : va_W} (hE : E0 g) {F : Nat} {r' : Int32} {σ' : St} {σ : St} {x1 : Int32} (h : f_X7_drop F σ x1 = some (r', σ')) : Ci l g yX7_drop cX7_drop 2 (some .boolean) 4 [.ref (ga g 0), .int x1] (wD g σ ++ X) r' (wD g σ' ++ X) := by
  refine rHead hE (by decide +kernel) (Nat.le_of_ble_eq_true rfl) (fun p e s m below meth c C hr _ hd ls hl => ?_)
  have hx := C.1
  have hb := C.2.1
  have hl : lv_has ls 2 [(0, .ref (ga g 0)), (1, .int x1)] := hl
  generalize ([.ref (ga g 0), .int x1] : List Value).toArray = args at C ⊢
  have C : Cx g p s m args meth c cX7_drop 2 RX7 := C
  rw [f_X7_drop] at h
  refine lv_aload_n hx hb dX7_drop_0 rfl (lv_at hl 0 rfl) ?_
  refine gX7_25 C hd dX7_drop_1 ?_
  refine lv_iload_n hx hb dX7_drop_4 rfl (lv_at hl 1 rfl) ?_
  obtain ⟨r1, t2, et2, h⟩ := cal2_e h
  refine rCallI C hd (c_X0_letGo hE et2) kX7_241 3 rfl rfl rfl rfl hl.1 rfl (Nat.le_of_ble_eq_true rfl) ⟨(Nat.le_of_ble_eq_true rfl), (Nat.le_of_ble_eq_true rfl)⟩ ⟨Nat.le_refl _, Nat.le_refl _⟩ dX7_drop_5 (fun H locs hd => ?_)
  obtain ⟨n3, h⟩ := chk h
  exact rZretS (w := wD g) C hr hd h n3 dX7_drop_8
noncomputable def f_X7_putBytes_49 (F : Nat) (k_3 : St → Int32 → Int32 → Option St) (σ : St) (x1 : Int32) (x2 : Int32) : Option St :=
  bnd (x2 + (-8 : Int32)) (fun v1 => k_3 σ x1 v1)
set_option maxRecDepth 100000 in
set_option maxHeartbeats 4000000 in
theorem w_X7_putBytes_49 {F : Nat} {σ' : St}  (C : Cx g p s m args meth c cX7_putBytes 3 RX7) (hr : meth.sig.returnType = none)
    {k_3 : St → Int32 → Int32 → Option St} (hk_3 : (∀ (σ : St) (x1 : Int32) (x2 : Int32), k_3 σ x1 x2 = some σ' → ∀ (H : Heap) (locs : List Loc) (ls : Array Slot), Dy g (wD g σ ++ X) s H locs → lv_has ls 3 [(0, .ref (ga g 0)), (1, .int x1), (2, .int x2)] → W p l e (rmD 0) s m args below meth c H locs 0 0 (QV g below args s (wD g σ' ++ X)) (F0 m 3 ls []))) :
    (∀ (σ : St) (x1 : Int32) (x2 : Int32), f_X7_putBytes_49 F k_3 σ x1 x2 = some σ' → ∀ (H : Heap) (locs : List Loc) (ls : Array Slot), Dy g (wD g σ ++ X) s H locs → lv_has ls 3 [(0, .ref (ga g 0)), (1, .int x1), (2, .int x2)] → W p l e (rmD 0) s m args below meth c H locs 0 0 (QV g below args s (wD g σ' ++ X)) (F0 m 49 ls [])) := by
  have hx := C.1
  have hb := C.2.1
  have hE := C.2.2.2.2.2.2.2.2
  intro σ x1 x2 h H locs ls hd hl
  rw [f_X7_putBytes_49] at h
  obtain ⟨v1, ev1, h⟩ := bnd_e h
  refine lv_iinc (v := v1) (lv' := [(2, .int v1), (0, .ref (ga g 0)), (1, .int x1)]) hx hb dX7_putBytes_49 hl (k := 2) rfl ((ii_m8 _).trans ev1.symm) (Nat.le_of_ble_eq_true rfl) rfl (fun ls hl => ?_)
  refine lv_goto (tgt := 3) hx hb dX7_putBytes_52 (by decide) ?_
  exact hk_3 σ x1 v1 h _ _ _ hd (lv_sub hl [1, 2, 0] rfl)
noncomputable def f_X7_putBytes_3 (F : Nat) : Nat → St → Int32 → Int32 → Option St
  | 0, _, _, _ => none
  | n + 1, σ, x1, x2 => if x2 < 0 then (some σ) else (if (σ.1 1) < 0 then (f_X7_putBytes_49 F (f_X7_putBytes_3 F n) σ x1 x2) else (if 2000 ≤ (σ.1 1) then (f_X7_putBytes_49 F (f_X7_putBytes_3 F n) σ x1 x2) else (if inb (σ.1 1) 2000 = true then bnd (sr σ 9 (σ.1 1).toNatClampNeg (vp_nar .byte (Int8.toInt32 (Int32.toInt8 (x1 >>> (x2 &&& 31)))))) (fun t5 => bnd (ss t5 1 ((t5.1 1) + 1)) (fun t6 => f_X7_putBytes_49 F (f_X7_putBytes_3 F n) t6 x1 x2)) else none)))
set_option maxRecDepth 100000 in
set_option maxHeartbeats 4000000 in
theorem w_X7_putBytes_3 {F : Nat} {σ' : St}  (C : Cx g p s m args meth c cX7_putBytes 3 RX7) (hr : meth.sig.returnType = none) :
    (∀ (n : Nat) (σ : St) (x1 : Int32) (x2 : Int32), f_X7_putBytes_3 F n σ x1 x2 = some σ' → ∀ (H : Heap) (locs : List Loc) (ls : Array Slot), Dy g (wD g σ ++ X) s H locs → lv_has ls 3 [(0, .ref (ga g 0)), (1, .int x1), (2, .int x2)] → W p l e (rmD 0) s m args below meth c H locs 0 0 (QV g below args s (wD g σ' ++ X)) (F0 m 3 ls [])) := by
  have hx := C.1
  have hb := C.2.1
  have hE := C.2.2.2.2.2.2.2.2
  intro n
  induction n with
  | zero =>
    intro σ x1 x2 h
    cases h
  | succ n ih =>
    intro σ x1 x2 h H locs ls hd hl
    rw [f_X7_putBytes_3] at h
    refine lv_iload_n hx hb dX7_putBytes_3 rfl (lv_at hl 2 rfl) ?_
    refine lv_if_lt (tgt := 55) hx hb dX7_putBytes_4 (by decide) (fun c1 => ?_) (fun c1 => ?_)
    · replace h := iteT c1 h
      exact rVretS (w := wD g) C hr hd h dX7_putBytes_55
    · replace h := iteF c1 h
      refine lv_aload_n hx hb dX7_putBytes_7 rfl (lv_at hl 0 rfl) ?_
      refine gX7_47 C hd dX7_putBytes_8 ?_
      refine lv_if_lt (tgt := 49) hx hb dX7_putBytes_11 (by decide) (fun c2 => ?_) (fun c2 => ?_)
      · replace h := iteT c2 h
        exact w_X7_putBytes_49 C hr ih σ x1 x2 h _ _ _ hd (lv_sub hl [0, 1, 2] rfl)
      · replace h := iteF c2 h
        refine lv_aload_n hx hb dX7_putBytes_14 rfl (lv_at hl 0 rfl) ?_
        refine gX7_47 C hd dX7_putBytes_15 ?_
        refine lv_aload_n hx hb dX7_putBytes_18 rfl (lv_at hl 0 rfl) ?_
        refine gX7_43 C hd dX7_putBytes_19 ?_
        refine len_wD_9 C hd dX7_putBytes_22 ?_
        refine lv_icmp_ge (tgt := 49) hx hb dX7_putBytes_23 (by decide) (fun c3 => ?_) (fun c3 => ?_)
        · replace h := iteT c3 h
          exact w_X7_putBytes_49 C hr ih σ x1 x2 h _ _ _ hd (lv_sub hl [0, 1, 2] rfl)
        · replace h := iteF c3 h
          refine lv_aload_n hx hb dX7_putBytes_26 rfl (lv_at hl 0 rfl) ?_
          refine gX7_43 C hd dX7_putBytes_27 ?_
          refine lv_aload_n hx hb dX7_putBytes_30 rfl (lv_at hl 0 rfl) ?_
          refine gX7_47 C hd dX7_putBytes_31 ?_
          refine lv_iload_n hx hb dX7_putBytes_34 rfl (lv_at hl 1 rfl) ?_
          refine lv_iload_n hx hb dX7_putBytes_35 rfl (lv_at hl 2 rfl) ?_
          refine lv_ishr hx hb dX7_putBytes_36 ?_
          refine lv_i2b hx hb dX7_putBytes_37 rfl ?_
          obtain ⟨n4, h⟩ := chk h
          obtain ⟨t5, et5, h⟩ := bnd_e h
          refine st_wD_9 C hd (inb_i n4) et5 dX7_putBytes_38 (fun H locs hd => ?_)
          refine lv_aload_n hx hb dX7_putBytes_39 rfl (lv_at hl 0 rfl) ?_
          refine lv_dup hx hb dX7_putBytes_40 rfl ?_
          refine gX7_47 C hd dX7_putBytes_41 ?_
          refine lv_iconst (v := 1) hx hb dX7_putBytes_44 ic_1 ?_
          refine lv_iadd hx hb dX7_putBytes_45 ?_
          obtain ⟨t6, et6, h⟩ := bnd_e h
          refine pX7_47 C hd et6 dX7_putBytes_46 (fun H locs hd => ?_)
          exact w_X7_putBytes_49 C hr ih t6 x1 x2 h _ _ _ hd (lv_sub hl [0, 1, 2] rfl)
noncomputable def f_X7_putBytes (F : Nat) (σ : St) (x1 : Int32) : Option St :=
  f_X7_putBytes_3 F F σ x1 24
set_option maxRecDepth 100000 in
set_option maxHeartbeats 4000000 in
theorem c_X7_putBytes {l : Launch} {g : Gp} {X : va_W} (hE : E0 g) {F : Nat} {σ' : St} {σ : St} {x1 : Int32} (h : f_X7_putBytes F σ x1 = some σ') : Cv l g yX7_putBytes cX7_putBytes 3 0 [.ref (ga g 0), .int x1] (wD g σ ++ X) (wD g σ' ++ X) := by
  refine rHead hE (by decide +kernel) (Nat.le_of_ble_eq_true rfl) (fun p e s m below meth c C hr _ hd ls hl => ?_)
  have hx := C.1
  have hb := C.2.1
  have hl : lv_has ls 3 [(0, .ref (ga g 0)), (1, .int x1)] := hl
  generalize ([.ref (ga g 0), .int x1] : List Value).toArray = args at C ⊢
  have C : Cx g p s m args meth c cX7_putBytes 3 RX7 := C
  rw [f_X7_putBytes] at h
  refine lv_bipush (v := 24) hx hb dX7_putBytes_0 bi_24 ?_
  refine lv_istore_n (lv' := [(2, .int 24), (0, .ref (ga g 0)), (1, .int x1)]) hx hb dX7_putBytes_2 rfl hl (Nat.le_of_ble_eq_true rfl) rfl (fun ls hl => ?_)
  exact w_X7_putBytes_3 C hr _ σ x1 24 h _ _ _ hd (lv_sub hl [1, 2, 0] rfl)
noncomputable def f_X7_feed (F : Nat) (σ : St) (x1 : Int32) (x2 : Int32) (x3 : Int32) (x4 : Int32) (x5 : Int32) : Option (Int32 × St) :=
  if ((σ.1 1) + 20) ≤ 2000 then (cal (f_X7_putBytes F σ x1) (fun t2 => cal (f_X7_putBytes F t2 x2) (fun t3 => cal (f_X7_putBytes F t3 x3) (fun t4 => cal (f_X7_putBytes F t4 x4) (fun t5 => cal (f_X7_putBytes F t5 x5) (fun t6 => some ((t6.1 1), t6))))))) else (some ((-1 : Int32), σ))
set_option maxRecDepth 100000 in
set_option maxHeartbeats 4000000 in
theorem c_X7_feed {l : Launch} {g : Gp} {X : va_W} (hE : E0 g) {F : Nat} {r' : Int32} {σ' : St} {σ : St} {x1 : Int32} {x2 : Int32} {x3 : Int32} {x4 : Int32} {x5 : Int32} (h : f_X7_feed F σ x1 x2 x3 x4 x5 = some (r', σ')) : Ci l g yX7_feed cX7_feed 6 (some .int) 1 [.ref (ga g 0), .int x1, .int x2, .int x3, .int x4, .int x5] (wD g σ ++ X) r' (wD g σ' ++ X) := by
  refine rHead hE (by decide +kernel) (Nat.le_of_ble_eq_true rfl) (fun p e s m below meth c C hr _ hd ls hl => ?_)
  have hx := C.1
  have hb := C.2.1
  have hl : lv_has ls 6 [(0, .ref (ga g 0)), (1, .int x1), (2, .int x2), (3, .int x3), (4, .int x4), (5, .int x5)] := hl
  generalize ([.ref (ga g 0), .int x1, .int x2, .int x3, .int x4, .int x5] : List Value).toArray = args at C ⊢
  have C : Cx g p s m args meth c cX7_feed 6 RX7 := C
  rw [f_X7_feed] at h
  refine lv_aload_n hx hb dX7_feed_0 rfl (lv_at hl 0 rfl) ?_
  refine gX7_47 C hd dX7_feed_1 ?_
  refine lv_bipush (v := 20) hx hb dX7_feed_4 bi_20 ?_
  refine lv_iadd hx hb dX7_feed_6 ?_
  refine lv_sipush (v := 2000) hx hb dX7_feed_7 si_2000 ?_
  refine lv_icmp_le (tgt := 15) hx hb dX7_feed_10 (by decide) (fun c1 => ?_) (fun c1 => ?_)
  · replace h := iteT c1 h
    refine lv_aload_n hx hb dX7_feed_15 rfl (lv_at hl 0 rfl) ?_
    refine lv_iload_n hx hb dX7_feed_16 rfl (lv_at hl 1 rfl) ?_
    obtain ⟨t2, et2, h⟩ := cal_e h
    refine rCallV C hd (c_X7_putBytes hE et2) kX7_89 0 rfl rfl rfl rfl hl.1 rfl (Nat.le_of_ble_eq_true rfl) ⟨(Nat.le_of_ble_eq_true rfl), (Nat.le_of_ble_eq_true rfl)⟩ ⟨Nat.le_refl _, Nat.le_refl _⟩ dX7_feed_17 (fun H locs hd => ?_)
    refine lv_aload_n hx hb dX7_feed_20 rfl (lv_at hl 0 rfl) ?_
    refine lv_iload_n hx hb dX7_feed_21 rfl (lv_at hl 2 rfl) ?_
    obtain ⟨t3, et3, h⟩ := cal_e h
    refine rCallV C hd (c_X7_putBytes hE et3) kX7_89 0 rfl rfl rfl rfl hl.1 rfl (Nat.le_of_ble_eq_true rfl) ⟨(Nat.le_of_ble_eq_true rfl), (Nat.le_of_ble_eq_true rfl)⟩ ⟨Nat.le_refl _, Nat.le_refl _⟩ dX7_feed_22 (fun H locs hd => ?_)
    refine lv_aload_n hx hb dX7_feed_25 rfl (lv_at hl 0 rfl) ?_
    refine lv_iload_n hx hb dX7_feed_26 rfl (lv_at hl 3 rfl) ?_
    obtain ⟨t4, et4, h⟩ := cal_e h
    refine rCallV C hd (c_X7_putBytes hE et4) kX7_89 0 rfl rfl rfl rfl hl.1 rfl (Nat.le_of_ble_eq_true rfl) ⟨(Nat.le_of_ble_eq_true rfl), (Nat.le_of_ble_eq_true rfl)⟩ ⟨Nat.le_refl _, Nat.le_refl _⟩ dX7_feed_27 (fun H locs hd => ?_)
    refine lv_aload_n hx hb dX7_feed_30 rfl (lv_at hl 0 rfl) ?_
    refine lv_iload hx hb dX7_feed_31 (lv_at hl 4 rfl) ?_
    obtain ⟨t5, et5, h⟩ := cal_e h
    refine rCallV C hd (c_X7_putBytes hE et5) kX7_89 0 rfl rfl rfl rfl hl.1 rfl (Nat.le_of_ble_eq_true rfl) ⟨(Nat.le_of_ble_eq_true rfl), (Nat.le_of_ble_eq_true rfl)⟩ ⟨Nat.le_refl _, Nat.le_refl _⟩ dX7_feed_33 (fun H locs hd => ?_)
    refine lv_aload_n hx hb dX7_feed_36 rfl (lv_at hl 0 rfl) ?_
    refine lv_iload hx hb dX7_feed_37 (lv_at hl 5 rfl) ?_
    obtain ⟨t6, et6, h⟩ := cal_e h
    refine rCallV C hd (c_X7_putBytes hE et6) kX7_89 0 rfl rfl rfl rfl hl.1 rfl (Nat.le_of_ble_eq_true rfl) ⟨(Nat.le_of_ble_eq_true rfl), (Nat.le_of_ble_eq_true rfl)⟩ ⟨Nat.le_refl _, Nat.le_refl _⟩ dX7_feed_39 (fun H locs hd => ?_)
    refine lv_aload_n hx hb dX7_feed_42 rfl (lv_at hl 0 rfl) ?_
    refine gX7_47 C hd dX7_feed_43 ?_
    exact rIretS (w := wD g) C hr hd h dX7_feed_46
  · replace h := iteF c1 h
    refine lv_iconst (v := (-1 : Int32)) hx hb dX7_feed_13 ic_m1 ?_
    exact rIretS (w := wD g) C hr hd h dX7_feed_14
noncomputable def f_X7_fill_23 (F : Nat) : Nat → St → Int32 → Int32 → Option (Int32 × St)
  | 0, _, _, _ => none
  | n + 1, σ, x1, x2 => if x1 ≤ x2 then (some (x1, σ)) else (cal2 (f_X2_come F σ 3 (-2 : Int32) 0) (fun r2 t3 => bnd (x2 + 1) (fun v4 => f_X7_fill_23 F n t3 x1 v4)))
set_option maxRecDepth 100000 in
set_option maxHeartbeats 4000000 in
theorem w_X7_fill_23 {F : Nat} {r' : Int32} {σ' : St}  (C : Cx g p s m args meth c cX7_fill 3 RX7) (hr : meth.sig.returnType = some .int) :
    (∀ (n : Nat) (σ : St) (x1 : Int32) (x2 : Int32), f_X7_fill_23 F n σ x1 x2 = some (r', σ') → ∀ (H : Heap) (locs : List Loc) (ls : Array Slot), Dy g (wD g σ ++ X) s H locs → lv_has ls 3 [(0, .ref (ga g 0)), (1, .int x1), (2, .int x2)] → W p l e (rmD 3) s m args below meth c H locs 0 0 (QI g below args s (wD g σ' ++ X) r') (F0 m 23 ls [])) := by
  have hx := C.1
  have hb := C.2.1
  have hE := C.2.2.2.2.2.2.2.2
  intro n
  induction n with
  | zero =>
    intro σ x1 x2 h
    cases h
  | succ n ih =>
    intro σ x1 x2 h H locs ls hd hl
    rw [f_X7_fill_23] at h
    refine lv_iload_n hx hb dX7_fill_23 rfl (lv_at hl 2 rfl) ?_
    refine lv_iload_n hx hb dX7_fill_24 rfl (lv_at hl 1 rfl) ?_
    refine lv_icmp_ge (tgt := 46) hx hb dX7_fill_25 (by decide) (fun c1 => ?_) (fun c1 => ?_)
    · replace h := iteT c1 h
      refine lv_iload_n hx hb dX7_fill_46 rfl (lv_at hl 1 rfl) ?_
      exact rIretS (w := wD g) C hr hd h dX7_fill_47
    · replace h := iteF c1 h
      refine lv_aload_n hx hb dX7_fill_28 rfl (lv_at hl 0 rfl) ?_
      refine gX7_20 C hd dX7_fill_29 ?_
      refine lv_iconst (v := 3) hx hb dX7_fill_32 ic_3 ?_
      refine lv_bipush (v := (-2 : Int32)) hx hb dX7_fill_33 bi_m2 ?_
      refine lv_iconst (v := 0) hx hb dX7_fill_35 ic_0 ?_
      obtain ⟨r2, t3, et3, h⟩ := cal2_e h
      refine rCallI C hd (c_X2_come hE et3) kX7_195 2 rfl rfl rfl rfl hl.1 rfl (Nat.le_of_ble_eq_true rfl) ⟨(Nat.le_of_ble_eq_true rfl), (Nat.le_of_ble_eq_true rfl)⟩ ⟨Nat.le_refl _, Nat.le_refl _⟩ dX7_fill_36 (fun H locs hd => ?_)
      refine lv_pop hx hb dX7_fill_39 rfl ?_
      obtain ⟨v4, ev4, h⟩ := bnd_e h
      refine lv_iinc (v := v4) (lv' := [(2, .int v4), (0, .ref (ga g 0)), (1, .int x1)]) hx hb dX7_fill_40 hl (k := 2) rfl ((ii_1 _).trans ev4.symm) (Nat.le_of_ble_eq_true rfl) rfl (fun ls hl => ?_)
      refine lv_goto (tgt := 23) hx hb dX7_fill_43 (by decide) ?_
      exact ih t3 x1 v4 h _ _ _ hd (lv_sub hl [1, 2, 0] rfl)
noncomputable def f_X7_fill (F : Nat) (σ : St) : Option (Int32 × St) :=
  cal (f_X2_missingToFull F σ) (fun r1 => cal (f_X2_hasRoomFor F σ r1) (fun r2 => if r2 = 0 then (some ((-1 : Int32), σ)) else (f_X7_fill_23 F F σ r1 0)))
set_option maxRecDepth 100000 in
set_option maxHeartbeats 4000000 in
theorem c_X7_fill {l : Launch} {g : Gp} {X : va_W} (hE : E0 g) {F : Nat} {r' : Int32} {σ' : St} {σ : St} (h : f_X7_fill F σ = some (r', σ')) : Ci l g yX7_fill cX7_fill 3 (some .int) 3 [.ref (ga g 0)] (wD g σ ++ X) r' (wD g σ' ++ X) := by
  refine rHead hE (by decide +kernel) (Nat.le_of_ble_eq_true rfl) (fun p e s m below meth c C hr _ hd ls hl => ?_)
  have hx := C.1
  have hb := C.2.1
  have hl : lv_has ls 3 [(0, .ref (ga g 0))] := hl
  generalize ([.ref (ga g 0)] : List Value).toArray = args at C ⊢
  have C : Cx g p s m args meth c cX7_fill 3 RX7 := C
  rw [f_X7_fill] at h
  refine lv_aload_n hx hb dX7_fill_0 rfl (lv_at hl 0 rfl) ?_
  refine gX7_20 C hd dX7_fill_1 ?_
  obtain ⟨r1, er1, h⟩ := cal_e h
  refine rCallI C hd (c_X2_missingToFull hE er1) kX7_198 2 rfl rfl rfl rfl hl.1 rfl (Nat.le_of_ble_eq_true rfl) ⟨(Nat.le_of_ble_eq_true rfl), (Nat.le_of_ble_eq_true rfl)⟩ ⟨Nat.le_refl _, Nat.le_refl _⟩ dX7_fill_4 (fun H locs hd => ?_)
  refine lv_istore_n (lv' := [(1, .int r1), (0, .ref (ga g 0))]) hx hb dX7_fill_7 rfl hl (Nat.le_of_ble_eq_true rfl) rfl (fun ls hl => ?_)
  refine lv_aload_n hx hb dX7_fill_8 rfl (lv_at hl 1 rfl) ?_
  refine gX7_20 C hd dX7_fill_9 ?_
  refine lv_iload_n hx hb dX7_fill_12 rfl (lv_at hl 0 rfl) ?_
  obtain ⟨r2, er2, h⟩ := cal_e h
  refine rCallI C hd (c_X2_hasRoomFor hE er2) kX7_201 2 rfl rfl rfl rfl hl.1 rfl (Nat.le_of_ble_eq_true rfl) ⟨(Nat.le_of_ble_eq_true rfl), (Nat.le_of_ble_eq_true rfl)⟩ ⟨Nat.le_refl _, Nat.le_refl _⟩ dX7_fill_13 (fun H locs hd => ?_)
  refine lv_if_ne (tgt := 21) hx hb dX7_fill_16 (by decide) (fun c3 => ?_) (fun c3 => ?_)
  · replace h := iteF c3 h
    refine lv_iconst (v := 0) hx hb dX7_fill_21 ic_0 ?_
    refine lv_istore_n (lv' := [(2, .int 0), (1, .int r1), (0, .ref (ga g 0))]) hx hb dX7_fill_22 rfl hl (Nat.le_of_ble_eq_true rfl) rfl (fun ls hl => ?_)
    exact w_X7_fill_23 C hr _ σ r1 0 h _ _ _ hd (lv_sub hl [2, 1, 0] rfl)
  · replace h := iteT c3 h
    refine lv_iconst (v := (-1 : Int32)) hx hb dX7_fill_19 ic_m1 ?_
    exact rIretS (w := wD g) C hr hd h dX7_fill_20
noncomputable def f_X7_firstPinnedBy (F : Nat) (σ : St) (x1 : Int32) : Option (Int32 × St) :=
  cal (f_X2_now F σ) (fun r1 => cal (f_X2_going F σ) (fun r2 => cal (f_X3_aim F σ x1 r2) (fun t3 => cal (f_X3_isOnTheWay F t3 r1) (fun r4 => if r4 = 0 then (some ((-2 : Int32), t3)) else (cal (f_X3_neededTo F t3 r1) (fun r6 => if r6 = 0 then (some ((-2 : Int32), t3)) else (cal (f_X2_pieceHolding F t3 (t3.1 13)) (fun r8 => some (r8, t3)))))))))
set_option maxRecDepth 100000 in
set_option maxHeartbeats 4000000 in
theorem c_X7_firstPinnedBy {l : Launch} {g : Gp} {X : va_W} (hE : E0 g) {F : Nat} {r' : Int32} {σ' : St} {σ : St} {x1 : Int32} (h : f_X7_firstPinnedBy F σ x1 = some (r', σ')) : Ci l g yX7_firstPinnedBy cX7_firstPinnedBy 3 (some .int) 4 [.ref (ga g 0), .int x1] (wD g σ ++ X) r' (wD g σ' ++ X) := by
  refine rHead hE (by decide +kernel) (Nat.le_of_ble_eq_true rfl) (fun p e s m below meth c C hr _ hd ls hl => ?_)
  have hx := C.1
  have hb := C.2.1
  have hl : lv_has ls 3 [(0, .ref (ga g 0)), (1, .int x1)] := hl
  generalize ([.ref (ga g 0), .int x1] : List Value).toArray = args at C ⊢
  have C : Cx g p s m args meth c cX7_firstPinnedBy 3 RX7 := C
  rw [f_X7_firstPinnedBy] at h
  refine lv_aload_n hx hb dX7_firstPinnedBy_0 rfl (lv_at hl 0 rfl) ?_
  refine gX7_20 C hd dX7_firstPinnedBy_1 ?_
  obtain ⟨r1, er1, h⟩ := cal_e h
  refine rCallI C hd (c_X2_now hE er1) kX7_123 2 rfl rfl rfl rfl hl.1 rfl (Nat.le_of_ble_eq_true rfl) ⟨(Nat.le_of_ble_eq_true rfl), (Nat.le_of_ble_eq_true rfl)⟩ ⟨Nat.le_refl _, Nat.le_refl _⟩ dX7_firstPinnedBy_4 (fun H locs hd => ?_)
  refine lv_istore_n (lv' := [(2, .int r1), (0, .ref (ga g 0)), (1, .int x1)]) hx hb dX7_firstPinnedBy_7 rfl hl (Nat.le_of_ble_eq_true rfl) rfl (fun ls hl => ?_)
  refine lv_aload_n hx hb dX7_firstPinnedBy_8 rfl (lv_at hl 1 rfl) ?_
  refine gX7_31 C hd dX7_firstPinnedBy_9 ?_
  refine lv_iload_n hx hb dX7_firstPinnedBy_12 rfl (lv_at hl 2 rfl) ?_
  refine lv_aload_n hx hb dX7_firstPinnedBy_13 rfl (lv_at hl 1 rfl) ?_
  refine gX7_20 C hd dX7_firstPinnedBy_14 ?_
  obtain ⟨r2, er2, h⟩ := cal_e h
  refine rCallI C hd (c_X2_going hE er2) kX7_129 2 rfl rfl rfl rfl hl.1 rfl (Nat.le_of_ble_eq_true rfl) ⟨(Nat.le_of_ble_eq_true rfl), (Nat.le_of_ble_eq_true rfl)⟩ ⟨Nat.le_refl _, Nat.le_refl _⟩ dX7_firstPinnedBy_17 (fun H locs hd => ?_)
  obtain ⟨t3, et3, h⟩ := cal_e h
  refine rCallV C hd (c_X3_aim hE et3) kX7_247 4 rfl rfl rfl rfl hl.1 rfl (Nat.le_of_ble_eq_true rfl) ⟨(Nat.le_of_ble_eq_true rfl), (Nat.le_of_ble_eq_true rfl)⟩ ⟨Nat.le_refl _, Nat.le_refl _⟩ dX7_firstPinnedBy_20 (fun H locs hd => ?_)
  refine lv_aload_n hx hb dX7_firstPinnedBy_23 rfl (lv_at hl 1 rfl) ?_
  refine gX7_31 C hd dX7_firstPinnedBy_24 ?_
  refine lv_iload_n hx hb dX7_firstPinnedBy_27 rfl (lv_at hl 0 rfl) ?_
  obtain ⟨r4, er4, h⟩ := cal_e h
  refine rCallI C hd (c_X3_isOnTheWay hE er4) kX7_351 4 rfl rfl rfl rfl hl.1 rfl (Nat.le_of_ble_eq_true rfl) ⟨(Nat.le_of_ble_eq_true rfl), (Nat.le_of_ble_eq_true rfl)⟩ ⟨Nat.le_refl _, Nat.le_refl _⟩ dX7_firstPinnedBy_28 (fun H locs hd => ?_)
  refine lv_if_eq (tgt := 45) hx hb dX7_firstPinnedBy_31 (by decide) (fun c5 => ?_) (fun c5 => ?_)
  · replace h := iteT c5 h
    refine lv_bipush (v := (-2 : Int32)) hx hb dX7_firstPinnedBy_45 bi_m2 ?_
    exact rIretS (w := wD g) C hr hd h dX7_firstPinnedBy_47
  · replace h := iteF c5 h
    refine lv_aload_n hx hb dX7_firstPinnedBy_34 rfl (lv_at hl 1 rfl) ?_
    refine gX7_31 C hd dX7_firstPinnedBy_35 ?_
    refine lv_iload_n hx hb dX7_firstPinnedBy_38 rfl (lv_at hl 0 rfl) ?_
    obtain ⟨r6, er6, h⟩ := cal_e h
    refine rCallI C hd (c_X3_neededTo hE er6) kX7_354 4 rfl rfl rfl rfl hl.1 rfl (Nat.le_of_ble_eq_true rfl) ⟨(Nat.le_of_ble_eq_true rfl), (Nat.le_of_ble_eq_true rfl)⟩ ⟨Nat.le_refl _, Nat.le_refl _⟩ dX7_firstPinnedBy_39 (fun H locs hd => ?_)
    refine lv_if_ne (tgt := 48) hx hb dX7_firstPinnedBy_42 (by decide) (fun c7 => ?_) (fun c7 => ?_)
    · replace h := iteF c7 h
      refine lv_aload_n hx hb dX7_firstPinnedBy_48 rfl (lv_at hl 1 rfl) ?_
      refine gX7_20 C hd dX7_firstPinnedBy_49 ?_
      refine lv_aload_n hx hb dX7_firstPinnedBy_52 rfl (lv_at hl 1 rfl) ?_
      refine gX7_31 C hd dX7_firstPinnedBy_53 ?_
      refine gX7_357 C hd dX7_firstPinnedBy_56 ?_
      obtain ⟨r8, er8, h⟩ := cal_e h
      refine rCallI C hd (c_X2_pieceHolding hE er8) kX7_297 2 rfl rfl rfl rfl hl.1 rfl (Nat.le_of_ble_eq_true rfl) ⟨(Nat.le_of_ble_eq_true rfl), (Nat.le_of_ble_eq_true rfl)⟩ ⟨Nat.le_refl _, Nat.le_refl _⟩ dX7_firstPinnedBy_59 (fun H locs hd => ?_)
      exact rIretS (w := wD g) C hr hd h dX7_firstPinnedBy_62
    · replace h := iteT c7 h
      refine lv_bipush (v := (-2 : Int32)) hx hb dX7_firstPinnedBy_45 bi_m2 ?_
      exact rIretS (w := wD g) C hr hd h dX7_firstPinnedBy_47
noncomputable def f_X7_gaps_94 (F : Nat) (k_48 : St → Int32 → Int32 → Int32 → Int32 → Int32 → Int32 → Option Int32) (σ : St) (x1 : Int32) (x2 : Int32) (x3 : Int32) (x4 : Int32) (x5 : Int32) (x6 : Int32) : Option Int32 :=
  bnd (x6 + 1) (fun v1 => k_48 σ x1 x2 x3 x4 x5 v1)
set_option maxRecDepth 100000 in
set_option maxHeartbeats 4000000 in
theorem w_X7_gaps_94 {F : Nat} {r' : Int32}  (C : Cx g p s m args meth c cX7_gaps 7 RX7) (hr : meth.sig.returnType = some .int)
    {k_48 : St → Int32 → Int32 → Int32 → Int32 → Int32 → Int32 → Option Int32} (hk_48 : (∀ (σ : St) (x1 : Int32) (x2 : Int32) (x3 : Int32) (x4 : Int32) (x5 : Int32) (x6 : Int32), k_48 σ x1 x2 x3 x4 x5 x6 = some r' → ∀ (H : Heap) (locs : List Loc) (ls : Array Slot), Dy g (wD g σ ++ X) s H locs → lv_has ls 7 [(0, .ref (ga g 0)), (1, .int x1), (2, .int x2), (3, .int x3), (4, .int x4), (5, .int x5), (6, .int x6)] → W p l e (rmD 2) s m args below meth c H locs 0 0 (QI g below args s (wD g σ ++ X) r') (F0 m 48 ls []))) :
    (∀ (σ : St) (x1 : Int32) (x2 : Int32) (x3 : Int32) (x4 : Int32) (x5 : Int32) (x6 : Int32), f_X7_gaps_94 F k_48 σ x1 x2 x3 x4 x5 x6 = some r' → ∀ (H : Heap) (locs : List Loc) (ls : Array Slot), Dy g (wD g σ ++ X) s H locs → lv_has ls 7 [(0, .ref (ga g 0)), (1, .int x1), (2, .int x2), (3, .int x3), (4, .int x4), (5, .int x5), (6, .int x6)] → W p l e (rmD 2) s m args below meth c H locs 0 0 (QI g below args s (wD g σ ++ X) r') (F0 m 94 ls [])) := by
  have hx := C.1
  have hb := C.2.1
  have hE := C.2.2.2.2.2.2.2.2
  intro σ x1 x2 x3 x4 x5 x6 h H locs ls hd hl
  rw [f_X7_gaps_94] at h
  obtain ⟨v1, ev1, h⟩ := bnd_e h
  refine lv_iinc (v := v1) (lv' := [(6, .int v1), (0, .ref (ga g 0)), (1, .int x1), (2, .int x2), (3, .int x3), (4, .int x4), (5, .int x5)]) hx hb dX7_gaps_94 hl (k := 6) rfl ((ii_1 _).trans ev1.symm) (Nat.le_of_ble_eq_true rfl) rfl (fun ls hl => ?_)
  refine lv_goto (tgt := 48) hx hb dX7_gaps_97 (by decide) ?_
  exact hk_48 σ x1 x2 x3 x4 x5 v1 h _ _ _ hd (lv_sub hl [1, 2, 3, 4, 5, 6, 0] rfl)
noncomputable def f_X7_gaps_89 (F : Nat) (k_48 : St → Int32 → Int32 → Int32 → Int32 → Int32 → Int32 → Option Int32) (σ : St) (x1 : Int32) (x2 : Int32) (x3 : Int32) (x5 : Int32) (x6 : Int32) (y0 : Int32) : Option Int32 :=
  bnd (x3 + 1) (fun v1 => f_X7_gaps_94 F k_48 σ x1 x2 v1 y0 x5 x6)
set_option maxRecDepth 100000 in
set_option maxHeartbeats 4000000 in
theorem w_X7_gaps_89 {F : Nat} {r' : Int32}  (C : Cx g p s m args meth c cX7_gaps 7 RX7) (hr : meth.sig.returnType = some .int)
    {k_48 : St → Int32 → Int32 → Int32 → Int32 → Int32 → Int32 → Option Int32} (hk_48 : (∀ (σ : St) (x1 : Int32) (x2 : Int32) (x3 : Int32) (x4 : Int32) (x5 : Int32) (x6 : Int32), k_48 σ x1 x2 x3 x4 x5 x6 = some r' → ∀ (H : Heap) (locs : List Loc) (ls : Array Slot), Dy g (wD g σ ++ X) s H locs → lv_has ls 7 [(0, .ref (ga g 0)), (1, .int x1), (2, .int x2), (3, .int x3), (4, .int x4), (5, .int x5), (6, .int x6)] → W p l e (rmD 2) s m args below meth c H locs 0 0 (QI g below args s (wD g σ ++ X) r') (F0 m 48 ls []))) :
    (∀ (σ : St) (x1 : Int32) (x2 : Int32) (x3 : Int32) (x5 : Int32) (x6 : Int32) (y0 : Int32), f_X7_gaps_89 F k_48 σ x1 x2 x3 x5 x6 y0 = some r' → ∀ (H : Heap) (locs : List Loc) (ls : Array Slot), Dy g (wD g σ ++ X) s H locs → lv_has ls 7 [(0, .ref (ga g 0)), (1, .int x1), (2, .int x2), (3, .int x3), (5, .int x5), (6, .int x6)] → W p l e (rmD 2) s m args below meth c H locs 0 0 (QI g below args s (wD g σ ++ X) r') (F0 m 89 ls [.int y0])) := by
  have hx := C.1
  have hb := C.2.1
  have hE := C.2.2.2.2.2.2.2.2
  intro σ x1 x2 x3 x5 x6 y0 h H locs ls hd hl
  rw [f_X7_gaps_89] at h
  refine lv_istore (lv' := [(4, .int y0), (0, .ref (ga g 0)), (1, .int x1), (2, .int x2), (3, .int x3), (5, .int x5), (6, .int x6)]) hx hb dX7_gaps_89 hl (Nat.le_of_ble_eq_true rfl) rfl (fun ls hl => ?_)
  obtain ⟨v1, ev1, h⟩ := bnd_e h
  refine lv_iinc (v := v1) (lv' := [(3, .int v1), (4, .int y0), (0, .ref (ga g 0)), (1, .int x1), (2, .int x2), (5, .int x5), (6, .int x6)]) hx hb dX7_gaps_91 hl (k := 4) rfl ((ii_1 _).trans ev1.symm) (Nat.le_of_ble_eq_true rfl) rfl (fun ls hl => ?_)
  exact w_X7_gaps_94 C hr hk_48 σ x1 x2 v1 y0 x5 x6 h _ _ _ hd (lv_sub hl [2, 3, 4, 0, 1, 5, 6] rfl)
noncomputable def f_X7_gaps_48 (F : Nat) : Nat → St → Int32 → Int32 → Int32 → Int32 → Int32 → Int32 → Option Int32
  | 0, _, _, _, _, _, _, _ => none
  | n + 1, σ, x1, x2, x3, x4, x5, x6 => if x5 < x6 then (if x2 = 0 then (some x3) else (some x4)) else (cal (f_X2_keeperOf F σ x1 x6) (fun r3 => cal (f_X2_hindranceOf F σ r3 x6) (fun r4 => if r4 = 4 then (if x3 = 0 then (f_X7_gaps_89 F (f_X7_gaps_48 F n) σ x1 x2 x3 x5 x6 x6) else (f_X7_gaps_89 F (f_X7_gaps_48 F n) σ x1 x2 x3 x5 x6 x4)) else (f_X7_gaps_94 F (f_X7_gaps_48 F n) σ x1 x2 x3 x4 x5 x6))))
set_option maxRecDepth 100000 in
set_option maxHeartbeats 4000000 in
theorem w_X7_gaps_48 {F : Nat} {r' : Int32}  (C : Cx g p s m args meth c cX7_gaps 7 RX7) (hr : meth.sig.returnType = some .int) :
    (∀ (n : Nat) (σ : St) (x1 : Int32) (x2 : Int32) (x3 : Int32) (x4 : Int32) (x5 : Int32) (x6 : Int32), f_X7_gaps_48 F n σ x1 x2 x3 x4 x5 x6 = some r' → ∀ (H : Heap) (locs : List Loc) (ls : Array Slot), Dy g (wD g σ ++ X) s H locs → lv_has ls 7 [(0, .ref (ga g 0)), (1, .int x1), (2, .int x2), (3, .int x3), (4, .int x4), (5, .int x5), (6, .int x6)] → W p l e (rmD 2) s m args below meth c H locs 0 0 (QI g below args s (wD g σ ++ X) r') (F0 m 48 ls [])) := by
  have hx := C.1
  have hb := C.2.1
  have hE := C.2.2.2.2.2.2.2.2
  intro n
  induction n with
  | zero =>
    intro σ x1 x2 x3 x4 x5 x6 h
    cases h
  | succ n ih =>
    intro σ x1 x2 x3 x4 x5 x6 h H locs ls hd hl
    rw [f_X7_gaps_48] at h
    refine lv_iload hx hb dX7_gaps_48 (lv_at hl 6 rfl) ?_
    refine lv_iload hx hb dX7_gaps_50 (lv_at hl 5 rfl) ?_
    refine lv_icmp_gt (tgt := 100) hx hb dX7_gaps_52 (by decide) (fun c1 => ?_) (fun c1 => ?_)
    · replace h := iteT c1 h
      refine lv_iload_n hx hb dX7_gaps_100 rfl (lv_at hl 2 rfl) ?_
      refine lv_if_ne (tgt := 108) hx hb dX7_gaps_101 (by decide) (fun c2 => ?_) (fun c2 => ?_)
      · replace h := iteF c2 h
        refine lv_iload hx hb dX7_gaps_108 (lv_at hl 4 rfl) ?_
        exact rIretP C hr hd h dX7_gaps_110
      · replace h := iteT c2 h
        refine lv_iload_n hx hb dX7_gaps_104 rfl (lv_at hl 3 rfl) ?_
        refine lv_goto (tgt := 110) hx hb dX7_gaps_105 (by decide) ?_
        exact rIretP C hr hd h dX7_gaps_110
    · replace h := iteF c1 h
      refine lv_aload_n hx hb dX7_gaps_55 rfl (lv_at hl 0 rfl) ?_
      refine gX7_20 C hd dX7_gaps_56 ?_
      refine lv_aload_n hx hb dX7_gaps_59 rfl (lv_at hl 0 rfl) ?_
      refine gX7_20 C hd dX7_gaps_60 ?_
      refine lv_iload_n hx hb dX7_gaps_63 rfl (lv_at hl 1 rfl) ?_
      refine lv_iload hx hb dX7_gaps_64 (lv_at hl 6 rfl) ?_
      obtain ⟨r3, er3, h⟩ := cal_e h
      refine rCallI C hd (c_X2_keeperOf hE er3) kX7_363 2 rfl rfl rfl rfl hl.1 rfl (Nat.le_of_ble_eq_true rfl) ⟨(Nat.le_of_ble_eq_true rfl), (Nat.le_of_ble_eq_true rfl)⟩ ⟨Nat.le_refl _, Nat.le_refl _⟩ dX7_gaps_66 (fun H locs hd => ?_)
      refine lv_iload hx hb dX7_gaps_69 (lv_at hl 6 rfl) ?_
      obtain ⟨r4, er4, h⟩ := cal_e h
      refine rCallI C hd (c_X2_hindranceOf hE er4) kX7_381 2 rfl rfl rfl rfl hl.1 rfl (Nat.le_of_ble_eq_true rfl) ⟨(Nat.le_of_ble_eq_true rfl), (Nat.le_of_ble_eq_true rfl)⟩ ⟨Nat.le_refl _, Nat.le_refl _⟩ dX7_gaps_71 (fun H locs hd => ?_)
      refine lv_iconst (v := 4) hx hb dX7_gaps_74 ic_4 ?_
      refine lv_icmp_ne (tgt := 94) hx hb dX7_gaps_75 (by decide) (fun c5 => ?_) (fun c5 => ?_)
      · replace h := iteF c5 h
        exact w_X7_gaps_94 C hr ih σ x1 x2 x3 x4 x5 x6 h _ _ _ hd (lv_sub hl [0, 1, 2, 3, 4, 5, 6] rfl)
      · replace h := iteT c5 h
        refine lv_iload_n hx hb dX7_gaps_78 rfl (lv_at hl 3 rfl) ?_
        refine lv_if_ne (tgt := 87) hx hb dX7_gaps_79 (by decide) (fun c6 => ?_) (fun c6 => ?_)
        · replace h := iteF c6 h
          refine lv_iload hx hb dX7_gaps_87 (lv_at hl 4 rfl) ?_
          exact w_X7_gaps_89 C hr ih σ x1 x2 x3 x5 x6 x4 h _ _ _ hd (lv_sub hl [0, 1, 2, 3, 5, 6] rfl)
        · replace h := iteT c6 h
          refine lv_iload hx hb dX7_gaps_82 (lv_at hl 6 rfl) ?_
          refine lv_goto (tgt := 89) hx hb dX7_gaps_84 (by decide) ?_
          exact w_X7_gaps_89 C hr ih σ x1 x2 x3 x5 x6 x6 h _ _ _ hd (lv_sub hl [0, 1, 2, 3, 5, 6] rfl)
noncomputable def f_X7_gaps (F : Nat) (σ : St) (x1 : Int32) (x2 : Int32) : Option Int32 :=
  cal (f_X2_hasLine F σ x1) (fun r1 => if r1 = 0 then (some (-1 : Int32)) else (if x2 < 0 then (some (-1 : Int32)) else (if x2 ≤ 1 then (cal (f_X2_tipOf F σ x1) (fun r5 => cal (f_X2_pieceHolding F σ r5) (fun r6 => f_X7_gaps_48 F F σ x1 x2 0 (-2 : Int32) r6 0))) else (some (-1 : Int32)))))
set_option maxRecDepth 100000 in
set_option maxHeartbeats 4000000 in
theorem c_X7_gaps {l : Launch} {g : Gp} {X : va_W} (hE : E0 g) {F : Nat} {r' : Int32} {σ : St} {x1 : Int32} {x2 : Int32} (h : f_X7_gaps F σ x1 x2 = some r') : Ci l g yX7_gaps cX7_gaps 7 (some .int) 2 [.ref (ga g 0), .int x1, .int x2] (wD g σ ++ X) r' (wD g σ ++ X) := by
  refine rHead hE (by decide +kernel) (Nat.le_of_ble_eq_true rfl) (fun p e s m below meth c C hr _ hd ls hl => ?_)
  have hx := C.1
  have hb := C.2.1
  have hl : lv_has ls 7 [(0, .ref (ga g 0)), (1, .int x1), (2, .int x2)] := hl
  generalize ([.ref (ga g 0), .int x1, .int x2] : List Value).toArray = args at C ⊢
  have C : Cx g p s m args meth c cX7_gaps 7 RX7 := C
  rw [f_X7_gaps] at h
  refine lv_aload_n hx hb dX7_gaps_0 rfl (lv_at hl 0 rfl) ?_
  refine gX7_20 C hd dX7_gaps_1 ?_
  refine lv_iload_n hx hb dX7_gaps_4 rfl (lv_at hl 1 rfl) ?_
  obtain ⟨r1, er1, h⟩ := cal_e h
  refine rCallI C hd (c_X2_hasLine hE er1) kX7_282 2 rfl rfl rfl rfl hl.1 rfl (Nat.le_of_ble_eq_true rfl) ⟨(Nat.le_of_ble_eq_true rfl), (Nat.le_of_ble_eq_true rfl)⟩ ⟨Nat.le_refl _, Nat.le_refl _⟩ dX7_gaps_5 (fun H locs hd => ?_)
  refine lv_if_eq (tgt := 20) hx hb dX7_gaps_8 (by decide) (fun c2 => ?_) (fun c2 => ?_)
  · replace h := iteT c2 h
    refine lv_iconst (v := (-1 : Int32)) hx hb dX7_gaps_20 ic_m1 ?_
    exact rIretP C hr hd h dX7_gaps_21
  · replace h := iteF c2 h
    refine lv_iload_n hx hb dX7_gaps_11 rfl (lv_at hl 2 rfl) ?_
    refine lv_if_lt (tgt := 20) hx hb dX7_gaps_12 (by decide) (fun c3 => ?_) (fun c3 => ?_)
    · replace h := iteT c3 h
      refine lv_iconst (v := (-1 : Int32)) hx hb dX7_gaps_20 ic_m1 ?_
      exact rIretP C hr hd h dX7_gaps_21
    · replace h := iteF c3 h
      refine lv_iload_n hx hb dX7_gaps_15 rfl (lv_at hl 2 rfl) ?_
      refine lv_iconst (v := 1) hx hb dX7_gaps_16 ic_1 ?_
      refine lv_icmp_le (tgt := 22) hx hb dX7_gaps_17 (by decide) (fun c4 => ?_) (fun c4 => ?_)
      · replace h := iteT c4 h
        refine lv_iconst (v := 0) hx hb dX7_gaps_22 ic_0 ?_
        refine lv_istore_n (lv' := [(3, .int 0), (0, .ref (ga g 0)), (1, .int x1), (2, .int x2)]) hx hb dX7_gaps_23 rfl hl (Nat.le_of_ble_eq_true rfl) rfl (fun ls hl => ?_)
        refine lv_bipush (v := (-2 : Int32)) hx hb dX7_gaps_24 bi_m2 ?_
        refine lv_istore (lv' := [(4, .int (-2 : Int32)), (3, .int 0), (0, .ref (ga g 0)), (1, .int x1), (2, .int x2)]) hx hb dX7_gaps_26 hl (Nat.le_of_ble_eq_true rfl) rfl (fun ls hl => ?_)
        refine lv_aload_n hx hb dX7_gaps_28 rfl (lv_at hl 2 rfl) ?_
        refine gX7_20 C hd dX7_gaps_29 ?_
        refine lv_aload_n hx hb dX7_gaps_32 rfl (lv_at hl 2 rfl) ?_
        refine gX7_20 C hd dX7_gaps_33 ?_
        refine lv_iload_n hx hb dX7_gaps_36 rfl (lv_at hl 3 rfl) ?_
        obtain ⟨r5, er5, h⟩ := cal_e h
        refine rCallI C hd (c_X2_tipOf hE er5) kX7_285 2 rfl rfl rfl rfl hl.1 rfl (Nat.le_of_ble_eq_true rfl) ⟨(Nat.le_of_ble_eq_true rfl), (Nat.le_of_ble_eq_true rfl)⟩ ⟨Nat.le_refl _, Nat.le_refl _⟩ dX7_gaps_37 (fun H locs hd => ?_)
        obtain ⟨r6, er6, h⟩ := cal_e h
        refine rCallI C hd (c_X2_pieceHolding hE er6) kX7_297 2 rfl rfl rfl rfl hl.1 rfl (Nat.le_of_ble_eq_true rfl) ⟨(Nat.le_of_ble_eq_true rfl), (Nat.le_of_ble_eq_true rfl)⟩ ⟨Nat.le_refl _, Nat.le_refl _⟩ dX7_gaps_40 (fun H locs hd => ?_)
        refine lv_istore (lv' := [(5, .int r6), (4, .int (-2 : Int32)), (3, .int 0), (0, .ref (ga g 0)), (1, .int x1), (2, .int x2)]) hx hb dX7_gaps_43 hl (Nat.le_of_ble_eq_true rfl) rfl (fun ls hl => ?_)
        refine lv_iconst (v := 0) hx hb dX7_gaps_45 ic_0 ?_
        refine lv_istore (lv' := [(6, .int 0), (5, .int r6), (4, .int (-2 : Int32)), (3, .int 0), (0, .ref (ga g 0)), (1, .int x1), (2, .int x2)]) hx hb dX7_gaps_46 hl (Nat.le_of_ble_eq_true rfl) rfl (fun ls hl => ?_)
        exact w_X7_gaps_48 C hr _ σ x1 x2 0 (-2 : Int32) r6 0 h _ _ _ hd (lv_sub hl [4, 5, 6, 3, 2, 1, 0] rfl)
      · replace h := iteF c4 h
        refine lv_iconst (v := (-1 : Int32)) hx hb dX7_gaps_20 ic_m1 ?_
        exact rIretP C hr hd h dX7_gaps_21
noncomputable def f_X7_held (F : Nat) (σ : St) (x1 : Int32) (x2 : Int32) : Option Int32 :=
  cal (f_X0_cellOf F σ x1 x2) (fun r1 => cal (f_X0_valueIn F σ r1) (fun r2 => some r2))
set_option maxRecDepth 100000 in
set_option maxHeartbeats 4000000 in
theorem c_X7_held {l : Launch} {g : Gp} {X : va_W} (hE : E0 g) {F : Nat} {r' : Int32} {σ : St} {x1 : Int32} {x2 : Int32} (h : f_X7_held F σ x1 x2 = some r') : Ci l g yX7_held cX7_held 3 (some .int) 2 [.ref (ga g 0), .int x1, .int x2] (wD g σ ++ X) r' (wD g σ ++ X) := by
  refine rHead hE (by decide +kernel) (Nat.le_of_ble_eq_true rfl) (fun p e s m below meth c C hr _ hd ls hl => ?_)
  have hx := C.1
  have hb := C.2.1
  have hl : lv_has ls 3 [(0, .ref (ga g 0)), (1, .int x1), (2, .int x2)] := hl
  generalize ([.ref (ga g 0), .int x1, .int x2] : List Value).toArray = args at C ⊢
  have C : Cx g p s m args meth c cX7_held 3 RX7 := C
  rw [f_X7_held] at h
  refine lv_aload_n hx hb dX7_held_0 rfl (lv_at hl 0 rfl) ?_
  refine gX7_25 C hd dX7_held_1 ?_
  refine lv_aload_n hx hb dX7_held_4 rfl (lv_at hl 0 rfl) ?_
  refine gX7_25 C hd dX7_held_5 ?_
  refine lv_iload_n hx hb dX7_held_8 rfl (lv_at hl 1 rfl) ?_
  refine lv_iload_n hx hb dX7_held_9 rfl (lv_at hl 2 rfl) ?_
  obtain ⟨r1, er1, h⟩ := cal_e h
  refine rCallI C hd (c_X0_cellOf hE er1) kX7_229 3 rfl rfl rfl rfl hl.1 rfl (Nat.le_of_ble_eq_true rfl) ⟨(Nat.le_of_ble_eq_true rfl), (Nat.le_of_ble_eq_true rfl)⟩ ⟨Nat.le_refl _, Nat.le_refl _⟩ dX7_held_10 (fun H locs hd => ?_)
  obtain ⟨r2, er2, h⟩ := cal_e h
  refine rCallI C hd (c_X0_valueIn hE er2) kX7_238 3 rfl rfl rfl rfl hl.1 rfl (Nat.le_of_ble_eq_true rfl) ⟨(Nat.le_of_ble_eq_true rfl), (Nat.le_of_ble_eq_true rfl)⟩ ⟨Nat.le_refl _, Nat.le_refl _⟩ dX7_held_13 (fun H locs hd => ?_)
  exact rIretP C hr hd h dX7_held_16
noncomputable def f_X7_reachOf_99 (F : Nat) (k_12 : St → Int32 → Int32 → Int32 → Option (Int32 × St)) (σ : St) (x1 : Int32) (x2 : Int32) (x3 : Int32) : Option (Int32 × St) :=
  bnd (x3 + 1) (fun v1 => k_12 σ x1 x2 v1)
set_option maxRecDepth 100000 in
set_option maxHeartbeats 4000000 in
theorem w_X7_reachOf_99 {F : Nat} {r' : Int32} {σ' : St}  (C : Cx g p s m args meth c cX7_reachOf 5 RX7) (hr : meth.sig.returnType = some .int)
    {k_12 : St → Int32 → Int32 → Int32 → Option (Int32 × St)} (hk_12 : (∀ (σ : St) (x1 : Int32) (x2 : Int32) (x3 : Int32), k_12 σ x1 x2 x3 = some (r', σ') → ∀ (H : Heap) (locs : List Loc) (ls : Array Slot), Dy g (wD g σ ++ X) s H locs → lv_has ls 5 [(0, .ref (ga g 0)), (1, .int x1), (2, .int x2), (3, .int x3)] → W p l e (rmD 4) s m args below meth c H locs 0 0 (QI g below args s (wD g σ' ++ X) r') (F0 m 12 ls []))) :
    (∀ (σ : St) (x1 : Int32) (x2 : Int32) (x3 : Int32), f_X7_reachOf_99 F k_12 σ x1 x2 x3 = some (r', σ') → ∀ (H : Heap) (locs : List Loc) (ls : Array Slot), Dy g (wD g σ ++ X) s H locs → lv_has ls 5 [(0, .ref (ga g 0)), (1, .int x1), (2, .int x2), (3, .int x3)] → W p l e (rmD 4) s m args below meth c H locs 0 0 (QI g below args s (wD g σ' ++ X) r') (F0 m 99 ls [])) := by
  have hx := C.1
  have hb := C.2.1
  have hE := C.2.2.2.2.2.2.2.2
  intro σ x1 x2 x3 h H locs ls hd hl
  rw [f_X7_reachOf_99] at h
  obtain ⟨v1, ev1, h⟩ := bnd_e h
  refine lv_iinc (v := v1) (lv' := [(3, .int v1), (0, .ref (ga g 0)), (1, .int x1), (2, .int x2)]) hx hb dX7_reachOf_99 hl (k := 3) rfl ((ii_1 _).trans ev1.symm) (Nat.le_of_ble_eq_true rfl) rfl (fun ls hl => ?_)
  refine lv_goto (tgt := 12) hx hb dX7_reachOf_102 (by decide) ?_
  exact hk_12 σ x1 x2 v1 h _ _ _ hd (lv_sub hl [1, 2, 3, 0] rfl)
noncomputable def f_X7_reachOf_83 (F : Nat) (k_45 : St → Int32 → Int32 → Int32 → Int32 → Option (Int32 × St)) (σ : St) (x1 : Int32) (x3 : Int32) (x4 : Int32) (y0 : Int32) (y1 : Int32) : Option (Int32 × St) :=
  bnd (y1 + y0) (fun v1 => if inb x4 241 = true then bnd (sr σ 10 x4.toNatClampNeg (vp_nar .byte 1)) (fun t3 => bnd (x4 + 1) (fun v4 => k_45 t3 x1 v1 x3 v4)) else none)
set_option maxRecDepth 100000 in
set_option maxHeartbeats 4000000 in
theorem w_X7_reachOf_83 {F : Nat} {r' : Int32} {σ' : St}  (C : Cx g p s m args meth c cX7_reachOf 5 RX7) (hr : meth.sig.returnType = some .int)
    {k_45 : St → Int32 → Int32 → Int32 → Int32 → Option (Int32 × St)} (hk_45 : (∀ (σ : St) (x1 : Int32) (x2 : Int32) (x3 : Int32) (x4 : Int32), k_45 σ x1 x2 x3 x4 = some (r', σ') → ∀ (H : Heap) (locs : List Loc) (ls : Array Slot), Dy g (wD g σ ++ X) s H locs → lv_has ls 5 [(0, .ref (ga g 0)), (1, .int x1), (2, .int x2), (3, .int x3), (4, .int x4)] → W p l e (rmD 4) s m args below meth c H locs 0 0 (QI g below args s (wD g σ' ++ X) r') (F0 m 45 ls []))) :
    (∀ (σ : St) (x1 : Int32) (x3 : Int32) (x4 : Int32) (y0 : Int32) (y1 : Int32), f_X7_reachOf_83 F k_45 σ x1 x3 x4 y0 y1 = some (r', σ') → ∀ (H : Heap) (locs : List Loc) (ls : Array Slot), Dy g (wD g σ ++ X) s H locs → lv_has ls 5 [(0, .ref (ga g 0)), (1, .int x1), (3, .int x3), (4, .int x4)] → W p l e (rmD 4) s m args below meth c H locs 0 0 (QI g below args s (wD g σ' ++ X) r') (F0 m 83 ls [.int y0, .int y1])) := by
  have hx := C.1
  have hb := C.2.1
  have hE := C.2.2.2.2.2.2.2.2
  intro σ x1 x3 x4 y0 y1 h H locs ls hd hl
  rw [f_X7_reachOf_83] at h
  refine lv_iadd hx hb dX7_reachOf_83 ?_
  obtain ⟨v1, ev1, h⟩ := bnd_e h
  refine rTop ev1 ?_
  refine lv_istore_n (lv' := [(2, .int v1), (0, .ref (ga g 0)), (1, .int x1), (3, .int x3), (4, .int x4)]) hx hb dX7_reachOf_84 rfl hl (Nat.le_of_ble_eq_true rfl) rfl (fun ls hl => ?_)
  refine lv_aload_n hx hb dX7_reachOf_85 rfl (lv_at hl 1 rfl) ?_
  refine gX7_79 C hd dX7_reachOf_86 ?_
  refine lv_iload hx hb dX7_reachOf_89 (lv_at hl 4 rfl) ?_
  refine lv_iconst (v := 1) hx hb dX7_reachOf_91 ic_1 ?_
  obtain ⟨n2, h⟩ := chk h
  obtain ⟨t3, et3, h⟩ := bnd_e h
  refine st_wD_10 C hd (inb_i n2) et3 dX7_reachOf_92 (fun H locs hd => ?_)
  obtain ⟨v4, ev4, h⟩ := bnd_e h
  refine lv_iinc (v := v4) (lv' := [(4, .int v4), (2, .int v1), (0, .ref (ga g 0)), (1, .int x1), (3, .int x3)]) hx hb dX7_reachOf_93 hl (k := 4) rfl ((ii_1 _).trans ev4.symm) (Nat.le_of_ble_eq_true rfl) rfl (fun ls hl => ?_)
  refine lv_goto (tgt := 45) hx hb dX7_reachOf_96 (by decide) ?_
  exact hk_45 t3 x1 v1 x3 v4 h _ _ _ hd (lv_sub hl [2, 3, 1, 4, 0] rfl)
noncomputable def f_X7_reachOf_45 (F : Nat) (k_12 : St → Int32 → Int32 → Int32 → Option (Int32 × St)) : Nat → St → Int32 → Int32 → Int32 → Int32 → Option (Int32 × St)
  | 0, _, _, _, _, _ => none
  | n + 1, σ, x1, x2, x3, x4 => if (σ.1 15) < x4 then (f_X7_reachOf_99 F k_12 σ x1 x2 x3) else (if 241 ≤ x4 then (f_X7_reachOf_99 F k_12 σ x1 x2 x3) else (if inb x4 241 = true then if (σ.2.1 10 x4.toNatClampNeg) = 0 then (f_X7_reachOf_83 F (f_X7_reachOf_45 F k_12 n) σ x1 x3 x4 1 x2) else (f_X7_reachOf_83 F (f_X7_reachOf_45 F k_12 n) σ x1 x3 x4 0 x2) else none))
set_option maxRecDepth 100000 in
set_option maxHeartbeats 4000000 in
theorem w_X7_reachOf_45 {F : Nat} {r' : Int32} {σ' : St}  (C : Cx g p s m args meth c cX7_reachOf 5 RX7) (hr : meth.sig.returnType = some .int)
    {k_12 : St → Int32 → Int32 → Int32 → Option (Int32 × St)} (hk_12 : (∀ (σ : St) (x1 : Int32) (x2 : Int32) (x3 : Int32), k_12 σ x1 x2 x3 = some (r', σ') → ∀ (H : Heap) (locs : List Loc) (ls : Array Slot), Dy g (wD g σ ++ X) s H locs → lv_has ls 5 [(0, .ref (ga g 0)), (1, .int x1), (2, .int x2), (3, .int x3)] → W p l e (rmD 4) s m args below meth c H locs 0 0 (QI g below args s (wD g σ' ++ X) r') (F0 m 12 ls []))) :
    (∀ (n : Nat) (σ : St) (x1 : Int32) (x2 : Int32) (x3 : Int32) (x4 : Int32), f_X7_reachOf_45 F k_12 n σ x1 x2 x3 x4 = some (r', σ') → ∀ (H : Heap) (locs : List Loc) (ls : Array Slot), Dy g (wD g σ ++ X) s H locs → lv_has ls 5 [(0, .ref (ga g 0)), (1, .int x1), (2, .int x2), (3, .int x3), (4, .int x4)] → W p l e (rmD 4) s m args below meth c H locs 0 0 (QI g below args s (wD g σ' ++ X) r') (F0 m 45 ls [])) := by
  have hx := C.1
  have hb := C.2.1
  have hE := C.2.2.2.2.2.2.2.2
  intro n
  induction n with
  | zero =>
    intro σ x1 x2 x3 x4 h
    cases h
  | succ n ih =>
    intro σ x1 x2 x3 x4 h H locs ls hd hl
    rw [f_X7_reachOf_45] at h
    refine lv_iload hx hb dX7_reachOf_45 (lv_at hl 4 rfl) ?_
    refine lv_aload_n hx hb dX7_reachOf_47 rfl (lv_at hl 0 rfl) ?_
    refine gX7_31 C hd dX7_reachOf_48 ?_
    refine gX7_393 C hd dX7_reachOf_51 ?_
    refine lv_icmp_gt (tgt := 99) hx hb dX7_reachOf_54 (by decide) (fun c1 => ?_) (fun c1 => ?_)
    · replace h := iteT c1 h
      exact w_X7_reachOf_99 C hr hk_12 σ x1 x2 x3 h _ _ _ hd (lv_sub hl [0, 1, 2, 3] rfl)
    · replace h := iteF c1 h
      refine lv_iload hx hb dX7_reachOf_57 (lv_at hl 4 rfl) ?_
      refine lv_aload_n hx hb dX7_reachOf_59 rfl (lv_at hl 0 rfl) ?_
      refine gX7_79 C hd dX7_reachOf_60 ?_
      refine len_wD_10 C hd dX7_reachOf_63 ?_
      refine lv_icmp_ge (tgt := 99) hx hb dX7_reachOf_64 (by decide) (fun c2 => ?_) (fun c2 => ?_)
      · replace h := iteT c2 h
        exact w_X7_reachOf_99 C hr hk_12 σ x1 x2 x3 h _ _ _ hd (lv_sub hl [0, 1, 2, 3] rfl)
      · replace h := iteF c2 h
        refine lv_iload_n hx hb dX7_reachOf_67 rfl (lv_at hl 2 rfl) ?_
        refine lv_aload_n hx hb dX7_reachOf_68 rfl (lv_at hl 0 rfl) ?_
        refine gX7_79 C hd dX7_reachOf_69 ?_
        refine lv_iload hx hb dX7_reachOf_72 (lv_at hl 4 rfl) ?_
        obtain ⟨n3, h⟩ := chk h
        refine ld_wD_10 C hd (inb_i n3) dX7_reachOf_74 ?_
        refine lv_if_ne (tgt := 82) hx hb dX7_reachOf_75 (by decide) (fun c4 => ?_) (fun c4 => ?_)
        · replace h := iteF c4 h
          refine lv_iconst (v := 0) hx hb dX7_reachOf_82 ic_0 ?_
          exact w_X7_reachOf_83 C hr ih σ x1 x3 x4 0 x2 h _ _ _ hd (lv_sub hl [0, 1, 3, 4] rfl)
        · replace h := iteT c4 h
          refine lv_iconst (v := 1) hx hb dX7_reachOf_78 ic_1 ?_
          refine lv_goto (tgt := 83) hx hb dX7_reachOf_79 (by decide) ?_
          exact w_X7_reachOf_83 C hr ih σ x1 x3 x4 1 x2 h _ _ _ hd (lv_sub hl [0, 1, 3, 4] rfl)
noncomputable def f_X7_reachOf_12 (F : Nat) : Nat → St → Int32 → Int32 → Int32 → Option (Int32 × St)
  | 0, _, _, _, _ => none
  | n + 1, σ, x1, x2, x3 => if (σ.1 8) ≤ x3 then (some (x2, σ)) else (cal (f_X3_aim F σ x3 x1) (fun t2 => bnd (mx (t2.1 14) 0) (fun v3 => f_X7_reachOf_45 F (f_X7_reachOf_12 F n) F t2 x1 x2 x3 v3)))
set_option maxRecDepth 100000 in
set_option maxHeartbeats 4000000 in
theorem w_X7_reachOf_12 {F : Nat} {r' : Int32} {σ' : St}  (C : Cx g p s m args meth c cX7_reachOf 5 RX7) (hr : meth.sig.returnType = some .int) :
    (∀ (n : Nat) (σ : St) (x1 : Int32) (x2 : Int32) (x3 : Int32), f_X7_reachOf_12 F n σ x1 x2 x3 = some (r', σ') → ∀ (H : Heap) (locs : List Loc) (ls : Array Slot), Dy g (wD g σ ++ X) s H locs → lv_has ls 5 [(0, .ref (ga g 0)), (1, .int x1), (2, .int x2), (3, .int x3)] → W p l e (rmD 4) s m args below meth c H locs 0 0 (QI g below args s (wD g σ' ++ X) r') (F0 m 12 ls [])) := by
  have hx := C.1
  have hb := C.2.1
  have hE := C.2.2.2.2.2.2.2.2
  intro n
  induction n with
  | zero =>
    intro σ x1 x2 x3 h
    cases h
  | succ n ih =>
    intro σ x1 x2 x3 h H locs ls hd hl
    rw [f_X7_reachOf_12] at h
    refine lv_iload_n hx hb dX7_reachOf_12 rfl (lv_at hl 3 rfl) ?_
    refine lv_aload_n hx hb dX7_reachOf_13 rfl (lv_at hl 0 rfl) ?_
    refine gX7_25 C hd dX7_reachOf_14 ?_
    refine gX7_132 C hd dX7_reachOf_17 ?_
    refine lv_icmp_ge (tgt := 105) hx hb dX7_reachOf_20 (by decide) (fun c1 => ?_) (fun c1 => ?_)
    · replace h := iteT c1 h
      refine lv_iload_n hx hb dX7_reachOf_105 rfl (lv_at hl 2 rfl) ?_
      exact rIretS (w := wD g) C hr hd h dX7_reachOf_106
    · replace h := iteF c1 h
      refine lv_aload_n hx hb dX7_reachOf_23 rfl (lv_at hl 0 rfl) ?_
      refine gX7_31 C hd dX7_reachOf_24 ?_
      refine lv_iload_n hx hb dX7_reachOf_27 rfl (lv_at hl 3 rfl) ?_
      refine lv_iload_n hx hb dX7_reachOf_28 rfl (lv_at hl 1 rfl) ?_
      obtain ⟨t2, et2, h⟩ := cal_e h
      refine rCallV C hd (c_X3_aim hE et2) kX7_247 4 rfl rfl rfl rfl hl.1 rfl (Nat.le_of_ble_eq_true rfl) ⟨(Nat.le_of_ble_eq_true rfl), (Nat.le_of_ble_eq_true rfl)⟩ ⟨Nat.le_refl _, Nat.le_refl _⟩ dX7_reachOf_29 (fun H locs hd => ?_)
      refine lv_aload_n hx hb dX7_reachOf_32 rfl (lv_at hl 0 rfl) ?_
      refine gX7_31 C hd dX7_reachOf_33 ?_
      refine gX7_390 C hd dX7_reachOf_36 ?_
      refine lv_iconst (v := 0) hx hb dX7_reachOf_39 ic_0 ?_
      refine rMax C hl.1 (mT 1209 (by decide +kernel)) (mT 467 (by decide +kernel)) (mT 14 (by decide +kernel)) (mT 468 (by decide +kernel)) ⟨(Nat.le_of_ble_eq_true rfl), (Nat.le_of_ble_eq_true rfl)⟩ ⟨Nat.le_refl _, Nat.le_refl _⟩ dX7_reachOf_40 ?_
      obtain ⟨v3, ev3, h⟩ := bnd_e h
      refine rTop ev3 ?_
      refine lv_istore (lv' := [(4, .int v3), (0, .ref (ga g 0)), (1, .int x1), (2, .int x2), (3, .int x3)]) hx hb dX7_reachOf_43 hl (Nat.le_of_ble_eq_true rfl) rfl (fun ls hl => ?_)
      exact w_X7_reachOf_45 C hr ih _ t2 x1 x2 x3 v3 h _ _ _ hd (lv_sub hl [1, 2, 3, 4, 0] rfl)
noncomputable def f_X7_reachOf (F : Nat) (σ : St) (x1 : Int32) : Option (Int32 × St) :=
  cal (f_J7_fill_031fb F σ 0) (fun t1 => f_X7_reachOf_12 F F t1 x1 0 0)
set_option maxRecDepth 100000 in
set_option maxHeartbeats 4000000 in
theorem c_X7_reachOf {l : Launch} {g : Gp} {X : va_W} (hE : E0 g) {F : Nat} {r' : Int32} {σ' : St} {σ : St} {x1 : Int32} (h : f_X7_reachOf F σ x1 = some (r', σ')) : Ci l g yX7_reachOf cX7_reachOf 5 (some .int) 4 [.ref (ga g 0), .int x1] (wD g σ ++ X) r' (wD g σ' ++ X) := by
  refine rHead hE (by decide +kernel) (Nat.le_of_ble_eq_true rfl) (fun p e s m below meth c C hr _ hd ls hl => ?_)
  have hx := C.1
  have hb := C.2.1
  have hl : lv_has ls 5 [(0, .ref (ga g 0)), (1, .int x1)] := hl
  generalize ([.ref (ga g 0), .int x1] : List Value).toArray = args at C ⊢
  have C : Cx g p s m args meth c cX7_reachOf 5 RX7 := C
  rw [f_X7_reachOf] at h
  refine lv_aload_n hx hb dX7_reachOf_0 rfl (lv_at hl 0 rfl) ?_
  refine gX7_79 C hd dX7_reachOf_1 ?_
  refine lv_iconst (v := 0) hx hb dX7_reachOf_4 ic_0 ?_
  obtain ⟨t1, et1, h⟩ := cal_e h
  refine rCallSV C hd (c_J7_fill_031fb hE et1) kX7_399 rfl hl.1 rfl (Nat.le_of_ble_eq_true rfl) ⟨(Nat.le_of_ble_eq_true rfl), (Nat.le_of_ble_eq_true rfl)⟩ ⟨Nat.le_refl _, Nat.le_refl _⟩ dX7_reachOf_5 (fun H locs hd => ?_)
  refine lv_iconst (v := 0) hx hb dX7_reachOf_8 ic_0 ?_
  refine lv_istore_n (lv' := [(2, .int 0), (0, .ref (ga g 0)), (1, .int x1)]) hx hb dX7_reachOf_9 rfl hl (Nat.le_of_ble_eq_true rfl) rfl (fun ls hl => ?_)
  refine lv_iconst (v := 0) hx hb dX7_reachOf_10 ic_0 ?_
  refine lv_istore_n (lv' := [(3, .int 0), (2, .int 0), (0, .ref (ga g 0)), (1, .int x1)]) hx hb dX7_reachOf_11 rfl hl (Nat.le_of_ble_eq_true rfl) rfl (fun ls hl => ?_)
  exact w_X7_reachOf_12 C hr _ t1 x1 0 0 h _ _ _ hd (lv_sub hl [2, 3, 1, 0] rfl)
noncomputable def f_X7_hurts (F : Nat) (σ : St) (x1 : Int32) (x2 : Int32) : Option (Int32 × St) :=
  cal (f_X2_conditionOf F σ x1 x2) (fun r1 => if 1 ≤ r1 then (cal (f_X2_going F σ) (fun r3 => cal2 (f_X7_reachOf F σ r3) (fun r4 t5 => cal (f_X2_setCondition F t5 x1 x2 0) (fun t6 => cal2 (f_X7_reachOf F t6 r3) (fun r7 t8 => cal (f_X2_setCondition F t8 x1 x2 r1) (fun t9 => some ((r4 - r7), t9))))))) else (some ((-1 : Int32), σ)))
set_option maxRecDepth 100000 in
set_option maxHeartbeats 4000000 in
theorem c_X7_hurts {l : Launch} {g : Gp} {X : va_W} (hE : E0 g) {F : Nat} {r' : Int32} {σ' : St} {σ : St} {x1 : Int32} {x2 : Int32} (h : f_X7_hurts F σ x1 x2 = some (r', σ')) : Ci l g yX7_hurts cX7_hurts 7 (some .int) 5 [.ref (ga g 0), .int x1, .int x2] (wD g σ ++ X) r' (wD g σ' ++ X) := by
  refine rHead hE (by decide +kernel) (Nat.le_of_ble_eq_true rfl) (fun p e s m below meth c C hr _ hd ls hl => ?_)
  have hx := C.1
  have hb := C.2.1
  have hl : lv_has ls 7 [(0, .ref (ga g 0)), (1, .int x1), (2, .int x2)] := hl
  generalize ([.ref (ga g 0), .int x1, .int x2] : List Value).toArray = args at C ⊢
  have C : Cx g p s m args meth c cX7_hurts 7 RX7 := C
  rw [f_X7_hurts] at h
  refine lv_aload_n hx hb dX7_hurts_0 rfl (lv_at hl 0 rfl) ?_
  refine gX7_20 C hd dX7_hurts_1 ?_
  refine lv_iload_n hx hb dX7_hurts_4 rfl (lv_at hl 1 rfl) ?_
  refine lv_iload_n hx hb dX7_hurts_5 rfl (lv_at hl 2 rfl) ?_
  obtain ⟨r1, er1, h⟩ := cal_e h
  refine rCallI C hd (c_X2_conditionOf hE er1) kX7_256 2 rfl rfl rfl rfl hl.1 rfl (Nat.le_of_ble_eq_true rfl) ⟨(Nat.le_of_ble_eq_true rfl), (Nat.le_of_ble_eq_true rfl)⟩ ⟨Nat.le_refl _, Nat.le_refl _⟩ dX7_hurts_6 (fun H locs hd => ?_)
  refine lv_istore_n (lv' := [(3, .int r1), (0, .ref (ga g 0)), (1, .int x1), (2, .int x2)]) hx hb dX7_hurts_9 rfl hl (Nat.le_of_ble_eq_true rfl) rfl (fun ls hl => ?_)
  refine lv_iload_n hx hb dX7_hurts_10 rfl (lv_at hl 0 rfl) ?_
  refine lv_iconst (v := 1) hx hb dX7_hurts_11 ic_1 ?_
  refine lv_icmp_ge (tgt := 17) hx hb dX7_hurts_12 (by decide) (fun c2 => ?_) (fun c2 => ?_)
  · replace h := iteT c2 h
    refine lv_aload_n hx hb dX7_hurts_17 rfl (lv_at hl 1 rfl) ?_
    refine gX7_20 C hd dX7_hurts_18 ?_
    obtain ⟨r3, er3, h⟩ := cal_e h
    refine rCallI C hd (c_X2_going hE er3) kX7_129 2 rfl rfl rfl rfl hl.1 rfl (Nat.le_of_ble_eq_true rfl) ⟨(Nat.le_of_ble_eq_true rfl), (Nat.le_of_ble_eq_true rfl)⟩ ⟨Nat.le_refl _, Nat.le_refl _⟩ dX7_hurts_21 (fun H locs hd => ?_)
    refine lv_istore (lv' := [(4, .int r3), (3, .int r1), (0, .ref (ga g 0)), (1, .int x1), (2, .int x2)]) hx hb dX7_hurts_24 hl (Nat.le_of_ble_eq_true rfl) rfl (fun ls hl => ?_)
    refine lv_aload_n hx hb dX7_hurts_26 rfl (lv_at hl 2 rfl) ?_
    refine lv_iload hx hb dX7_hurts_27 (lv_at hl 0 rfl) ?_
    obtain ⟨r4, t5, et5, h⟩ := cal2_e h
    refine rCallI C hd (c_X7_reachOf hE et5) kX7_396 0 rfl rfl rfl rfl hl.1 rfl (Nat.le_of_ble_eq_true rfl) ⟨(Nat.le_of_ble_eq_true rfl), (Nat.le_of_ble_eq_true rfl)⟩ ⟨Nat.le_refl _, Nat.le_refl _⟩ dX7_hurts_29 (fun H locs hd => ?_)
    refine lv_istore (lv' := [(5, .int r4), (4, .int r3), (3, .int r1), (0, .ref (ga g 0)), (1, .int x1), (2, .int x2)]) hx hb dX7_hurts_32 hl (Nat.le_of_ble_eq_true rfl) rfl (fun ls hl => ?_)
    refine lv_aload_n hx hb dX7_hurts_34 rfl (lv_at hl 3 rfl) ?_
    refine gX7_20 C hd dX7_hurts_35 ?_
    refine lv_iload_n hx hb dX7_hurts_38 rfl (lv_at hl 4 rfl) ?_
    refine lv_iload_n hx hb dX7_hurts_39 rfl (lv_at hl 5 rfl) ?_
    refine lv_iconst (v := 0) hx hb dX7_hurts_40 ic_0 ?_
    obtain ⟨t6, et6, h⟩ := cal_e h
    refine rCallV C hd (c_X2_setCondition hE et6) kX7_259 2 rfl rfl rfl rfl hl.1 rfl (Nat.le_of_ble_eq_true rfl) ⟨(Nat.le_of_ble_eq_true rfl), (Nat.le_of_ble_eq_true rfl)⟩ ⟨Nat.le_refl _, Nat.le_refl _⟩ dX7_hurts_41 (fun H locs hd => ?_)
    refine lv_aload_n hx hb dX7_hurts_44 rfl (lv_at hl 3 rfl) ?_
    refine lv_iload hx hb dX7_hurts_45 (lv_at hl 1 rfl) ?_
    obtain ⟨r7, t8, et8, h⟩ := cal2_e h
    refine rCallI C hd (c_X7_reachOf hE et8) kX7_396 0 rfl rfl rfl rfl hl.1 rfl (Nat.le_of_ble_eq_true rfl) ⟨(Nat.le_of_ble_eq_true rfl), (Nat.le_of_ble_eq_true rfl)⟩ ⟨Nat.le_refl _, Nat.le_refl _⟩ dX7_hurts_47 (fun H locs hd => ?_)
    refine lv_istore (lv' := [(6, .int r7), (5, .int r4), (4, .int r3), (3, .int r1), (0, .ref (ga g 0)), (1, .int x1), (2, .int x2)]) hx hb dX7_hurts_50 hl (Nat.le_of_ble_eq_true rfl) rfl (fun ls hl => ?_)
    refine lv_aload_n hx hb dX7_hurts_52 rfl (lv_at hl 4 rfl) ?_
    refine gX7_20 C hd dX7_hurts_53 ?_
    refine lv_iload_n hx hb dX7_hurts_56 rfl (lv_at hl 5 rfl) ?_
    refine lv_iload_n hx hb dX7_hurts_57 rfl (lv_at hl 6 rfl) ?_
    refine lv_iload_n hx hb dX7_hurts_58 rfl (lv_at hl 3 rfl) ?_
    obtain ⟨t9, et9, h⟩ := cal_e h
    refine rCallV C hd (c_X2_setCondition hE et9) kX7_259 2 rfl rfl rfl rfl hl.1 rfl (Nat.le_of_ble_eq_true rfl) ⟨(Nat.le_of_ble_eq_true rfl), (Nat.le_of_ble_eq_true rfl)⟩ ⟨Nat.le_refl _, Nat.le_refl _⟩ dX7_hurts_59 (fun H locs hd => ?_)
    refine lv_iload hx hb dX7_hurts_62 (lv_at hl 1 rfl) ?_
    refine lv_iload hx hb dX7_hurts_64 (lv_at hl 0 rfl) ?_
    refine lv_isub hx hb dX7_hurts_66 ?_
    exact rIretS (w := wD g) C hr hd h dX7_hurts_67
  · replace h := iteF c2 h
    refine lv_iconst (v := (-1 : Int32)) hx hb dX7_hurts_15 ic_m1 ?_
    exact rIretS (w := wD g) C hr hd h dX7_hurts_16
noncomputable def f_X7_last (F : Nat) (σ : St) (x1 : Int32) (x2 : Int32) (x3 : Int32) : Option Int32 :=
  cal (f_X5_hasPage F σ x1) (fun r1 => if r1 = 0 then (some (-1 : Int32)) else (cal (f_X2_hasPlace F σ x2 x3) (fun r3 => if r3 = 0 then (some (-1 : Int32)) else (cal (f_X2_lastChange F σ x1 x2 x3) (fun r5 => some r5)))))
set_option maxRecDepth 100000 in
set_option maxHeartbeats 4000000 in
theorem c_X7_last {l : Launch} {g : Gp} {X : va_W} (hE : E0 g) {F : Nat} {r' : Int32} {σ : St} {x1 : Int32} {x2 : Int32} {x3 : Int32} (h : f_X7_last F σ x1 x2 x3 = some r') : Ci l g yX7_last cX7_last 4 (some .int) 3 [.ref (ga g 0), .int x1, .int x2, .int x3] (wD g σ ++ X) r' (wD g σ ++ X) := by
  refine rHead hE (by decide +kernel) (Nat.le_of_ble_eq_true rfl) (fun p e s m below meth c C hr _ hd ls hl => ?_)
  have hx := C.1
  have hb := C.2.1
  have hl : lv_has ls 4 [(0, .ref (ga g 0)), (1, .int x1), (2, .int x2), (3, .int x3)] := hl
  generalize ([.ref (ga g 0), .int x1, .int x2, .int x3] : List Value).toArray = args at C ⊢
  have C : Cx g p s m args meth c cX7_last 4 RX7 := C
  rw [f_X7_last] at h
  refine lv_aload_n hx hb dX7_last_0 rfl (lv_at hl 0 rfl) ?_
  refine gX7_10 C hd dX7_last_1 ?_
  refine lv_iload_n hx hb dX7_last_4 rfl (lv_at hl 1 rfl) ?_
  obtain ⟨r1, er1, h⟩ := cal_e h
  refine rCallI C hd (c_X5_hasPage hE er1) kX7_192 1 rfl rfl rfl rfl hl.1 rfl (Nat.le_of_ble_eq_true rfl) ⟨(Nat.le_of_ble_eq_true rfl), (Nat.le_of_ble_eq_true rfl)⟩ ⟨Nat.le_refl _, Nat.le_refl _⟩ dX7_last_5 (fun H locs hd => ?_)
  refine lv_if_eq (tgt := 23) hx hb dX7_last_8 (by decide) (fun c2 => ?_) (fun c2 => ?_)
  · replace h := iteT c2 h
    refine lv_iconst (v := (-1 : Int32)) hx hb dX7_last_23 ic_m1 ?_
    exact rIretP C hr hd h dX7_last_24
  · replace h := iteF c2 h
    refine lv_aload_n hx hb dX7_last_11 rfl (lv_at hl 0 rfl) ?_
    refine gX7_20 C hd dX7_last_12 ?_
    refine lv_iload_n hx hb dX7_last_15 rfl (lv_at hl 2 rfl) ?_
    refine lv_iload_n hx hb dX7_last_16 rfl (lv_at hl 3 rfl) ?_
    obtain ⟨r3, er3, h⟩ := cal_e h
    refine rCallI C hd (c_X2_hasPlace hE er3) kX7_263 2 rfl rfl rfl rfl hl.1 rfl (Nat.le_of_ble_eq_true rfl) ⟨(Nat.le_of_ble_eq_true rfl), (Nat.le_of_ble_eq_true rfl)⟩ ⟨Nat.le_refl _, Nat.le_refl _⟩ dX7_last_17 (fun H locs hd => ?_)
    refine lv_if_ne (tgt := 25) hx hb dX7_last_20 (by decide) (fun c4 => ?_) (fun c4 => ?_)
    · replace h := iteF c4 h
      refine lv_aload_n hx hb dX7_last_25 rfl (lv_at hl 0 rfl) ?_
      refine gX7_20 C hd dX7_last_26 ?_
      refine lv_iload_n hx hb dX7_last_29 rfl (lv_at hl 1 rfl) ?_
      refine lv_iload_n hx hb dX7_last_30 rfl (lv_at hl 2 rfl) ?_
      refine lv_iload_n hx hb dX7_last_31 rfl (lv_at hl 3 rfl) ?_
      obtain ⟨r5, er5, h⟩ := cal_e h
      refine rCallI C hd (c_X2_lastChange hE er5) kX7_373 2 rfl rfl rfl rfl hl.1 rfl (Nat.le_of_ble_eq_true rfl) ⟨(Nat.le_of_ble_eq_true rfl), (Nat.le_of_ble_eq_true rfl)⟩ ⟨Nat.le_refl _, Nat.le_refl _⟩ dX7_last_32 (fun H locs hd => ?_)
      exact rIretP C hr hd h dX7_last_35
    · replace h := iteT c4 h
      refine lv_iconst (v := (-1 : Int32)) hx hb dX7_last_23 ic_m1 ?_
      exact rIretP C hr hd h dX7_last_24
noncomputable def f_X7_line (F : Nat) (σ : St) (x1 : Int32) (x2 : Int32) : Option Int32 :=
  cal (f_X2_hasLine F σ x1) (fun r1 => if r1 = 0 then (some (-1 : Int32)) else (if x2 = 0 then (cal (f_X2_tipOf F σ x1) (fun r4 => some r4)) else (if x2 = 1 then (cal (f_X2_parentOf F σ x1) (fun r6 => some r6)) else (if x2 = 2 then (if x1 = 0 then (some (-2 : Int32)) else (cal (f_X2_forkOf F σ x1) (fun r9 => some r9))) else (if x2 = 3 then (cal (f_X2_wayLength F σ x1) (fun r11 => some r11)) else (if x2 = 4 then (cal (f_X2_forkOf F σ x1) (fun r13 => cal (f_X2_pieceHolding F σ (r13 + 1)) (fun r14 => some r14))) else (some (-1 : Int32))))))))
set_option maxRecDepth 100000 in
set_option maxHeartbeats 4000000 in
theorem c_X7_line {l : Launch} {g : Gp} {X : va_W} (hE : E0 g) {F : Nat} {r' : Int32} {σ : St} {x1 : Int32} {x2 : Int32} (h : f_X7_line F σ x1 x2 = some r') : Ci l g yX7_line cX7_line 3 (some .int) 2 [.ref (ga g 0), .int x1, .int x2] (wD g σ ++ X) r' (wD g σ ++ X) := by
  refine rHead hE (by decide +kernel) (Nat.le_of_ble_eq_true rfl) (fun p e s m below meth c C hr _ hd ls hl => ?_)
  have hx := C.1
  have hb := C.2.1
  have hl : lv_has ls 3 [(0, .ref (ga g 0)), (1, .int x1), (2, .int x2)] := hl
  generalize ([.ref (ga g 0), .int x1, .int x2] : List Value).toArray = args at C ⊢
  have C : Cx g p s m args meth c cX7_line 3 RX7 := C
  rw [f_X7_line] at h
  refine lv_aload_n hx hb dX7_line_0 rfl (lv_at hl 0 rfl) ?_
  refine gX7_20 C hd dX7_line_1 ?_
  refine lv_iload_n hx hb dX7_line_4 rfl (lv_at hl 1 rfl) ?_
  obtain ⟨r1, er1, h⟩ := cal_e h
  refine rCallI C hd (c_X2_hasLine hE er1) kX7_282 2 rfl rfl rfl rfl hl.1 rfl (Nat.le_of_ble_eq_true rfl) ⟨(Nat.le_of_ble_eq_true rfl), (Nat.le_of_ble_eq_true rfl)⟩ ⟨Nat.le_refl _, Nat.le_refl _⟩ dX7_line_5 (fun H locs hd => ?_)
  refine lv_if_ne (tgt := 13) hx hb dX7_line_8 (by decide) (fun c2 => ?_) (fun c2 => ?_)
  · replace h := iteF c2 h
    refine lv_iload_n hx hb dX7_line_13 rfl (lv_at hl 2 rfl) ?_
    by_cases c3 : x2 = 0
    · replace h := iteT c3 h
      refine rTop c3.symm ?_
      refine lv_tableIn (off := 34) (tgt := 48) hx hb dX7_line_14 (by decide) (by decide) (by decide) (by decide) ?_
      refine lv_aload_n hx hb dX7_line_48 rfl (lv_at hl 0 rfl) ?_
      refine gX7_20 C hd dX7_line_49 ?_
      refine lv_iload_n hx hb dX7_line_52 rfl (lv_at hl 1 rfl) ?_
      obtain ⟨r4, er4, h⟩ := cal_e h
      refine rCallI C hd (c_X2_tipOf hE er4) kX7_285 2 rfl rfl rfl rfl hl.1 rfl (Nat.le_of_ble_eq_true rfl) ⟨(Nat.le_of_ble_eq_true rfl), (Nat.le_of_ble_eq_true rfl)⟩ ⟨Nat.le_refl _, Nat.le_refl _⟩ dX7_line_53 (fun H locs hd => ?_)
      exact rIretP C hr hd h dX7_line_56
    · replace h := iteF c3 h
      by_cases c5 : x2 = 1
      · replace h := iteT c5 h
        refine rTop c5.symm ?_
        refine lv_tableIn (off := 43) (tgt := 57) hx hb dX7_line_14 (by decide) (by decide) (by decide) (by decide) ?_
        refine lv_aload_n hx hb dX7_line_57 rfl (lv_at hl 0 rfl) ?_
        refine gX7_20 C hd dX7_line_58 ?_
        refine lv_iload_n hx hb dX7_line_61 rfl (lv_at hl 1 rfl) ?_
        obtain ⟨r6, er6, h⟩ := cal_e h
        refine rCallI C hd (c_X2_parentOf hE er6) kX7_288 2 rfl rfl rfl rfl hl.1 rfl (Nat.le_of_ble_eq_true rfl) ⟨(Nat.le_of_ble_eq_true rfl), (Nat.le_of_ble_eq_true rfl)⟩ ⟨Nat.le_refl _, Nat.le_refl _⟩ dX7_line_62 (fun H locs hd => ?_)
        exact rIretP C hr hd h dX7_line_65
      · replace h := iteF c5 h
        by_cases c7 : x2 = 2
        · replace h := iteT c7 h
          refine rTop c7.symm ?_
          refine lv_tableIn (off := 52) (tgt := 66) hx hb dX7_line_14 (by decide) (by decide) (by decide) (by decide) ?_
          refine lv_iload_n hx hb dX7_line_66 rfl (lv_at hl 1 rfl) ?_
          refine lv_if_ne (tgt := 75) hx hb dX7_line_67 (by decide) (fun c8 => ?_) (fun c8 => ?_)
          · replace h := iteF c8 h
            refine lv_aload_n hx hb dX7_line_75 rfl (lv_at hl 0 rfl) ?_
            refine gX7_20 C hd dX7_line_76 ?_
            refine lv_iload_n hx hb dX7_line_79 rfl (lv_at hl 1 rfl) ?_
            obtain ⟨r9, er9, h⟩ := cal_e h
            refine rCallI C hd (c_X2_forkOf hE er9) kX7_291 2 rfl rfl rfl rfl hl.1 rfl (Nat.le_of_ble_eq_true rfl) ⟨(Nat.le_of_ble_eq_true rfl), (Nat.le_of_ble_eq_true rfl)⟩ ⟨Nat.le_refl _, Nat.le_refl _⟩ dX7_line_80 (fun H locs hd => ?_)
            exact rIretP C hr hd h dX7_line_83
          · replace h := iteT c8 h
            refine lv_bipush (v := (-2 : Int32)) hx hb dX7_line_70 bi_m2 ?_
            refine lv_goto (tgt := 83) hx hb dX7_line_72 (by decide) ?_
            exact rIretP C hr hd h dX7_line_83
        · replace h := iteF c7 h
          by_cases c10 : x2 = 3
          · replace h := iteT c10 h
            refine rTop c10.symm ?_
            refine lv_tableIn (off := 70) (tgt := 84) hx hb dX7_line_14 (by decide) (by decide) (by decide) (by decide) ?_
            refine lv_aload_n hx hb dX7_line_84 rfl (lv_at hl 0 rfl) ?_
            refine gX7_20 C hd dX7_line_85 ?_
            refine lv_iload_n hx hb dX7_line_88 rfl (lv_at hl 1 rfl) ?_
            obtain ⟨r11, er11, h⟩ := cal_e h
            refine rCallI C hd (c_X2_wayLength hE er11) kX7_294 2 rfl rfl rfl rfl hl.1 rfl (Nat.le_of_ble_eq_true rfl) ⟨(Nat.le_of_ble_eq_true rfl), (Nat.le_of_ble_eq_true rfl)⟩ ⟨Nat.le_refl _, Nat.le_refl _⟩ dX7_line_89 (fun H locs hd => ?_)
            exact rIretP C hr hd h dX7_line_92
          · replace h := iteF c10 h
            by_cases c12 : x2 = 4
            · replace h := iteT c12 h
              refine rTop c12.symm ?_
              refine lv_tableIn (off := 79) (tgt := 93) hx hb dX7_line_14 (by decide) (by decide) (by decide) (by decide) ?_
              refine lv_aload_n hx hb dX7_line_93 rfl (lv_at hl 0 rfl) ?_
              refine gX7_20 C hd dX7_line_94 ?_
              refine lv_aload_n hx hb dX7_line_97 rfl (lv_at hl 0 rfl) ?_
              refine gX7_20 C hd dX7_line_98 ?_
              refine lv_iload_n hx hb dX7_line_101 rfl (lv_at hl 1 rfl) ?_
              obtain ⟨r13, er13, h⟩ := cal_e h
              refine rCallI C hd (c_X2_forkOf hE er13) kX7_291 2 rfl rfl rfl rfl hl.1 rfl (Nat.le_of_ble_eq_true rfl) ⟨(Nat.le_of_ble_eq_true rfl), (Nat.le_of_ble_eq_true rfl)⟩ ⟨Nat.le_refl _, Nat.le_refl _⟩ dX7_line_102 (fun H locs hd => ?_)
              refine lv_iconst (v := 1) hx hb dX7_line_105 ic_1 ?_
              refine lv_iadd hx hb dX7_line_106 ?_
              obtain ⟨r14, er14, h⟩ := cal_e h
              refine rCallI C hd (c_X2_pieceHolding hE er14) kX7_297 2 rfl rfl rfl rfl hl.1 rfl (Nat.le_of_ble_eq_true rfl) ⟨(Nat.le_of_ble_eq_true rfl), (Nat.le_of_ble_eq_true rfl)⟩ ⟨Nat.le_refl _, Nat.le_refl _⟩ dX7_line_107 (fun H locs hd => ?_)
              exact rIretP C hr hd h dX7_line_110
            · replace h := iteF c12 h
              refine lv_tableOut (tgt := 111) hx hb dX7_line_14 (sw_out (lo := 0) (hi := 4) (fun z z1 z2 e => ?_)) (by decide) ?_
              · have hz : z = 0 ∨ z = 1 ∨ z = 2 ∨ z = 3 ∨ z = 4 := by omega
                rcases hz with rfl | rfl | rfl | rfl | rfl
                · exact c3 (Int32.toInt_inj.mp (e.trans (by decide)))
                · exact c5 (Int32.toInt_inj.mp (e.trans (by decide)))
                · exact c7 (Int32.toInt_inj.mp (e.trans (by decide)))
                · exact c10 (Int32.toInt_inj.mp (e.trans (by decide)))
                · exact c12 (Int32.toInt_inj.mp (e.trans (by decide)))
              refine lv_iconst (v := (-1 : Int32)) hx hb dX7_line_111 ic_m1 ?_
              exact rIretP C hr hd h dX7_line_112
  · replace h := iteT c2 h
    refine lv_iconst (v := (-1 : Int32)) hx hb dX7_line_11 ic_m1 ?_
    exact rIretP C hr hd h dX7_line_12
noncomputable def f_X7_lose (F : Nat) (σ : St) (x1 : Int32) (x2 : Int32) : Option (Int32 × St) :=
  cal (f_X2_conditionOf F σ x1 x2) (fun r1 => if 1 ≤ r1 then (cal (f_X2_setCondition F σ x1 x2 0) (fun t3 => some (1, t3))) else (some (0, σ)))
set_option maxRecDepth 100000 in
set_option maxHeartbeats 4000000 in
theorem c_X7_lose {l : Launch} {g : Gp} {X : va_W} (hE : E0 g) {F : Nat} {r' : Int32} {σ' : St} {σ : St} {x1 : Int32} {x2 : Int32} (h : f_X7_lose F σ x1 x2 = some (r', σ')) : Ci l g yX7_lose cX7_lose 3 (some .boolean) 2 [.ref (ga g 0), .int x1, .int x2] (wD g σ ++ X) r' (wD g σ' ++ X) := by
  refine rHead hE (by decide +kernel) (Nat.le_of_ble_eq_true rfl) (fun p e s m below meth c C hr _ hd ls hl => ?_)
  have hx := C.1
  have hb := C.2.1
  have hl : lv_has ls 3 [(0, .ref (ga g 0)), (1, .int x1), (2, .int x2)] := hl
  generalize ([.ref (ga g 0), .int x1, .int x2] : List Value).toArray = args at C ⊢
  have C : Cx g p s m args meth c cX7_lose 3 RX7 := C
  rw [f_X7_lose] at h
  refine lv_aload_n hx hb dX7_lose_0 rfl (lv_at hl 0 rfl) ?_
  refine gX7_20 C hd dX7_lose_1 ?_
  refine lv_iload_n hx hb dX7_lose_4 rfl (lv_at hl 1 rfl) ?_
  refine lv_iload_n hx hb dX7_lose_5 rfl (lv_at hl 2 rfl) ?_
  obtain ⟨r1, er1, h⟩ := cal_e h
  refine rCallI C hd (c_X2_conditionOf hE er1) kX7_256 2 rfl rfl rfl rfl hl.1 rfl (Nat.le_of_ble_eq_true rfl) ⟨(Nat.le_of_ble_eq_true rfl), (Nat.le_of_ble_eq_true rfl)⟩ ⟨Nat.le_refl _, Nat.le_refl _⟩ dX7_lose_6 (fun H locs hd => ?_)
  refine lv_iconst (v := 1) hx hb dX7_lose_9 ic_1 ?_
  refine lv_icmp_ge (tgt := 15) hx hb dX7_lose_10 (by decide) (fun c2 => ?_) (fun c2 => ?_)
  · replace h := iteT c2 h
    refine lv_aload_n hx hb dX7_lose_15 rfl (lv_at hl 0 rfl) ?_
    refine gX7_20 C hd dX7_lose_16 ?_
    refine lv_iload_n hx hb dX7_lose_19 rfl (lv_at hl 1 rfl) ?_
    refine lv_iload_n hx hb dX7_lose_20 rfl (lv_at hl 2 rfl) ?_
    refine lv_iconst (v := 0) hx hb dX7_lose_21 ic_0 ?_
    obtain ⟨t3, et3, h⟩ := cal_e h
    refine rCallV C hd (c_X2_setCondition hE et3) kX7_259 2 rfl rfl rfl rfl hl.1 rfl (Nat.le_of_ble_eq_true rfl) ⟨(Nat.le_of_ble_eq_true rfl), (Nat.le_of_ble_eq_true rfl)⟩ ⟨Nat.le_refl _, Nat.le_refl _⟩ dX7_lose_22 (fun H locs hd => ?_)
    refine lv_iconst (v := 1) hx hb dX7_lose_25 ic_1 ?_
    exact rZretS (w := wD g) C hr hd h (by decide) dX7_lose_26
  · replace h := iteF c2 h
    refine lv_iconst (v := 0) hx hb dX7_lose_13 ic_0 ?_
    exact rZretS (w := wD g) C hr hd h (by decide) dX7_lose_14
noncomputable def f_X7_made (F : Nat) (σ : St) (x1 : Int32) (x2 : Int32) : Option Int32 :=
  cal (f_X0_hasCopy F σ x1) (fun r1 => if r1 = 0 then (some (-1 : Int32)) else (if x2 = 0 then (cal (f_X0_lineOf F σ x1) (fun r4 => some r4)) else (if x2 = 1 then (cal (f_X0_uponOf F σ x1) (fun r6 => some r6)) else (if x2 = 2 then (cal (f_X0_isOpen F σ x1) (fun r8 => if r8 = 0 then (some 0) else (some 1))) else (if x2 = 3 then (cal (f_X0_ownPages F σ x1) (fun r11 => some r11)) else (if x2 = 4 then (cal (f_X0_allPages F σ x1) (fun r13 => some r13)) else (if x2 = 5 then (cal (f_X0_isFit F σ x1 (σ.1 4)) (fun r15 => if r15 = 0 then (some 0) else (some 1))) else (if x2 = 6 then (cal (f_X0_chainOf F σ x1) (fun r18 => some r18)) else (if x2 = 7 then (cal (f_X0_isDropped F σ x1) (fun r20 => if r20 = 0 then (some 0) else (some 1))) else (some (-1 : Int32)))))))))))
set_option maxRecDepth 100000 in
set_option maxHeartbeats 4000000 in
theorem c_X7_made {l : Launch} {g : Gp} {X : va_W} (hE : E0 g) {F : Nat} {r' : Int32} {σ : St} {x1 : Int32} {x2 : Int32} (h : f_X7_made F σ x1 x2 = some r') : Ci l g yX7_made cX7_made 3 (some .int) 3 [.ref (ga g 0), .int x1, .int x2] (wD g σ ++ X) r' (wD g σ ++ X) := by
  refine rHead hE (by decide +kernel) (Nat.le_of_ble_eq_true rfl) (fun p e s m below meth c C hr _ hd ls hl => ?_)
  have hx := C.1
  have hb := C.2.1
  have hl : lv_has ls 3 [(0, .ref (ga g 0)), (1, .int x1), (2, .int x2)] := hl
  generalize ([.ref (ga g 0), .int x1, .int x2] : List Value).toArray = args at C ⊢
  have C : Cx g p s m args meth c cX7_made 3 RX7 := C
  rw [f_X7_made] at h
  refine lv_aload_n hx hb dX7_made_0 rfl (lv_at hl 0 rfl) ?_
  refine gX7_25 C hd dX7_made_1 ?_
  refine lv_iload_n hx hb dX7_made_4 rfl (lv_at hl 1 rfl) ?_
  obtain ⟨r1, er1, h⟩ := cal_e h
  refine rCallI C hd (c_X0_hasCopy hE er1) kX7_204 3 rfl rfl rfl rfl hl.1 rfl (Nat.le_of_ble_eq_true rfl) ⟨(Nat.le_of_ble_eq_true rfl), (Nat.le_of_ble_eq_true rfl)⟩ ⟨Nat.le_refl _, Nat.le_refl _⟩ dX7_made_5 (fun H locs hd => ?_)
  refine lv_if_ne (tgt := 13) hx hb dX7_made_8 (by decide) (fun c2 => ?_) (fun c2 => ?_)
  · replace h := iteF c2 h
    refine lv_iload_n hx hb dX7_made_13 rfl (lv_at hl 2 rfl) ?_
    by_cases c3 : x2 = 0
    · replace h := iteT c3 h
      refine rTop c3.symm ?_
      refine lv_tableIn (off := 46) (tgt := 60) hx hb dX7_made_14 (by decide) (by decide) (by decide) (by decide) ?_
      refine lv_aload_n hx hb dX7_made_60 rfl (lv_at hl 0 rfl) ?_
      refine gX7_25 C hd dX7_made_61 ?_
      refine lv_iload_n hx hb dX7_made_64 rfl (lv_at hl 1 rfl) ?_
      obtain ⟨r4, er4, h⟩ := cal_e h
      refine rCallI C hd (c_X0_lineOf hE er4) kX7_212 3 rfl rfl rfl rfl hl.1 rfl (Nat.le_of_ble_eq_true rfl) ⟨(Nat.le_of_ble_eq_true rfl), (Nat.le_of_ble_eq_true rfl)⟩ ⟨Nat.le_refl _, Nat.le_refl _⟩ dX7_made_65 (fun H locs hd => ?_)
      exact rIretP C hr hd h dX7_made_68
    · replace h := iteF c3 h
      by_cases c5 : x2 = 1
      · replace h := iteT c5 h
        refine rTop c5.symm ?_
        refine lv_tableIn (off := 55) (tgt := 69) hx hb dX7_made_14 (by decide) (by decide) (by decide) (by decide) ?_
        refine lv_aload_n hx hb dX7_made_69 rfl (lv_at hl 0 rfl) ?_
        refine gX7_25 C hd dX7_made_70 ?_
        refine lv_iload_n hx hb dX7_made_73 rfl (lv_at hl 1 rfl) ?_
        obtain ⟨r6, er6, h⟩ := cal_e h
        refine rCallI C hd (c_X0_uponOf hE er6) kX7_300 3 rfl rfl rfl rfl hl.1 rfl (Nat.le_of_ble_eq_true rfl) ⟨(Nat.le_of_ble_eq_true rfl), (Nat.le_of_ble_eq_true rfl)⟩ ⟨Nat.le_refl _, Nat.le_refl _⟩ dX7_made_74 (fun H locs hd => ?_)
        exact rIretP C hr hd h dX7_made_77
      · replace h := iteF c5 h
        by_cases c7 : x2 = 2
        · replace h := iteT c7 h
          refine rTop c7.symm ?_
          refine lv_tableIn (off := 64) (tgt := 78) hx hb dX7_made_14 (by decide) (by decide) (by decide) (by decide) ?_
          refine lv_aload_n hx hb dX7_made_78 rfl (lv_at hl 0 rfl) ?_
          refine gX7_25 C hd dX7_made_79 ?_
          refine lv_iload_n hx hb dX7_made_82 rfl (lv_at hl 1 rfl) ?_
          obtain ⟨r8, er8, h⟩ := cal_e h
          refine rCallI C hd (c_X0_isOpen hE er8) kX7_209 3 rfl rfl rfl rfl hl.1 rfl (Nat.le_of_ble_eq_true rfl) ⟨(Nat.le_of_ble_eq_true rfl), (Nat.le_of_ble_eq_true rfl)⟩ ⟨Nat.le_refl _, Nat.le_refl _⟩ dX7_made_83 (fun H locs hd => ?_)
          refine lv_if_eq (tgt := 93) hx hb dX7_made_86 (by decide) (fun c9 => ?_) (fun c9 => ?_)
          · replace h := iteT c9 h
            refine lv_iconst (v := 0) hx hb dX7_made_93 ic_0 ?_
            exact rIretP C hr hd h dX7_made_94
          · replace h := iteF c9 h
            refine lv_iconst (v := 1) hx hb dX7_made_89 ic_1 ?_
            refine lv_goto (tgt := 94) hx hb dX7_made_90 (by decide) ?_
            exact rIretP C hr hd h dX7_made_94
        · replace h := iteF c7 h
          by_cases c10 : x2 = 3
          · replace h := iteT c10 h
            refine rTop c10.symm ?_
            refine lv_tableIn (off := 81) (tgt := 95) hx hb dX7_made_14 (by decide) (by decide) (by decide) (by decide) ?_
            refine lv_aload_n hx hb dX7_made_95 rfl (lv_at hl 0 rfl) ?_
            refine gX7_25 C hd dX7_made_96 ?_
            refine lv_iload_n hx hb dX7_made_99 rfl (lv_at hl 1 rfl) ?_
            obtain ⟨r11, er11, h⟩ := cal_e h
            refine rCallI C hd (c_X0_ownPages hE er11) kX7_303 3 rfl rfl rfl rfl hl.1 rfl (Nat.le_of_ble_eq_true rfl) ⟨(Nat.le_of_ble_eq_true rfl), (Nat.le_of_ble_eq_true rfl)⟩ ⟨Nat.le_refl _, Nat.le_refl _⟩ dX7_made_100 (fun H locs hd => ?_)
            exact rIretP C hr hd h dX7_made_103
          · replace h := iteF c10 h
            by_cases c12 : x2 = 4
            · replace h := iteT c12 h
              refine rTop c12.symm ?_
              refine lv_tableIn (off := 90) (tgt := 104) hx hb dX7_made_14 (by decide) (by decide) (by decide) (by decide) ?_
              refine lv_aload_n hx hb dX7_made_104 rfl (lv_at hl 0 rfl) ?_
              refine gX7_25 C hd dX7_made_105 ?_
              refine lv_iload_n hx hb dX7_made_108 rfl (lv_at hl 1 rfl) ?_
              obtain ⟨r13, er13, h⟩ := cal_e h
              refine rCallI C hd (c_X0_allPages hE er13) kX7_306 3 rfl rfl rfl rfl hl.1 rfl (Nat.le_of_ble_eq_true rfl) ⟨(Nat.le_of_ble_eq_true rfl), (Nat.le_of_ble_eq_true rfl)⟩ ⟨Nat.le_refl _, Nat.le_refl _⟩ dX7_made_109 (fun H locs hd => ?_)
              exact rIretP C hr hd h dX7_made_112
            · replace h := iteF c12 h
              by_cases c14 : x2 = 5
              · replace h := iteT c14 h
                refine rTop c14.symm ?_
                refine lv_tableIn (off := 99) (tgt := 113) hx hb dX7_made_14 (by decide) (by decide) (by decide) (by decide) ?_
                refine lv_aload_n hx hb dX7_made_113 rfl (lv_at hl 0 rfl) ?_
                refine gX7_25 C hd dX7_made_114 ?_
                refine lv_iload_n hx hb dX7_made_117 rfl (lv_at hl 1 rfl) ?_
                refine lv_aload_n hx hb dX7_made_118 rfl (lv_at hl 0 rfl) ?_
                refine gX7_10 C hd dX7_made_119 ?_
                refine gX7_225 C hd dX7_made_122 ?_
                obtain ⟨r15, er15, h⟩ := cal_e h
                refine rCallI C hd (c_X0_isFit hE er15) kX7_226 3 rfl rfl rfl rfl hl.1 rfl (Nat.le_of_ble_eq_true rfl) ⟨(Nat.le_of_ble_eq_true rfl), (Nat.le_of_ble_eq_true rfl)⟩ ⟨Nat.le_refl _, Nat.le_refl _⟩ dX7_made_125 (fun H locs hd => ?_)
                refine lv_if_eq (tgt := 135) hx hb dX7_made_128 (by decide) (fun c16 => ?_) (fun c16 => ?_)
                · replace h := iteT c16 h
                  refine lv_iconst (v := 0) hx hb dX7_made_135 ic_0 ?_
                  exact rIretP C hr hd h dX7_made_136
                · replace h := iteF c16 h
                  refine lv_iconst (v := 1) hx hb dX7_made_131 ic_1 ?_
                  refine lv_goto (tgt := 136) hx hb dX7_made_132 (by decide) ?_
                  exact rIretP C hr hd h dX7_made_136
              · replace h := iteF c14 h
                by_cases c17 : x2 = 6
                · replace h := iteT c17 h
                  refine rTop c17.symm ?_
                  refine lv_tableIn (off := 123) (tgt := 137) hx hb dX7_made_14 (by decide) (by decide) (by decide) (by decide) ?_
                  refine lv_aload_n hx hb dX7_made_137 rfl (lv_at hl 0 rfl) ?_
                  refine gX7_25 C hd dX7_made_138 ?_
                  refine lv_iload_n hx hb dX7_made_141 rfl (lv_at hl 1 rfl) ?_
                  obtain ⟨r18, er18, h⟩ := cal_e h
                  refine rCallI C hd (c_X0_chainOf hE er18) kX7_309 3 rfl rfl rfl rfl hl.1 rfl (Nat.le_of_ble_eq_true rfl) ⟨(Nat.le_of_ble_eq_true rfl), (Nat.le_of_ble_eq_true rfl)⟩ ⟨Nat.le_refl _, Nat.le_refl _⟩ dX7_made_142 (fun H locs hd => ?_)
                  exact rIretP C hr hd h dX7_made_145
                · replace h := iteF c17 h
                  by_cases c19 : x2 = 7
                  · replace h := iteT c19 h
                    refine rTop c19.symm ?_
                    refine lv_tableIn (off := 132) (tgt := 146) hx hb dX7_made_14 (by decide) (by decide) (by decide) (by decide) ?_
                    refine lv_aload_n hx hb dX7_made_146 rfl (lv_at hl 0 rfl) ?_
                    refine gX7_25 C hd dX7_made_147 ?_
                    refine lv_iload_n hx hb dX7_made_150 rfl (lv_at hl 1 rfl) ?_
                    obtain ⟨r20, er20, h⟩ := cal_e h
                    refine rCallI C hd (c_X0_isDropped hE er20) kX7_312 3 rfl rfl rfl rfl hl.1 rfl (Nat.le_of_ble_eq_true rfl) ⟨(Nat.le_of_ble_eq_true rfl), (Nat.le_of_ble_eq_true rfl)⟩ ⟨Nat.le_refl _, Nat.le_refl _⟩ dX7_made_151 (fun H locs hd => ?_)
                    refine lv_if_eq (tgt := 161) hx hb dX7_made_154 (by decide) (fun c21 => ?_) (fun c21 => ?_)
                    · replace h := iteT c21 h
                      refine lv_iconst (v := 0) hx hb dX7_made_161 ic_0 ?_
                      exact rIretP C hr hd h dX7_made_162
                    · replace h := iteF c21 h
                      refine lv_iconst (v := 1) hx hb dX7_made_157 ic_1 ?_
                      refine lv_goto (tgt := 162) hx hb dX7_made_158 (by decide) ?_
                      exact rIretP C hr hd h dX7_made_162
                  · replace h := iteF c19 h
                    refine lv_tableOut (tgt := 163) hx hb dX7_made_14 (sw_out (lo := 0) (hi := 7) (fun z z1 z2 e => ?_)) (by decide) ?_
                    · have hz : z = 0 ∨ z = 1 ∨ z = 2 ∨ z = 3 ∨ z = 4 ∨ z = 5 ∨ z = 6 ∨ z = 7 := by omega
                      rcases hz with rfl | rfl | rfl | rfl | rfl | rfl | rfl | rfl
                      · exact c3 (Int32.toInt_inj.mp (e.trans (by decide)))
                      · exact c5 (Int32.toInt_inj.mp (e.trans (by decide)))
                      · exact c7 (Int32.toInt_inj.mp (e.trans (by decide)))
                      · exact c10 (Int32.toInt_inj.mp (e.trans (by decide)))
                      · exact c12 (Int32.toInt_inj.mp (e.trans (by decide)))
                      · exact c14 (Int32.toInt_inj.mp (e.trans (by decide)))
                      · exact c17 (Int32.toInt_inj.mp (e.trans (by decide)))
                      · exact c19 (Int32.toInt_inj.mp (e.trans (by decide)))
                    refine lv_iconst (v := (-1 : Int32)) hx hb dX7_made_163 ic_m1 ?_
                    exact rIretP C hr hd h dX7_made_164
  · replace h := iteT c2 h
    refine lv_iconst (v := (-1 : Int32)) hx hb dX7_made_11 ic_m1 ?_
    exact rIretP C hr hd h dX7_made_12
noncomputable def f_X7_mark (F : Nat) (σ : St) (x1 : Int32) : Option (Int32 × St) :=
  cal2 (f_X2_come F σ 2 x1 0) (fun r1 t2 => some (r1, t2))
set_option maxRecDepth 100000 in
set_option maxHeartbeats 4000000 in
theorem c_X7_mark {l : Launch} {g : Gp} {X : va_W} (hE : E0 g) {F : Nat} {r' : Int32} {σ' : St} {σ : St} {x1 : Int32} (h : f_X7_mark F σ x1 = some (r', σ')) : Ci l g yX7_mark cX7_mark 2 (some .int) 3 [.ref (ga g 0), .int x1] (wD g σ ++ X) r' (wD g σ' ++ X) := by
  refine rHead hE (by decide +kernel) (Nat.le_of_ble_eq_true rfl) (fun p e s m below meth c C hr _ hd ls hl => ?_)
  have hx := C.1
  have hb := C.2.1
  have hl : lv_has ls 2 [(0, .ref (ga g 0)), (1, .int x1)] := hl
  generalize ([.ref (ga g 0), .int x1] : List Value).toArray = args at C ⊢
  have C : Cx g p s m args meth c cX7_mark 2 RX7 := C
  rw [f_X7_mark] at h
  refine lv_aload_n hx hb dX7_mark_0 rfl (lv_at hl 0 rfl) ?_
  refine gX7_20 C hd dX7_mark_1 ?_
  refine lv_iconst (v := 2) hx hb dX7_mark_4 ic_2 ?_
  refine lv_iload_n hx hb dX7_mark_5 rfl (lv_at hl 1 rfl) ?_
  refine lv_iconst (v := 0) hx hb dX7_mark_6 ic_0 ?_
  obtain ⟨r1, t2, et2, h⟩ := cal2_e h
  refine rCallI C hd (c_X2_come hE et2) kX7_195 2 rfl rfl rfl rfl hl.1 rfl (Nat.le_of_ble_eq_true rfl) ⟨(Nat.le_of_ble_eq_true rfl), (Nat.le_of_ble_eq_true rfl)⟩ ⟨Nat.le_refl _, Nat.le_refl _⟩ dX7_mark_7 (fun H locs hd => ?_)
  exact rIretS (w := wD g) C hr hd h dX7_mark_10
noncomputable def f_X7_would (F : Nat) (σ : St) (x1 : Int32) (x2 : Int32) (x3 : Int32) : Option (Int32 × St) :=
  cal (f_X3_aim F σ x1 x2) (fun t1 => cal (f_X3_outcomeAt F t1 x3) (fun r2 => some (r2, t1)))
set_option maxRecDepth 100000 in
set_option maxHeartbeats 4000000 in
theorem c_X7_would {l : Launch} {g : Gp} {X : va_W} (hE : E0 g) {F : Nat} {r' : Int32} {σ' : St} {σ : St} {x1 : Int32} {x2 : Int32} {x3 : Int32} (h : f_X7_would F σ x1 x2 x3 = some (r', σ')) : Ci l g yX7_would cX7_would 4 (some .int) 4 [.ref (ga g 0), .int x1, .int x2, .int x3] (wD g σ ++ X) r' (wD g σ' ++ X) := by
  refine rHead hE (by decide +kernel) (Nat.le_of_ble_eq_true rfl) (fun p e s m below meth c C hr _ hd ls hl => ?_)
  have hx := C.1
  have hb := C.2.1
  have hl : lv_has ls 4 [(0, .ref (ga g 0)), (1, .int x1), (2, .int x2), (3, .int x3)] := hl
  generalize ([.ref (ga g 0), .int x1, .int x2, .int x3] : List Value).toArray = args at C ⊢
  have C : Cx g p s m args meth c cX7_would 4 RX7 := C
  rw [f_X7_would] at h
  refine lv_aload_n hx hb dX7_would_0 rfl (lv_at hl 0 rfl) ?_
  refine gX7_31 C hd dX7_would_1 ?_
  refine lv_iload_n hx hb dX7_would_4 rfl (lv_at hl 1 rfl) ?_
  refine lv_iload_n hx hb dX7_would_5 rfl (lv_at hl 2 rfl) ?_
  obtain ⟨t1, et1, h⟩ := cal_e h
  refine rCallV C hd (c_X3_aim hE et1) kX7_247 4 rfl rfl rfl rfl hl.1 rfl (Nat.le_of_ble_eq_true rfl) ⟨(Nat.le_of_ble_eq_true rfl), (Nat.le_of_ble_eq_true rfl)⟩ ⟨Nat.le_refl _, Nat.le_refl _⟩ dX7_would_6 (fun H locs hd => ?_)
  refine lv_aload_n hx hb dX7_would_9 rfl (lv_at hl 0 rfl) ?_
  refine gX7_31 C hd dX7_would_10 ?_
  refine lv_iload_n hx hb dX7_would_13 rfl (lv_at hl 3 rfl) ?_
  obtain ⟨r2, er2, h⟩ := cal_e h
  refine rCallI C hd (c_X3_outcomeAt hE er2) kX7_250 4 rfl rfl rfl rfl hl.1 rfl (Nat.le_of_ble_eq_true rfl) ⟨(Nat.le_of_ble_eq_true rfl), (Nat.le_of_ble_eq_true rfl)⟩ ⟨Nat.le_refl _, Nat.le_refl _⟩ dX7_would_14 (fun H locs hd => ?_)
  exact rIretS (w := wD g) C hr hd h dX7_would_17
noncomputable def f_X7_named_154 (F : Nat) (σ : St) (x4 : Int32) : Option (Int32 × St) :=
  if x4 < 0 then (some ((-1 : Int32), σ)) else (cal (f_J4_length_8abf5 F σ) (fun r2 => if x4 < r2 then (cal (f_J4_charAt_5068e F σ x4) (fun r4 => some (r4, σ))) else (some ((-1 : Int32), σ))))
set_option maxRecDepth 100000 in
set_option maxHeartbeats 4000000 in
theorem w_X7_named_154 {F : Nat} {r' : Int32} {σ' : St}  (C : Cx g p s m args meth c cX7_named 6 RX7) (hr : meth.sig.returnType = some .int) :
    (∀ (σ : St) (x4 : Int32), f_X7_named_154 F σ x4 = some (r', σ') → ∀ (H : Heap) (locs : List Loc) (ls : Array Slot), Dy g (wD g σ ++ X) s H locs → lv_has ls 6 [(0, .ref (ga g 0)), (4, .int x4)] → W p l e (rmD 6) s m args below meth c H locs 0 0 (QI g below args s (wD g σ' ++ X) r') (F0 m 154 ls [])) := by
  have hx := C.1
  have hb := C.2.1
  have hE := C.2.2.2.2.2.2.2.2
  intro σ x4 h H locs ls hd hl
  rw [f_X7_named_154] at h
  refine lv_iload hx hb dX7_named_154 (lv_at hl 1 rfl) ?_
  refine lv_if_lt (tgt := 171) hx hb dX7_named_156 (by decide) (fun c1 => ?_) (fun c1 => ?_)
  · replace h := iteT c1 h
    refine lv_iconst (v := (-1 : Int32)) hx hb dX7_named_171 ic_m1 ?_
    exact rIretS (w := wD g) C hr hd h dX7_named_172
  · replace h := iteF c1 h
    refine lv_iload hx hb dX7_named_159 (lv_at hl 1 rfl) ?_
    refine lv_aload_n hx hb dX7_named_161 rfl (lv_at hl 0 rfl) ?_
    refine gX7_85 C hd dX7_named_162 ?_
    obtain ⟨r2, er2, h⟩ := cal_e h
    refine rCallI C hd (c_J4_length_8abf5 hE er2) kX7_344 8 rfl rfl rfl rfl hl.1 rfl (Nat.le_of_ble_eq_true rfl) ⟨(Nat.le_of_ble_eq_true rfl), (Nat.le_of_ble_eq_true rfl)⟩ ⟨Nat.le_refl _, Nat.le_refl _⟩ dX7_named_165 (fun H locs hd => ?_)
    refine lv_icmp_lt (tgt := 173) hx hb dX7_named_168 (by decide) (fun c3 => ?_) (fun c3 => ?_)
    · replace h := iteT c3 h
      refine lv_aload_n hx hb dX7_named_173 rfl (lv_at hl 0 rfl) ?_
      refine gX7_85 C hd dX7_named_174 ?_
      refine lv_iload hx hb dX7_named_177 (lv_at hl 1 rfl) ?_
      obtain ⟨r4, er4, h⟩ := cal_e h
      refine rCallI C hd (c_J4_charAt_5068e hE er4) kX7_347 8 rfl rfl rfl rfl hl.1 rfl (Nat.le_of_ble_eq_true rfl) ⟨(Nat.le_of_ble_eq_true rfl), (Nat.le_of_ble_eq_true rfl)⟩ ⟨Nat.le_refl _, Nat.le_refl _⟩ dX7_named_179 (fun H locs hd => ?_)
      exact rIretS (w := wD g) C hr hd h dX7_named_182
    · replace h := iteF c3 h
      refine lv_iconst (v := (-1 : Int32)) hx hb dX7_named_171 ic_m1 ?_
      exact rIretS (w := wD g) C hr hd h dX7_named_172
noncomputable def f_X7_named (F : Nat) (σ : St) (x1 : Int32) (x2 : Int32) (x3 : Int32) (x4 : Int32) : Option (Int32 × St) :=
  cal2 (f_X7_would F σ x1 x2 x3) (fun r1 t2 => cal (f_J4_setLength_d00df F t2 0) (fun t3 => if r1 = 0 then (cal (f_J4_append_15ec4 F 2 t3) (fun t5 => f_X7_named_154 F t5 x4)) else (if r1 = 1 then (cal (f_J4_append_15ec4 F 3 t3) (fun t7 => f_X7_named_154 F t7 x4)) else (if r1 = 2 then (cal (f_J4_append_15ec4 F 4 t3) (fun t9 => f_X7_named_154 F t9 x4)) else (if r1 = 3 then (cal (f_J4_append_15ec4 F 5 t3) (fun t11 => f_X7_named_154 F t11 x4)) else (cal (f_J4_append_cf468 F t3 116) (fun t12 => cal (f_J4_append_bf812 F t12 (t12.1 16)) (fun t13 => cal (f_J4_append_cf468 F t13 112) (fun t14 => cal (f_J4_append_bf812 F t14 (t14.1 17)) (fun t15 => f_X7_named_154 F t15 x4))))))))))
set_option maxRecDepth 100000 in
set_option maxHeartbeats 4000000 in
theorem c_X7_named {l : Launch} {g : Gp} {X : va_W} (hE : E0 g) {F : Nat} {r' : Int32} {σ' : St} {σ : St} {x1 : Int32} {x2 : Int32} {x3 : Int32} {x4 : Int32} (h : f_X7_named F σ x1 x2 x3 x4 = some (r', σ')) : Ci l g yX7_named cX7_named 6 (some .int) 6 [.ref (ga g 0), .int x1, .int x2, .int x3, .int x4] (wD g σ ++ X) r' (wD g σ' ++ X) := by
  refine rHead hE (by decide +kernel) (Nat.le_of_ble_eq_true rfl) (fun p e s m below meth c C hr _ hd ls hl => ?_)
  have hx := C.1
  have hb := C.2.1
  have hl : lv_has ls 6 [(0, .ref (ga g 0)), (1, .int x1), (2, .int x2), (3, .int x3), (4, .int x4)] := hl
  generalize ([.ref (ga g 0), .int x1, .int x2, .int x3, .int x4] : List Value).toArray = args at C ⊢
  have C : Cx g p s m args meth c cX7_named 6 RX7 := C
  rw [f_X7_named] at h
  refine lv_aload_n hx hb dX7_named_0 rfl (lv_at hl 0 rfl) ?_
  refine lv_iload_n hx hb dX7_named_1 rfl (lv_at hl 1 rfl) ?_
  refine lv_iload_n hx hb dX7_named_2 rfl (lv_at hl 2 rfl) ?_
  refine lv_iload_n hx hb dX7_named_3 rfl (lv_at hl 3 rfl) ?_
  obtain ⟨r1, t2, et2, h⟩ := cal2_e h
  refine rCallI C hd (c_X7_would hE et2) kX7_315 0 rfl rfl rfl rfl hl.1 rfl (Nat.le_of_ble_eq_true rfl) ⟨(Nat.le_of_ble_eq_true rfl), (Nat.le_of_ble_eq_true rfl)⟩ ⟨Nat.le_refl _, Nat.le_refl _⟩ dX7_named_4 (fun H locs hd => ?_)
  refine lv_istore (lv' := [(5, .int r1), (0, .ref (ga g 0)), (1, .int x1), (2, .int x2), (3, .int x3), (4, .int x4)]) hx hb dX7_named_7 hl (Nat.le_of_ble_eq_true rfl) rfl (fun ls hl => ?_)
  refine lv_aload_n hx hb dX7_named_9 rfl (lv_at hl 1 rfl) ?_
  refine gX7_85 C hd dX7_named_10 ?_
  refine lv_iconst (v := 0) hx hb dX7_named_13 ic_0 ?_
  obtain ⟨t3, et3, h⟩ := cal_e h
  refine rCallV C hd (c_J4_setLength_d00df hE et3) kX7_318 8 rfl rfl rfl rfl hl.1 rfl (Nat.le_of_ble_eq_true rfl) ⟨(Nat.le_of_ble_eq_true rfl), (Nat.le_of_ble_eq_true rfl)⟩ ⟨Nat.le_refl _, Nat.le_refl _⟩ dX7_named_14 (fun H locs hd => ?_)
  refine lv_iload hx hb dX7_named_17 (lv_at hl 0 rfl) ?_
  by_cases c4 : r1 = 0
  · replace h := iteT c4 h
    refine rTop c4.symm ?_
    refine lv_tableIn (off := 29) (tgt := 48) hx hb dX7_named_19 (by decide) (by decide) (by decide) (by decide) ?_
    refine lv_aload_n hx hb dX7_named_48 rfl (lv_at hl 1 rfl) ?_
    refine gX7_85 C hd dX7_named_49 ?_
    refine rLdcSw C (i := 2) (tx := "ok") (by decide) rfl (mT 1023 (by decide +kernel)) dX7_named_52 ?_
    obtain ⟨t5, et5, h⟩ := cal_e h
    refine rCallR C hd (c_J4_append_15ec4 hE (by decide) et5) kX7_323 8 rfl rfl rfl rfl hl.1 rfl (Nat.le_of_ble_eq_true rfl) ⟨(Nat.le_of_ble_eq_true rfl), (Nat.le_of_ble_eq_true rfl)⟩ ⟨Nat.le_refl _, Nat.le_refl _⟩ dX7_named_55 (fun H locs hd => ?_)
    refine lv_pop hx hb dX7_named_58 rfl ?_
    refine lv_goto (tgt := 154) hx hb dX7_named_59 (by decide) ?_
    exact w_X7_named_154 C hr t5 x4 h _ _ _ hd (lv_sub hl [1, 5] rfl)
  · replace h := iteF c4 h
    by_cases c6 : r1 = 1
    · replace h := iteT c6 h
      refine rTop c6.symm ?_
      refine lv_tableIn (off := 43) (tgt := 62) hx hb dX7_named_19 (by decide) (by decide) (by decide) (by decide) ?_
      refine lv_aload_n hx hb dX7_named_62 rfl (lv_at hl 1 rfl) ?_
      refine gX7_85 C hd dX7_named_63 ?_
      refine rLdcSw C (i := 3) (tx := "none") (by decide) rfl (mT 1076 (by decide +kernel)) dX7_named_66 ?_
      obtain ⟨t7, et7, h⟩ := cal_e h
      refine rCallR C hd (c_J4_append_15ec4 hE (by decide) et7) kX7_323 8 rfl rfl rfl rfl hl.1 rfl (Nat.le_of_ble_eq_true rfl) ⟨(Nat.le_of_ble_eq_true rfl), (Nat.le_of_ble_eq_true rfl)⟩ ⟨Nat.le_refl _, Nat.le_refl _⟩ dX7_named_69 (fun H locs hd => ?_)
      refine lv_pop hx hb dX7_named_72 rfl ?_
      refine lv_goto (tgt := 154) hx hb dX7_named_73 (by decide) ?_
      exact w_X7_named_154 C hr t7 x4 h _ _ _ hd (lv_sub hl [1, 5] rfl)
    · replace h := iteF c6 h
      by_cases c8 : r1 = 2
      · replace h := iteT c8 h
        refine rTop c8.symm ?_
        refine lv_tableIn (off := 57) (tgt := 76) hx hb dX7_named_19 (by decide) (by decide) (by decide) (by decide) ?_
        refine lv_aload_n hx hb dX7_named_76 rfl (lv_at hl 1 rfl) ?_
        refine gX7_85 C hd dX7_named_77 ?_
        refine rLdcSw C (i := 4) (tx := "branch") (by decide) rfl (mT 1077 (by decide +kernel)) dX7_named_80 ?_
        obtain ⟨t9, et9, h⟩ := cal_e h
        refine rCallR C hd (c_J4_append_15ec4 hE (by decide) et9) kX7_323 8 rfl rfl rfl rfl hl.1 rfl (Nat.le_of_ble_eq_true rfl) ⟨(Nat.le_of_ble_eq_true rfl), (Nat.le_of_ble_eq_true rfl)⟩ ⟨Nat.le_refl _, Nat.le_refl _⟩ dX7_named_83 (fun H locs hd => ?_)
        refine lv_pop hx hb dX7_named_86 rfl ?_
        refine lv_goto (tgt := 154) hx hb dX7_named_87 (by decide) ?_
        exact w_X7_named_154 C hr t9 x4 h _ _ _ hd (lv_sub hl [1, 5] rfl)
      · replace h := iteF c8 h
        by_cases c10 : r1 = 3
        · replace h := iteT c10 h
          refine rTop c10.symm ?_
          refine lv_tableIn (off := 71) (tgt := 90) hx hb dX7_named_19 (by decide) (by decide) (by decide) (by decide) ?_
          refine lv_aload_n hx hb dX7_named_90 rfl (lv_at hl 1 rfl) ?_
          refine gX7_85 C hd dX7_named_91 ?_
          refine rLdcSw C (i := 5) (tx := "early") (by decide) rfl (mT 1078 (by decide +kernel)) dX7_named_94 ?_
          obtain ⟨t11, et11, h⟩ := cal_e h
          refine rCallR C hd (c_J4_append_15ec4 hE (by decide) et11) kX7_323 8 rfl rfl rfl rfl hl.1 rfl (Nat.le_of_ble_eq_true rfl) ⟨(Nat.le_of_ble_eq_true rfl), (Nat.le_of_ble_eq_true rfl)⟩ ⟨Nat.le_refl _, Nat.le_refl _⟩ dX7_named_97 (fun H locs hd => ?_)
          refine lv_pop hx hb dX7_named_100 rfl ?_
          refine lv_goto (tgt := 154) hx hb dX7_named_101 (by decide) ?_
          exact w_X7_named_154 C hr t11 x4 h _ _ _ hd (lv_sub hl [1, 5] rfl)
        · replace h := iteF c10 h
          refine lv_tableOut (tgt := 104) hx hb dX7_named_19 (sw_out (lo := 0) (hi := 3) (fun z z1 z2 e => ?_)) (by decide) ?_
          · have hz : z = 0 ∨ z = 1 ∨ z = 2 ∨ z = 3 := by omega
            rcases hz with rfl | rfl | rfl | rfl
            · exact c4 (Int32.toInt_inj.mp (e.trans (by decide)))
            · exact c6 (Int32.toInt_inj.mp (e.trans (by decide)))
            · exact c8 (Int32.toInt_inj.mp (e.trans (by decide)))
            · exact c10 (Int32.toInt_inj.mp (e.trans (by decide)))
          refine lv_aload_n hx hb dX7_named_104 rfl (lv_at hl 1 rfl) ?_
          refine gX7_85 C hd dX7_named_105 ?_
          refine lv_bipush (v := 116) hx hb dX7_named_108 bi_116 ?_
          obtain ⟨t12, et12, h⟩ := cal_e h
          refine rCallR C hd (c_J4_append_cf468 hE et12) kX7_332 8 rfl rfl rfl rfl hl.1 rfl (Nat.le_of_ble_eq_true rfl) ⟨(Nat.le_of_ble_eq_true rfl), (Nat.le_of_ble_eq_true rfl)⟩ ⟨Nat.le_refl _, Nat.le_refl _⟩ dX7_named_110 (fun H locs hd => ?_)
          refine lv_pop hx hb dX7_named_113 rfl ?_
          refine lv_aload_n hx hb dX7_named_114 rfl (lv_at hl 1 rfl) ?_
          refine gX7_85 C hd dX7_named_115 ?_
          refine lv_aload_n hx hb dX7_named_118 rfl (lv_at hl 1 rfl) ?_
          refine gX7_31 C hd dX7_named_119 ?_
          refine gX7_335 C hd dX7_named_122 ?_
          obtain ⟨t13, et13, h⟩ := cal_e h
          refine rCallR C hd (c_J4_append_bf812 hE et13) kX7_338 8 rfl rfl rfl rfl hl.1 rfl (Nat.le_of_ble_eq_true rfl) ⟨(Nat.le_of_ble_eq_true rfl), (Nat.le_of_ble_eq_true rfl)⟩ ⟨Nat.le_refl _, Nat.le_refl _⟩ dX7_named_125 (fun H locs hd => ?_)
          refine lv_pop hx hb dX7_named_128 rfl ?_
          refine lv_aload_n hx hb dX7_named_129 rfl (lv_at hl 1 rfl) ?_
          refine gX7_85 C hd dX7_named_130 ?_
          refine lv_bipush (v := 112) hx hb dX7_named_133 bi_112 ?_
          obtain ⟨t14, et14, h⟩ := cal_e h
          refine rCallR C hd (c_J4_append_cf468 hE et14) kX7_332 8 rfl rfl rfl rfl hl.1 rfl (Nat.le_of_ble_eq_true rfl) ⟨(Nat.le_of_ble_eq_true rfl), (Nat.le_of_ble_eq_true rfl)⟩ ⟨Nat.le_refl _, Nat.le_refl _⟩ dX7_named_135 (fun H locs hd => ?_)
          refine lv_pop hx hb dX7_named_138 rfl ?_
          refine lv_aload_n hx hb dX7_named_139 rfl (lv_at hl 1 rfl) ?_
          refine gX7_85 C hd dX7_named_140 ?_
          refine lv_aload_n hx hb dX7_named_143 rfl (lv_at hl 1 rfl) ?_
          refine gX7_31 C hd dX7_named_144 ?_
          refine gX7_341 C hd dX7_named_147 ?_
          obtain ⟨t15, et15, h⟩ := cal_e h
          refine rCallR C hd (c_J4_append_bf812 hE et15) kX7_338 8 rfl rfl rfl rfl hl.1 rfl (Nat.le_of_ble_eq_true rfl) ⟨(Nat.le_of_ble_eq_true rfl), (Nat.le_of_ble_eq_true rfl)⟩ ⟨Nat.le_refl _, Nat.le_refl _⟩ dX7_named_150 (fun H locs hd => ?_)
          refine lv_pop hx hb dX7_named_153 rfl ?_
          exact w_X7_named_154 C hr t15 x4 h _ _ _ hd (lv_sub hl [1, 5] rfl)
noncomputable def f_X7_needs (F : Nat) (σ : St) (x1 : Int32) (x2 : Int32) (x3 : Int32) (x4 : Int32) : Option (Int32 × St) :=
  cal (f_X3_aim F σ x1 x2) (fun t1 => if x4 < 0 then (some ((-1 : Int32), t1)) else (if 3 < x4 then (some ((-1 : Int32), t1)) else (cal (f_X3_isOnTheWay F t1 x3) (fun r4 => if r4 = 0 then (some ((-1 : Int32), t1)) else (cal (f_X3_neededTo F t1 x3) (fun r6 => if x4 = 0 then (some (r6, t1)) else (if r6 = 0 then (some ((-2 : Int32), t1)) else (if x4 = 1 then (some ((t1.1 13), t1)) else (if x4 = 2 then (cal (f_X2_pieceHolding F t1 (t1.1 13)) (fun r12 => some (r12, t1))) else (cal (f_X2_pieceHolding F t1 x3) (fun r11 => some (r11, t1))))))))))))
set_option maxRecDepth 100000 in
set_option maxHeartbeats 4000000 in
theorem c_X7_needs {l : Launch} {g : Gp} {X : va_W} (hE : E0 g) {F : Nat} {r' : Int32} {σ' : St} {σ : St} {x1 : Int32} {x2 : Int32} {x3 : Int32} {x4 : Int32} (h : f_X7_needs F σ x1 x2 x3 x4 = some (r', σ')) : Ci l g yX7_needs cX7_needs 6 (some .int) 4 [.ref (ga g 0), .int x1, .int x2, .int x3, .int x4] (wD g σ ++ X) r' (wD g σ' ++ X) := by
  refine rHead hE (by decide +kernel) (Nat.le_of_ble_eq_true rfl) (fun p e s m below meth c C hr _ hd ls hl => ?_)
  have hx := C.1
  have hb := C.2.1
  have hl : lv_has ls 6 [(0, .ref (ga g 0)), (1, .int x1), (2, .int x2), (3, .int x3), (4, .int x4)] := hl
  generalize ([.ref (ga g 0), .int x1, .int x2, .int x3, .int x4] : List Value).toArray = args at C ⊢
  have C : Cx g p s m args meth c cX7_needs 6 RX7 := C
  rw [f_X7_needs] at h
  refine lv_aload_n hx hb dX7_needs_0 rfl (lv_at hl 0 rfl) ?_
  refine gX7_31 C hd dX7_needs_1 ?_
  refine lv_iload_n hx hb dX7_needs_4 rfl (lv_at hl 1 rfl) ?_
  refine lv_iload_n hx hb dX7_needs_5 rfl (lv_at hl 2 rfl) ?_
  obtain ⟨t1, et1, h⟩ := cal_e h
  refine rCallV C hd (c_X3_aim hE et1) kX7_247 4 rfl rfl rfl rfl hl.1 rfl (Nat.le_of_ble_eq_true rfl) ⟨(Nat.le_of_ble_eq_true rfl), (Nat.le_of_ble_eq_true rfl)⟩ ⟨Nat.le_refl _, Nat.le_refl _⟩ dX7_needs_6 (fun H locs hd => ?_)
  refine lv_iload hx hb dX7_needs_9 (lv_at hl 4 rfl) ?_
  refine lv_if_lt (tgt := 31) hx hb dX7_needs_11 (by decide) (fun c2 => ?_) (fun c2 => ?_)
  · replace h := iteT c2 h
    refine lv_iconst (v := (-1 : Int32)) hx hb dX7_needs_31 ic_m1 ?_
    exact rIretS (w := wD g) C hr hd h dX7_needs_32
  · replace h := iteF c2 h
    refine lv_iload hx hb dX7_needs_14 (lv_at hl 4 rfl) ?_
    refine lv_iconst (v := 3) hx hb dX7_needs_16 ic_3 ?_
    refine lv_icmp_gt (tgt := 31) hx hb dX7_needs_17 (by decide) (fun c3 => ?_) (fun c3 => ?_)
    · replace h := iteT c3 h
      refine lv_iconst (v := (-1 : Int32)) hx hb dX7_needs_31 ic_m1 ?_
      exact rIretS (w := wD g) C hr hd h dX7_needs_32
    · replace h := iteF c3 h
      refine lv_aload_n hx hb dX7_needs_20 rfl (lv_at hl 0 rfl) ?_
      refine gX7_31 C hd dX7_needs_21 ?_
      refine lv_iload_n hx hb dX7_needs_24 rfl (lv_at hl 3 rfl) ?_
      obtain ⟨r4, er4, h⟩ := cal_e h
      refine rCallI C hd (c_X3_isOnTheWay hE er4) kX7_351 4 rfl rfl rfl rfl hl.1 rfl (Nat.le_of_ble_eq_true rfl) ⟨(Nat.le_of_ble_eq_true rfl), (Nat.le_of_ble_eq_true rfl)⟩ ⟨Nat.le_refl _, Nat.le_refl _⟩ dX7_needs_25 (fun H locs hd => ?_)
      refine lv_if_ne (tgt := 33) hx hb dX7_needs_28 (by decide) (fun c5 => ?_) (fun c5 => ?_)
      · replace h := iteF c5 h
        refine lv_aload_n hx hb dX7_needs_33 rfl (lv_at hl 0 rfl) ?_
        refine gX7_31 C hd dX7_needs_34 ?_
        refine lv_iload_n hx hb dX7_needs_37 rfl (lv_at hl 3 rfl) ?_
        obtain ⟨r6, er6, h⟩ := cal_e h
        refine rCallI C hd (c_X3_neededTo hE er6) kX7_354 4 rfl rfl rfl rfl hl.1 rfl (Nat.le_of_ble_eq_true rfl) ⟨(Nat.le_of_ble_eq_true rfl), (Nat.le_of_ble_eq_true rfl)⟩ ⟨Nat.le_refl _, Nat.le_refl _⟩ dX7_needs_38 (fun H locs hd => ?_)
        refine lv_istore (lv' := [(5, .int r6), (0, .ref (ga g 0)), (1, .int x1), (2, .int x2), (3, .int x3), (4, .int x4)]) hx hb dX7_needs_41 hl (Nat.le_of_ble_eq_true rfl) rfl (fun ls hl => ?_)
        refine lv_iload hx hb dX7_needs_43 (lv_at hl 5 rfl) ?_
        refine lv_if_ne (tgt := 51) hx hb dX7_needs_45 (by decide) (fun c7 => ?_) (fun c7 => ?_)
        · replace h := iteF c7 h
          refine lv_iload hx hb dX7_needs_51 (lv_at hl 0 rfl) ?_
          refine lv_if_ne (tgt := 59) hx hb dX7_needs_53 (by decide) (fun c8 => ?_) (fun c8 => ?_)
          · replace h := iteF c8 h
            refine lv_iload hx hb dX7_needs_59 (lv_at hl 5 rfl) ?_
            refine lv_iconst (v := 1) hx hb dX7_needs_61 ic_1 ?_
            refine lv_icmp_ne (tgt := 73) hx hb dX7_needs_62 (by decide) (fun c9 => ?_) (fun c9 => ?_)
            · replace h := iteF c9 h
              refine lv_aload_n hx hb dX7_needs_73 rfl (lv_at hl 1 rfl) ?_
              refine gX7_20 C hd dX7_needs_74 ?_
              refine lv_iload hx hb dX7_needs_77 (lv_at hl 5 rfl) ?_
              refine lv_iconst (v := 2) hx hb dX7_needs_79 ic_2 ?_
              refine lv_icmp_ne (tgt := 93) hx hb dX7_needs_80 (by decide) (fun c10 => ?_) (fun c10 => ?_)
              · replace h := iteF c10 h
                refine lv_iload_n hx hb dX7_needs_93 rfl (lv_at hl 4 rfl) ?_
                obtain ⟨r11, er11, h⟩ := cal_e h
                refine rCallI C hd (c_X2_pieceHolding hE er11) kX7_297 2 rfl rfl rfl rfl hl.1 rfl (Nat.le_of_ble_eq_true rfl) ⟨(Nat.le_of_ble_eq_true rfl), (Nat.le_of_ble_eq_true rfl)⟩ ⟨Nat.le_refl _, Nat.le_refl _⟩ dX7_needs_94 (fun H locs hd => ?_)
                exact rIretS (w := wD g) C hr hd h dX7_needs_97
              · replace h := iteT c10 h
                refine lv_aload_n hx hb dX7_needs_83 rfl (lv_at hl 1 rfl) ?_
                refine gX7_31 C hd dX7_needs_84 ?_
                refine gX7_357 C hd dX7_needs_87 ?_
                refine lv_goto (tgt := 94) hx hb dX7_needs_90 (by decide) ?_
                obtain ⟨r12, er12, h⟩ := cal_e h
                refine rCallI C hd (c_X2_pieceHolding hE er12) kX7_297 2 rfl rfl rfl rfl hl.1 rfl (Nat.le_of_ble_eq_true rfl) ⟨(Nat.le_of_ble_eq_true rfl), (Nat.le_of_ble_eq_true rfl)⟩ ⟨Nat.le_refl _, Nat.le_refl _⟩ dX7_needs_94 (fun H locs hd => ?_)
                exact rIretS (w := wD g) C hr hd h dX7_needs_97
            · replace h := iteT c9 h
              refine lv_aload_n hx hb dX7_needs_65 rfl (lv_at hl 1 rfl) ?_
              refine gX7_31 C hd dX7_needs_66 ?_
              refine gX7_357 C hd dX7_needs_69 ?_
              exact rIretS (w := wD g) C hr hd h dX7_needs_72
          · replace h := iteT c8 h
            refine lv_bipush (v := (-2 : Int32)) hx hb dX7_needs_56 bi_m2 ?_
            exact rIretS (w := wD g) C hr hd h dX7_needs_58
        · replace h := iteT c7 h
          refine lv_iload hx hb dX7_needs_48 (lv_at hl 0 rfl) ?_
          exact rIretS (w := wD g) C hr hd h dX7_needs_50
      · replace h := iteT c5 h
        refine lv_iconst (v := (-1 : Int32)) hx hb dX7_needs_31 ic_m1 ?_
        exact rIretS (w := wD g) C hr hd h dX7_needs_32
noncomputable def f_X7_newest_60 (F : Nat) (k_18 : St → Int32 → Int32 → Int32 → Option (Int32 × St)) (σ : St) (x1 : Int32) (x2 : Int32) (x3 : Int32) : Option (Int32 × St) :=
  bnd (x3 + 1) (fun v1 => k_18 σ x1 x2 v1)
set_option maxRecDepth 100000 in
set_option maxHeartbeats 4000000 in
theorem w_X7_newest_60 {F : Nat} {r' : Int32} {σ' : St}  (C : Cx g p s m args meth c cX7_newest 4 RX7) (hr : meth.sig.returnType = some .int)
    {k_18 : St → Int32 → Int32 → Int32 → Option (Int32 × St)} (hk_18 : (∀ (σ : St) (x1 : Int32) (x2 : Int32) (x3 : Int32), k_18 σ x1 x2 x3 = some (r', σ') → ∀ (H : Heap) (locs : List Loc) (ls : Array Slot), Dy g (wD g σ ++ X) s H locs → lv_has ls 4 [(0, .ref (ga g 0)), (1, .int x1), (2, .int x2), (3, .int x3)] → W p l e (rmD 4) s m args below meth c H locs 0 0 (QI g below args s (wD g σ' ++ X) r') (F0 m 18 ls []))) :
    (∀ (σ : St) (x1 : Int32) (x2 : Int32) (x3 : Int32), f_X7_newest_60 F k_18 σ x1 x2 x3 = some (r', σ') → ∀ (H : Heap) (locs : List Loc) (ls : Array Slot), Dy g (wD g σ ++ X) s H locs → lv_has ls 4 [(0, .ref (ga g 0)), (1, .int x1), (2, .int x2), (3, .int x3)] → W p l e (rmD 4) s m args below meth c H locs 0 0 (QI g below args s (wD g σ' ++ X) r') (F0 m 60 ls [])) := by
  have hx := C.1
  have hb := C.2.1
  have hE := C.2.2.2.2.2.2.2.2
  intro σ x1 x2 x3 h H locs ls hd hl
  rw [f_X7_newest_60] at h
  obtain ⟨v1, ev1, h⟩ := bnd_e h
  refine lv_iinc (v := v1) (lv' := [(3, .int v1), (0, .ref (ga g 0)), (1, .int x1), (2, .int x2)]) hx hb dX7_newest_60 hl (k := 3) rfl ((ii_1 _).trans ev1.symm) (Nat.le_of_ble_eq_true rfl) rfl (fun ls hl => ?_)
  refine lv_goto (tgt := 18) hx hb dX7_newest_63 (by decide) ?_
  exact hk_18 σ x1 x2 v1 h _ _ _ hd (lv_sub hl [1, 2, 3, 0] rfl)
noncomputable def f_X7_newest_18 (F : Nat) : Nat → St → Int32 → Int32 → Int32 → Option (Int32 × St)
  | 0, _, _, _, _ => none
  | n + 1, σ, x1, x2, x3 => if (σ.1 8) ≤ x3 then (some (x2, σ)) else (cal (f_X3_aim F σ x3 x1) (fun t2 => cal (f_X3_placesReached F t2) (fun r3 => if r3 ≤ 0 then (f_X7_newest_60 F (f_X7_newest_18 F n) t2 x1 x2 x3) else (bnd (mx x2 (t2.1 15)) (fun v5 => f_X7_newest_60 F (f_X7_newest_18 F n) t2 x1 v5 x3)))))
set_option maxRecDepth 100000 in
set_option maxHeartbeats 4000000 in
theorem w_X7_newest_18 {F : Nat} {r' : Int32} {σ' : St}  (C : Cx g p s m args meth c cX7_newest 4 RX7) (hr : meth.sig.returnType = some .int) :
    (∀ (n : Nat) (σ : St) (x1 : Int32) (x2 : Int32) (x3 : Int32), f_X7_newest_18 F n σ x1 x2 x3 = some (r', σ') → ∀ (H : Heap) (locs : List Loc) (ls : Array Slot), Dy g (wD g σ ++ X) s H locs → lv_has ls 4 [(0, .ref (ga g 0)), (1, .int x1), (2, .int x2), (3, .int x3)] → W p l e (rmD 4) s m args below meth c H locs 0 0 (QI g below args s (wD g σ' ++ X) r') (F0 m 18 ls [])) := by
  have hx := C.1
  have hb := C.2.1
  have hE := C.2.2.2.2.2.2.2.2
  intro n
  induction n with
  | zero =>
    intro σ x1 x2 x3 h
    cases h
  | succ n ih =>
    intro σ x1 x2 x3 h H locs ls hd hl
    rw [f_X7_newest_18] at h
    refine lv_iload_n hx hb dX7_newest_18 rfl (lv_at hl 3 rfl) ?_
    refine lv_aload_n hx hb dX7_newest_19 rfl (lv_at hl 0 rfl) ?_
    refine gX7_25 C hd dX7_newest_20 ?_
    refine gX7_132 C hd dX7_newest_23 ?_
    refine lv_icmp_ge (tgt := 66) hx hb dX7_newest_26 (by decide) (fun c1 => ?_) (fun c1 => ?_)
    · replace h := iteT c1 h
      refine lv_iload_n hx hb dX7_newest_66 rfl (lv_at hl 2 rfl) ?_
      exact rIretS (w := wD g) C hr hd h dX7_newest_67
    · replace h := iteF c1 h
      refine lv_aload_n hx hb dX7_newest_29 rfl (lv_at hl 0 rfl) ?_
      refine gX7_31 C hd dX7_newest_30 ?_
      refine lv_iload_n hx hb dX7_newest_33 rfl (lv_at hl 3 rfl) ?_
      refine lv_iload_n hx hb dX7_newest_34 rfl (lv_at hl 1 rfl) ?_
      obtain ⟨t2, et2, h⟩ := cal_e h
      refine rCallV C hd (c_X3_aim hE et2) kX7_247 4 rfl rfl rfl rfl hl.1 rfl (Nat.le_of_ble_eq_true rfl) ⟨(Nat.le_of_ble_eq_true rfl), (Nat.le_of_ble_eq_true rfl)⟩ ⟨Nat.le_refl _, Nat.le_refl _⟩ dX7_newest_35 (fun H locs hd => ?_)
      refine lv_aload_n hx hb dX7_newest_38 rfl (lv_at hl 0 rfl) ?_
      refine gX7_31 C hd dX7_newest_39 ?_
      obtain ⟨r3, er3, h⟩ := cal_e h
      refine rCallI C hd (c_X3_placesReached hE er3) kX7_387 4 rfl rfl rfl rfl hl.1 rfl (Nat.le_of_ble_eq_true rfl) ⟨(Nat.le_of_ble_eq_true rfl), (Nat.le_of_ble_eq_true rfl)⟩ ⟨Nat.le_refl _, Nat.le_refl _⟩ dX7_newest_42 (fun H locs hd => ?_)
      refine lv_if_le (tgt := 60) hx hb dX7_newest_45 (by decide) (fun c4 => ?_) (fun c4 => ?_)
      · replace h := iteT c4 h
        exact w_X7_newest_60 C hr ih t2 x1 x2 x3 h _ _ _ hd (lv_sub hl [0, 1, 2, 3] rfl)
      · replace h := iteF c4 h
        refine lv_iload_n hx hb dX7_newest_48 rfl (lv_at hl 2 rfl) ?_
        refine lv_aload_n hx hb dX7_newest_49 rfl (lv_at hl 0 rfl) ?_
        refine gX7_31 C hd dX7_newest_50 ?_
        refine gX7_393 C hd dX7_newest_53 ?_
        refine rMax C hl.1 (mT 1209 (by decide +kernel)) (mT 467 (by decide +kernel)) (mT 14 (by decide +kernel)) (mT 468 (by decide +kernel)) ⟨(Nat.le_of_ble_eq_true rfl), (Nat.le_of_ble_eq_true rfl)⟩ ⟨Nat.le_refl _, Nat.le_refl _⟩ dX7_newest_56 ?_
        obtain ⟨v5, ev5, h⟩ := bnd_e h
        refine rTop ev5 ?_
        refine lv_istore_n (lv' := [(2, .int v5), (0, .ref (ga g 0)), (1, .int x1), (3, .int x3)]) hx hb dX7_newest_59 rfl hl (Nat.le_of_ble_eq_true rfl) rfl (fun ls hl => ?_)
        exact w_X7_newest_60 C hr ih t2 x1 v5 x3 h _ _ _ hd (lv_sub hl [1, 2, 0, 3] rfl)
noncomputable def f_X7_newest (F : Nat) (σ : St) (x1 : Int32) : Option (Int32 × St) :=
  cal (f_X2_hasLine F σ x1) (fun r1 => if r1 = 0 then (some ((-1 : Int32), σ)) else (f_X7_newest_18 F F σ x1 (-2 : Int32) 0))
set_option maxRecDepth 100000 in
set_option maxHeartbeats 4000000 in
theorem c_X7_newest {l : Launch} {g : Gp} {X : va_W} (hE : E0 g) {F : Nat} {r' : Int32} {σ' : St} {σ : St} {x1 : Int32} (h : f_X7_newest F σ x1 = some (r', σ')) : Ci l g yX7_newest cX7_newest 4 (some .int) 4 [.ref (ga g 0), .int x1] (wD g σ ++ X) r' (wD g σ' ++ X) := by
  refine rHead hE (by decide +kernel) (Nat.le_of_ble_eq_true rfl) (fun p e s m below meth c C hr _ hd ls hl => ?_)
  have hx := C.1
  have hb := C.2.1
  have hl : lv_has ls 4 [(0, .ref (ga g 0)), (1, .int x1)] := hl
  generalize ([.ref (ga g 0), .int x1] : List Value).toArray = args at C ⊢
  have C : Cx g p s m args meth c cX7_newest 4 RX7 := C
  rw [f_X7_newest] at h
  refine lv_aload_n hx hb dX7_newest_0 rfl (lv_at hl 0 rfl) ?_
  refine gX7_20 C hd dX7_newest_1 ?_
  refine lv_iload_n hx hb dX7_newest_4 rfl (lv_at hl 1 rfl) ?_
  obtain ⟨r1, er1, h⟩ := cal_e h
  refine rCallI C hd (c_X2_hasLine hE er1) kX7_282 2 rfl rfl rfl rfl hl.1 rfl (Nat.le_of_ble_eq_true rfl) ⟨(Nat.le_of_ble_eq_true rfl), (Nat.le_of_ble_eq_true rfl)⟩ ⟨Nat.le_refl _, Nat.le_refl _⟩ dX7_newest_5 (fun H locs hd => ?_)
  refine lv_if_ne (tgt := 13) hx hb dX7_newest_8 (by decide) (fun c2 => ?_) (fun c2 => ?_)
  · replace h := iteF c2 h
    refine lv_bipush (v := (-2 : Int32)) hx hb dX7_newest_13 bi_m2 ?_
    refine lv_istore_n (lv' := [(2, .int (-2 : Int32)), (0, .ref (ga g 0)), (1, .int x1)]) hx hb dX7_newest_15 rfl hl (Nat.le_of_ble_eq_true rfl) rfl (fun ls hl => ?_)
    refine lv_iconst (v := 0) hx hb dX7_newest_16 ic_0 ?_
    refine lv_istore_n (lv' := [(3, .int 0), (2, .int (-2 : Int32)), (0, .ref (ga g 0)), (1, .int x1)]) hx hb dX7_newest_17 rfl hl (Nat.le_of_ble_eq_true rfl) rfl (fun ls hl => ?_)
    exact w_X7_newest_18 C hr _ σ x1 (-2 : Int32) 0 h _ _ _ hd (lv_sub hl [2, 3, 1, 0] rfl)
  · replace h := iteT c2 h
    refine lv_iconst (v := (-1 : Int32)) hx hb dX7_newest_11 ic_m1 ?_
    exact rIretS (w := wD g) C hr hd h dX7_newest_12
noncomputable def f_X7_page (F : Nat) (σ : St) (x1 : Int32) (x2 : Int32) (x3 : Int32) : Option Int32 :=
  cal (f_X5_hasPage F σ x1) (fun r1 => if r1 = 0 then (some 0) else (cal (f_X2_hasPlace F σ x2 x3) (fun r3 => if r3 = 0 then (some 0) else (cal (f_X2_valueAs F σ x1 x2 x3) (fun r5 => some r5)))))
set_option maxRecDepth 100000 in
set_option maxHeartbeats 4000000 in
theorem c_X7_page {l : Launch} {g : Gp} {X : va_W} (hE : E0 g) {F : Nat} {r' : Int32} {σ : St} {x1 : Int32} {x2 : Int32} {x3 : Int32} (h : f_X7_page F σ x1 x2 x3 = some r') : Ci l g yX7_page cX7_page 4 (some .int) 3 [.ref (ga g 0), .int x1, .int x2, .int x3] (wD g σ ++ X) r' (wD g σ ++ X) := by
  refine rHead hE (by decide +kernel) (Nat.le_of_ble_eq_true rfl) (fun p e s m below meth c C hr _ hd ls hl => ?_)
  have hx := C.1
  have hb := C.2.1
  have hl : lv_has ls 4 [(0, .ref (ga g 0)), (1, .int x1), (2, .int x2), (3, .int x3)] := hl
  generalize ([.ref (ga g 0), .int x1, .int x2, .int x3] : List Value).toArray = args at C ⊢
  have C : Cx g p s m args meth c cX7_page 4 RX7 := C
  rw [f_X7_page] at h
  refine lv_aload_n hx hb dX7_page_0 rfl (lv_at hl 0 rfl) ?_
  refine gX7_10 C hd dX7_page_1 ?_
  refine lv_iload_n hx hb dX7_page_4 rfl (lv_at hl 1 rfl) ?_
  obtain ⟨r1, er1, h⟩ := cal_e h
  refine rCallI C hd (c_X5_hasPage hE er1) kX7_192 1 rfl rfl rfl rfl hl.1 rfl (Nat.le_of_ble_eq_true rfl) ⟨(Nat.le_of_ble_eq_true rfl), (Nat.le_of_ble_eq_true rfl)⟩ ⟨Nat.le_refl _, Nat.le_refl _⟩ dX7_page_5 (fun H locs hd => ?_)
  refine lv_if_eq (tgt := 23) hx hb dX7_page_8 (by decide) (fun c2 => ?_) (fun c2 => ?_)
  · replace h := iteT c2 h
    refine lv_iconst (v := 0) hx hb dX7_page_23 ic_0 ?_
    exact rIretP C hr hd h dX7_page_24
  · replace h := iteF c2 h
    refine lv_aload_n hx hb dX7_page_11 rfl (lv_at hl 0 rfl) ?_
    refine gX7_20 C hd dX7_page_12 ?_
    refine lv_iload_n hx hb dX7_page_15 rfl (lv_at hl 2 rfl) ?_
    refine lv_iload_n hx hb dX7_page_16 rfl (lv_at hl 3 rfl) ?_
    obtain ⟨r3, er3, h⟩ := cal_e h
    refine rCallI C hd (c_X2_hasPlace hE er3) kX7_263 2 rfl rfl rfl rfl hl.1 rfl (Nat.le_of_ble_eq_true rfl) ⟨(Nat.le_of_ble_eq_true rfl), (Nat.le_of_ble_eq_true rfl)⟩ ⟨Nat.le_refl _, Nat.le_refl _⟩ dX7_page_17 (fun H locs hd => ?_)
    refine lv_if_ne (tgt := 25) hx hb dX7_page_20 (by decide) (fun c4 => ?_) (fun c4 => ?_)
    · replace h := iteF c4 h
      refine lv_aload_n hx hb dX7_page_25 rfl (lv_at hl 0 rfl) ?_
      refine gX7_20 C hd dX7_page_26 ?_
      refine lv_iload_n hx hb dX7_page_29 rfl (lv_at hl 1 rfl) ?_
      refine lv_iload_n hx hb dX7_page_30 rfl (lv_at hl 2 rfl) ?_
      refine lv_iload_n hx hb dX7_page_31 rfl (lv_at hl 3 rfl) ?_
      obtain ⟨r5, er5, h⟩ := cal_e h
      refine rCallI C hd (c_X2_valueAs hE er5) kX7_215 2 rfl rfl rfl rfl hl.1 rfl (Nat.le_of_ble_eq_true rfl) ⟨(Nat.le_of_ble_eq_true rfl), (Nat.le_of_ble_eq_true rfl)⟩ ⟨Nat.le_refl _, Nat.le_refl _⟩ dX7_page_32 (fun H locs hd => ?_)
      exact rIretP C hr hd h dX7_page_35
    · replace h := iteT c4 h
      refine lv_iconst (v := 0) hx hb dX7_page_23 ic_0 ?_
      exact rIretP C hr hd h dX7_page_24
noncomputable def f_X7_write (F : Nat) (σ : St) (x1 : Int32) (x2 : Int32) : Option (Int32 × St) :=
  cal (f_X5_hasPage F σ x1) (fun r1 => if r1 = 0 then (some ((-1 : Int32), σ)) else (cal2 (f_X2_come F σ 0 x1 x2) (fun r3 t4 => some (r3, t4))))
set_option maxRecDepth 100000 in
set_option maxHeartbeats 4000000 in
theorem c_X7_write {l : Launch} {g : Gp} {X : va_W} (hE : E0 g) {F : Nat} {r' : Int32} {σ' : St} {σ : St} {x1 : Int32} {x2 : Int32} (h : f_X7_write F σ x1 x2 = some (r', σ')) : Ci l g yX7_write cX7_write 3 (some .int) 3 [.ref (ga g 0), .int x1, .int x2] (wD g σ ++ X) r' (wD g σ' ++ X) := by
  refine rHead hE (by decide +kernel) (Nat.le_of_ble_eq_true rfl) (fun p e s m below meth c C hr _ hd ls hl => ?_)
  have hx := C.1
  have hb := C.2.1
  have hl : lv_has ls 3 [(0, .ref (ga g 0)), (1, .int x1), (2, .int x2)] := hl
  generalize ([.ref (ga g 0), .int x1, .int x2] : List Value).toArray = args at C ⊢
  have C : Cx g p s m args meth c cX7_write 3 RX7 := C
  rw [f_X7_write] at h
  refine lv_aload_n hx hb dX7_write_0 rfl (lv_at hl 0 rfl) ?_
  refine gX7_10 C hd dX7_write_1 ?_
  refine lv_iload_n hx hb dX7_write_4 rfl (lv_at hl 1 rfl) ?_
  obtain ⟨r1, er1, h⟩ := cal_e h
  refine rCallI C hd (c_X5_hasPage hE er1) kX7_192 1 rfl rfl rfl rfl hl.1 rfl (Nat.le_of_ble_eq_true rfl) ⟨(Nat.le_of_ble_eq_true rfl), (Nat.le_of_ble_eq_true rfl)⟩ ⟨Nat.le_refl _, Nat.le_refl _⟩ dX7_write_5 (fun H locs hd => ?_)
  refine lv_if_eq (tgt := 24) hx hb dX7_write_8 (by decide) (fun c2 => ?_) (fun c2 => ?_)
  · replace h := iteT c2 h
    refine lv_iconst (v := (-1 : Int32)) hx hb dX7_write_24 ic_m1 ?_
    exact rIretS (w := wD g) C hr hd h dX7_write_25
  · replace h := iteF c2 h
    refine lv_aload_n hx hb dX7_write_11 rfl (lv_at hl 0 rfl) ?_
    refine gX7_20 C hd dX7_write_12 ?_
    refine lv_iconst (v := 0) hx hb dX7_write_15 ic_0 ?_
    refine lv_iload_n hx hb dX7_write_16 rfl (lv_at hl 1 rfl) ?_
    refine lv_iload_n hx hb dX7_write_17 rfl (lv_at hl 2 rfl) ?_
    obtain ⟨r3, t4, et4, h⟩ := cal2_e h
    refine rCallI C hd (c_X2_come hE et4) kX7_195 2 rfl rfl rfl rfl hl.1 rfl (Nat.le_of_ble_eq_true rfl) ⟨(Nat.le_of_ble_eq_true rfl), (Nat.le_of_ble_eq_true rfl)⟩ ⟨Nat.le_refl _, Nat.le_refl _⟩ dX7_write_18 (fun H locs hd => ?_)
    refine lv_goto (tgt := 25) hx hb dX7_write_21 (by decide) ?_
    exact rIretS (w := wD g) C hr hd h dX7_write_25
noncomputable def f_X7_take (F : Nat) (σ : St) (x1 : Int32) (x2 : Int32) : Option (Int32 × St) :=
  cal (f_X2_going F σ) (fun r1 => cal (f_X0_isOpen F σ x1) (fun r2 => if r2 = 0 then (some (0, σ)) else (cal (f_X0_lineOf F σ x1) (fun r4 => if r4 = r1 then (cal (f_X5_hasPage F σ x2) (fun r6 => if r6 = 0 then (some (0, σ)) else (cal (f_X2_now F σ) (fun r8 => cal (f_X2_valueAs F σ x2 r1 r8) (fun r9 => cal (f_X0_put F σ x1 x2 r1 r8 r9) (fun t10 => some (1, t10))))))) else (some (0, σ))))))
set_option maxRecDepth 100000 in
set_option maxHeartbeats 4000000 in
theorem c_X7_take {l : Launch} {g : Gp} {X : va_W} (hE : E0 g) {F : Nat} {r' : Int32} {σ' : St} {σ : St} {x1 : Int32} {x2 : Int32} (h : f_X7_take F σ x1 x2 = some (r', σ')) : Ci l g yX7_take cX7_take 5 (some .boolean) 3 [.ref (ga g 0), .int x1, .int x2] (wD g σ ++ X) r' (wD g σ' ++ X) := by
  refine rHead hE (by decide +kernel) (Nat.le_of_ble_eq_true rfl) (fun p e s m below meth c C hr _ hd ls hl => ?_)
  have hx := C.1
  have hb := C.2.1
  have hl : lv_has ls 5 [(0, .ref (ga g 0)), (1, .int x1), (2, .int x2)] := hl
  generalize ([.ref (ga g 0), .int x1, .int x2] : List Value).toArray = args at C ⊢
  have C : Cx g p s m args meth c cX7_take 5 RX7 := C
  rw [f_X7_take] at h
  refine lv_aload_n hx hb dX7_take_0 rfl (lv_at hl 0 rfl) ?_
  refine gX7_20 C hd dX7_take_1 ?_
  obtain ⟨r1, er1, h⟩ := cal_e h
  refine rCallI C hd (c_X2_going hE er1) kX7_129 2 rfl rfl rfl rfl hl.1 rfl (Nat.le_of_ble_eq_true rfl) ⟨(Nat.le_of_ble_eq_true rfl), (Nat.le_of_ble_eq_true rfl)⟩ ⟨Nat.le_refl _, Nat.le_refl _⟩ dX7_take_4 (fun H locs hd => ?_)
  refine lv_istore_n (lv' := [(3, .int r1), (0, .ref (ga g 0)), (1, .int x1), (2, .int x2)]) hx hb dX7_take_7 rfl hl (Nat.le_of_ble_eq_true rfl) rfl (fun ls hl => ?_)
  refine lv_aload_n hx hb dX7_take_8 rfl (lv_at hl 1 rfl) ?_
  refine gX7_25 C hd dX7_take_9 ?_
  refine lv_iload_n hx hb dX7_take_12 rfl (lv_at hl 2 rfl) ?_
  obtain ⟨r2, er2, h⟩ := cal_e h
  refine rCallI C hd (c_X0_isOpen hE er2) kX7_209 3 rfl rfl rfl rfl hl.1 rfl (Nat.le_of_ble_eq_true rfl) ⟨(Nat.le_of_ble_eq_true rfl), (Nat.le_of_ble_eq_true rfl)⟩ ⟨Nat.le_refl _, Nat.le_refl _⟩ dX7_take_13 (fun H locs hd => ?_)
  refine lv_if_eq (tgt := 42) hx hb dX7_take_16 (by decide) (fun c3 => ?_) (fun c3 => ?_)
  · replace h := iteT c3 h
    refine lv_iconst (v := 0) hx hb dX7_take_42 ic_0 ?_
    exact rZretS (w := wD g) C hr hd h (by decide) dX7_take_43
  · replace h := iteF c3 h
    refine lv_aload_n hx hb dX7_take_19 rfl (lv_at hl 1 rfl) ?_
    refine gX7_25 C hd dX7_take_20 ?_
    refine lv_iload_n hx hb dX7_take_23 rfl (lv_at hl 2 rfl) ?_
    obtain ⟨r4, er4, h⟩ := cal_e h
    refine rCallI C hd (c_X0_lineOf hE er4) kX7_212 3 rfl rfl rfl rfl hl.1 rfl (Nat.le_of_ble_eq_true rfl) ⟨(Nat.le_of_ble_eq_true rfl), (Nat.le_of_ble_eq_true rfl)⟩ ⟨Nat.le_refl _, Nat.le_refl _⟩ dX7_take_24 (fun H locs hd => ?_)
    refine lv_iload_n hx hb dX7_take_27 rfl (lv_at hl 0 rfl) ?_
    refine lv_icmp_ne (tgt := 42) hx hb dX7_take_28 (by decide) (fun c5 => ?_) (fun c5 => ?_)
    · replace h := iteF c5 h
      refine lv_iconst (v := 0) hx hb dX7_take_42 ic_0 ?_
      exact rZretS (w := wD g) C hr hd h (by decide) dX7_take_43
    · replace h := iteT c5 h
      refine lv_aload_n hx hb dX7_take_31 rfl (lv_at hl 1 rfl) ?_
      refine gX7_10 C hd dX7_take_32 ?_
      refine lv_iload_n hx hb dX7_take_35 rfl (lv_at hl 3 rfl) ?_
      obtain ⟨r6, er6, h⟩ := cal_e h
      refine rCallI C hd (c_X5_hasPage hE er6) kX7_192 1 rfl rfl rfl rfl hl.1 rfl (Nat.le_of_ble_eq_true rfl) ⟨(Nat.le_of_ble_eq_true rfl), (Nat.le_of_ble_eq_true rfl)⟩ ⟨Nat.le_refl _, Nat.le_refl _⟩ dX7_take_36 (fun H locs hd => ?_)
      refine lv_if_ne (tgt := 44) hx hb dX7_take_39 (by decide) (fun c7 => ?_) (fun c7 => ?_)
      · replace h := iteF c7 h
        refine lv_aload_n hx hb dX7_take_44 rfl (lv_at hl 1 rfl) ?_
        refine gX7_20 C hd dX7_take_45 ?_
        obtain ⟨r8, er8, h⟩ := cal_e h
        refine rCallI C hd (c_X2_now hE er8) kX7_123 2 rfl rfl rfl rfl hl.1 rfl (Nat.le_of_ble_eq_true rfl) ⟨(Nat.le_of_ble_eq_true rfl), (Nat.le_of_ble_eq_true rfl)⟩ ⟨Nat.le_refl _, Nat.le_refl _⟩ dX7_take_48 (fun H locs hd => ?_)
        refine lv_istore (lv' := [(4, .int r8), (3, .int r1), (0, .ref (ga g 0)), (1, .int x1), (2, .int x2)]) hx hb dX7_take_51 hl (Nat.le_of_ble_eq_true rfl) rfl (fun ls hl => ?_)
        refine lv_aload_n hx hb dX7_take_53 rfl (lv_at hl 2 rfl) ?_
        refine gX7_25 C hd dX7_take_54 ?_
        refine lv_iload_n hx hb dX7_take_57 rfl (lv_at hl 3 rfl) ?_
        refine lv_iload_n hx hb dX7_take_58 rfl (lv_at hl 4 rfl) ?_
        refine lv_iload_n hx hb dX7_take_59 rfl (lv_at hl 1 rfl) ?_
        refine lv_iload hx hb dX7_take_60 (lv_at hl 0 rfl) ?_
        refine lv_aload_n hx hb dX7_take_62 rfl (lv_at hl 2 rfl) ?_
        refine gX7_20 C hd dX7_take_63 ?_
        refine lv_iload_n hx hb dX7_take_66 rfl (lv_at hl 4 rfl) ?_
        refine lv_iload_n hx hb dX7_take_67 rfl (lv_at hl 1 rfl) ?_
        refine lv_iload hx hb dX7_take_68 (lv_at hl 0 rfl) ?_
        obtain ⟨r9, er9, h⟩ := cal_e h
        refine rCallI C hd (c_X2_valueAs hE er9) kX7_215 2 rfl rfl rfl rfl hl.1 rfl (Nat.le_of_ble_eq_true rfl) ⟨(Nat.le_of_ble_eq_true rfl), (Nat.le_of_ble_eq_true rfl)⟩ ⟨Nat.le_refl _, Nat.le_refl _⟩ dX7_take_70 (fun H locs hd => ?_)
        obtain ⟨t10, et10, h⟩ := cal_e h
        refine rCallV C hd (c_X0_put hE et10) kX7_218 3 rfl rfl rfl rfl hl.1 rfl (Nat.le_of_ble_eq_true rfl) ⟨(Nat.le_of_ble_eq_true rfl), (Nat.le_of_ble_eq_true rfl)⟩ ⟨Nat.le_refl _, Nat.le_refl _⟩ dX7_take_73 (fun H locs hd => ?_)
        refine lv_iconst (v := 1) hx hb dX7_take_76 ic_1 ?_
        exact rZretS (w := wD g) C hr hd h (by decide) dX7_take_77
      · replace h := iteT c7 h
        refine lv_iconst (v := 0) hx hb dX7_take_42 ic_0 ?_
        exact rZretS (w := wD g) C hr hd h (by decide) dX7_take_43
noncomputable def f_X7_restore (F : Nat) (σ : St) (x1 : Int32) (x2 : Int32) (x3 : Int32) : Option (Int32 × St) :=
  if (σ.1 6) < 8 then (cal (f_X3_aim F σ x1 x2) (fun t2 => cal (f_X3_outcomeAt F t2 x3) (fun r3 => if r3 = 0 then (cal (f_X2_branch F t2 x2 x3) (fun t5 => some (r3, t5))) else (some (r3, t2))))) else (some (1, σ))
set_option maxRecDepth 100000 in
set_option maxHeartbeats 4000000 in
theorem c_X7_restore {l : Launch} {g : Gp} {X : va_W} (hE : E0 g) {F : Nat} {r' : Int32} {σ' : St} {σ : St} {x1 : Int32} {x2 : Int32} {x3 : Int32} (h : f_X7_restore F σ x1 x2 x3 = some (r', σ')) : Ci l g yX7_restore cX7_restore 5 (some .int) 4 [.ref (ga g 0), .int x1, .int x2, .int x3] (wD g σ ++ X) r' (wD g σ' ++ X) := by
  refine rHead hE (by decide +kernel) (Nat.le_of_ble_eq_true rfl) (fun p e s m below meth c C hr _ hd ls hl => ?_)
  have hx := C.1
  have hb := C.2.1
  have hl : lv_has ls 5 [(0, .ref (ga g 0)), (1, .int x1), (2, .int x2), (3, .int x3)] := hl
  generalize ([.ref (ga g 0), .int x1, .int x2, .int x3] : List Value).toArray = args at C ⊢
  have C : Cx g p s m args meth c cX7_restore 5 RX7 := C
  rw [f_X7_restore] at h
  refine lv_aload_n hx hb dX7_restore_0 rfl (lv_at hl 0 rfl) ?_
  refine gX7_20 C hd dX7_restore_1 ?_
  refine gX7_244 C hd dX7_restore_4 ?_
  refine lv_bipush (v := 8) hx hb dX7_restore_7 bi_8 ?_
  refine lv_icmp_lt (tgt := 14) hx hb dX7_restore_9 (by decide) (fun c1 => ?_) (fun c1 => ?_)
  · replace h := iteT c1 h
    refine lv_aload_n hx hb dX7_restore_14 rfl (lv_at hl 0 rfl) ?_
    refine gX7_31 C hd dX7_restore_15 ?_
    refine lv_iload_n hx hb dX7_restore_18 rfl (lv_at hl 1 rfl) ?_
    refine lv_iload_n hx hb dX7_restore_19 rfl (lv_at hl 2 rfl) ?_
    obtain ⟨t2, et2, h⟩ := cal_e h
    refine rCallV C hd (c_X3_aim hE et2) kX7_247 4 rfl rfl rfl rfl hl.1 rfl (Nat.le_of_ble_eq_true rfl) ⟨(Nat.le_of_ble_eq_true rfl), (Nat.le_of_ble_eq_true rfl)⟩ ⟨Nat.le_refl _, Nat.le_refl _⟩ dX7_restore_20 (fun H locs hd => ?_)
    refine lv_aload_n hx hb dX7_restore_23 rfl (lv_at hl 0 rfl) ?_
    refine gX7_31 C hd dX7_restore_24 ?_
    refine lv_iload_n hx hb dX7_restore_27 rfl (lv_at hl 3 rfl) ?_
    obtain ⟨r3, er3, h⟩ := cal_e h
    refine rCallI C hd (c_X3_outcomeAt hE er3) kX7_250 4 rfl rfl rfl rfl hl.1 rfl (Nat.le_of_ble_eq_true rfl) ⟨(Nat.le_of_ble_eq_true rfl), (Nat.le_of_ble_eq_true rfl)⟩ ⟨Nat.le_refl _, Nat.le_refl _⟩ dX7_restore_28 (fun H locs hd => ?_)
    refine lv_istore (lv' := [(4, .int r3), (0, .ref (ga g 0)), (1, .int x1), (2, .int x2), (3, .int x3)]) hx hb dX7_restore_31 hl (Nat.le_of_ble_eq_true rfl) rfl (fun ls hl => ?_)
    refine lv_iload hx hb dX7_restore_33 (lv_at hl 0 rfl) ?_
    refine lv_if_ne (tgt := 47) hx hb dX7_restore_35 (by decide) (fun c4 => ?_) (fun c4 => ?_)
    · replace h := iteF c4 h
      refine lv_iload hx hb dX7_restore_47 (lv_at hl 0 rfl) ?_
      exact rIretS (w := wD g) C hr hd h dX7_restore_49
    · replace h := iteT c4 h
      refine lv_aload_n hx hb dX7_restore_38 rfl (lv_at hl 1 rfl) ?_
      refine gX7_20 C hd dX7_restore_39 ?_
      refine lv_iload_n hx hb dX7_restore_42 rfl (lv_at hl 3 rfl) ?_
      refine lv_iload_n hx hb dX7_restore_43 rfl (lv_at hl 4 rfl) ?_
      obtain ⟨t5, et5, h⟩ := cal_e h
      refine rCallV C hd (c_X2_branch hE et5) kX7_253 2 rfl rfl rfl rfl hl.1 rfl (Nat.le_of_ble_eq_true rfl) ⟨(Nat.le_of_ble_eq_true rfl), (Nat.le_of_ble_eq_true rfl)⟩ ⟨Nat.le_refl _, Nat.le_refl _⟩ dX7_restore_44 (fun H locs hd => ?_)
      refine lv_iload hx hb dX7_restore_47 (lv_at hl 0 rfl) ?_
      exact rIretS (w := wD g) C hr hd h dX7_restore_49
  · replace h := iteF c1 h
    refine lv_iconst (v := 1) hx hb dX7_restore_12 ic_1 ?_
    exact rIretS (w := wD g) C hr hd h dX7_restore_13
noncomputable def f_X7_tell (F : Nat) (σ : St) (x1 : Int32) (x2 : Int32) (x3 : Int32) (x4 : Int32) : Option (Int32 × St) :=
  if x1 = 2 then (cal2 (f_X7_write F σ x2 x3) (fun r2 t3 => some (r2, t3))) else (if x1 = 3 then (cal2 (f_X7_add F σ x2 x3) (fun r5 t6 => some (r5, t6))) else (if x1 = 4 then (cal2 (f_X7_mark F σ x2) (fun r8 t9 => some (r8, t9))) else (if x1 = 5 then (cal2 (f_X7_fill F σ) (fun r11 t12 => some (r11, t12))) else (if x1 = 6 then (cal2 (f_X7_copy F σ (-1 : Int32)) (fun r14 t15 => some (r14, t15))) else (if x1 = 7 then (cal2 (f_X7_copy F σ x2) (fun r17 t18 => some (r17, t18))) else (if x1 = 8 then (cal2 (f_X7_take F σ x2 x3) (fun r20 t21 => if r20 = 0 then (some (0, t21)) else (some (1, t21)))) else (if x1 = 9 then (cal2 (f_X7_close F σ x2) (fun r24 t25 => if r24 = 0 then (some (0, t25)) else (some (1, t25)))) else (if x1 = 10 then (cal2 (f_X7_restore F σ x2 x3 x4) (fun r28 t29 => some (r28, t29))) else (if x1 = 11 then (cal2 (f_X7_lose F σ x2 x3) (fun r31 t32 => if r31 = 0 then (some (0, t32)) else (some (1, t32)))) else (some (0, σ)))))))))))
set_option maxRecDepth 100000 in
set_option maxHeartbeats 4000000 in
theorem c_X7_tell {l : Launch} {g : Gp} {X : va_W} (hE : E0 g) {F : Nat} {r' : Int32} {σ' : St} {σ : St} {x1 : Int32} {x2 : Int32} {x3 : Int32} {x4 : Int32} (h : f_X7_tell F σ x1 x2 x3 x4 = some (r', σ')) : Ci l g yX7_tell cX7_tell 5 (some .int) 5 [.ref (ga g 0), .int x1, .int x2, .int x3, .int x4] (wD g σ ++ X) r' (wD g σ' ++ X) := by
  refine rHead hE (by decide +kernel) (Nat.le_of_ble_eq_true rfl) (fun p e s m below meth c C hr _ hd ls hl => ?_)
  have hx := C.1
  have hb := C.2.1
  have hl : lv_has ls 5 [(0, .ref (ga g 0)), (1, .int x1), (2, .int x2), (3, .int x3), (4, .int x4)] := hl
  generalize ([.ref (ga g 0), .int x1, .int x2, .int x3, .int x4] : List Value).toArray = args at C ⊢
  have C : Cx g p s m args meth c cX7_tell 5 RX7 := C
  rw [f_X7_tell] at h
  refine lv_iload_n hx hb dX7_tell_0 rfl (lv_at hl 1 rfl) ?_
  by_cases c1 : x1 = 2
  · replace h := iteT c1 h
    refine rTop c1.symm ?_
    refine lv_tableIn (off := 55) (tgt := 56) hx hb dX7_tell_1 (by decide) (by decide) (by decide) (by decide) ?_
    refine lv_aload_n hx hb dX7_tell_56 rfl (lv_at hl 0 rfl) ?_
    refine lv_iload_n hx hb dX7_tell_57 rfl (lv_at hl 2 rfl) ?_
    refine lv_iload_n hx hb dX7_tell_58 rfl (lv_at hl 3 rfl) ?_
    obtain ⟨r2, t3, et3, h⟩ := cal2_e h
    refine rCallI C hd (c_X7_write hE et3) kX7_161 0 rfl rfl rfl rfl hl.1 rfl (Nat.le_of_ble_eq_true rfl) ⟨(Nat.le_of_ble_eq_true rfl), (Nat.le_of_ble_eq_true rfl)⟩ ⟨Nat.le_refl _, Nat.le_refl _⟩ dX7_tell_59 (fun H locs hd => ?_)
    exact rIretS (w := wD g) C hr hd h dX7_tell_62
  · replace h := iteF c1 h
    by_cases c4 : x1 = 3
    · replace h := iteT c4 h
      refine rTop c4.symm ?_
      refine lv_tableIn (off := 62) (tgt := 63) hx hb dX7_tell_1 (by decide) (by decide) (by decide) (by decide) ?_
      refine lv_aload_n hx hb dX7_tell_63 rfl (lv_at hl 0 rfl) ?_
      refine lv_iload_n hx hb dX7_tell_64 rfl (lv_at hl 2 rfl) ?_
      refine lv_iload_n hx hb dX7_tell_65 rfl (lv_at hl 3 rfl) ?_
      obtain ⟨r5, t6, et6, h⟩ := cal2_e h
      refine rCallI C hd (c_X7_add hE et6) kX7_165 0 rfl rfl rfl rfl hl.1 rfl (Nat.le_of_ble_eq_true rfl) ⟨(Nat.le_of_ble_eq_true rfl), (Nat.le_of_ble_eq_true rfl)⟩ ⟨Nat.le_refl _, Nat.le_refl _⟩ dX7_tell_66 (fun H locs hd => ?_)
      exact rIretS (w := wD g) C hr hd h dX7_tell_69
    · replace h := iteF c4 h
      by_cases c7 : x1 = 4
      · replace h := iteT c7 h
        refine rTop c7.symm ?_
        refine lv_tableIn (off := 69) (tgt := 70) hx hb dX7_tell_1 (by decide) (by decide) (by decide) (by decide) ?_
        refine lv_aload_n hx hb dX7_tell_70 rfl (lv_at hl 0 rfl) ?_
        refine lv_iload_n hx hb dX7_tell_71 rfl (lv_at hl 2 rfl) ?_
        obtain ⟨r8, t9, et9, h⟩ := cal2_e h
        refine rCallI C hd (c_X7_mark hE et9) kX7_168 0 rfl rfl rfl rfl hl.1 rfl (Nat.le_of_ble_eq_true rfl) ⟨(Nat.le_of_ble_eq_true rfl), (Nat.le_of_ble_eq_true rfl)⟩ ⟨Nat.le_refl _, Nat.le_refl _⟩ dX7_tell_72 (fun H locs hd => ?_)
        exact rIretS (w := wD g) C hr hd h dX7_tell_75
      · replace h := iteF c7 h
        by_cases c10 : x1 = 5
        · replace h := iteT c10 h
          refine rTop c10.symm ?_
          refine lv_tableIn (off := 75) (tgt := 76) hx hb dX7_tell_1 (by decide) (by decide) (by decide) (by decide) ?_
          refine lv_aload_n hx hb dX7_tell_76 rfl (lv_at hl 0 rfl) ?_
          obtain ⟨r11, t12, et12, h⟩ := cal2_e h
          refine rCallI C hd (c_X7_fill hE et12) kX7_172 0 rfl rfl rfl rfl hl.1 rfl (Nat.le_of_ble_eq_true rfl) ⟨(Nat.le_of_ble_eq_true rfl), (Nat.le_of_ble_eq_true rfl)⟩ ⟨Nat.le_refl _, Nat.le_refl _⟩ dX7_tell_77 (fun H locs hd => ?_)
          exact rIretS (w := wD g) C hr hd h dX7_tell_80
        · replace h := iteF c10 h
          by_cases c13 : x1 = 6
          · replace h := iteT c13 h
            refine rTop c13.symm ?_
            refine lv_tableIn (off := 80) (tgt := 81) hx hb dX7_tell_1 (by decide) (by decide) (by decide) (by decide) ?_
            refine lv_aload_n hx hb dX7_tell_81 rfl (lv_at hl 0 rfl) ?_
            refine lv_iconst (v := (-1 : Int32)) hx hb dX7_tell_82 ic_m1 ?_
            obtain ⟨r14, t15, et15, h⟩ := cal2_e h
            refine rCallI C hd (c_X7_copy hE et15) kX7_175 0 rfl rfl rfl rfl hl.1 rfl (Nat.le_of_ble_eq_true rfl) ⟨(Nat.le_of_ble_eq_true rfl), (Nat.le_of_ble_eq_true rfl)⟩ ⟨Nat.le_refl _, Nat.le_refl _⟩ dX7_tell_83 (fun H locs hd => ?_)
            exact rIretS (w := wD g) C hr hd h dX7_tell_86
          · replace h := iteF c13 h
            by_cases c16 : x1 = 7
            · replace h := iteT c16 h
              refine rTop c16.symm ?_
              refine lv_tableIn (off := 86) (tgt := 87) hx hb dX7_tell_1 (by decide) (by decide) (by decide) (by decide) ?_
              refine lv_aload_n hx hb dX7_tell_87 rfl (lv_at hl 0 rfl) ?_
              refine lv_iload_n hx hb dX7_tell_88 rfl (lv_at hl 2 rfl) ?_
              obtain ⟨r17, t18, et18, h⟩ := cal2_e h
              refine rCallI C hd (c_X7_copy hE et18) kX7_175 0 rfl rfl rfl rfl hl.1 rfl (Nat.le_of_ble_eq_true rfl) ⟨(Nat.le_of_ble_eq_true rfl), (Nat.le_of_ble_eq_true rfl)⟩ ⟨Nat.le_refl _, Nat.le_refl _⟩ dX7_tell_89 (fun H locs hd => ?_)
              exact rIretS (w := wD g) C hr hd h dX7_tell_92
            · replace h := iteF c16 h
              by_cases c19 : x1 = 8
              · replace h := iteT c19 h
                refine rTop c19.symm ?_
                refine lv_tableIn (off := 92) (tgt := 93) hx hb dX7_tell_1 (by decide) (by decide) (by decide) (by decide) ?_
                refine lv_aload_n hx hb dX7_tell_93 rfl (lv_at hl 0 rfl) ?_
                refine lv_iload_n hx hb dX7_tell_94 rfl (lv_at hl 2 rfl) ?_
                refine lv_iload_n hx hb dX7_tell_95 rfl (lv_at hl 3 rfl) ?_
                obtain ⟨r20, t21, et21, h⟩ := cal2_e h
                refine rCallI C hd (c_X7_take hE et21) kX7_178 0 rfl rfl rfl rfl hl.1 rfl (Nat.le_of_ble_eq_true rfl) ⟨(Nat.le_of_ble_eq_true rfl), (Nat.le_of_ble_eq_true rfl)⟩ ⟨Nat.le_refl _, Nat.le_refl _⟩ dX7_tell_96 (fun H locs hd => ?_)
                refine lv_if_eq (tgt := 106) hx hb dX7_tell_99 (by decide) (fun c22 => ?_) (fun c22 => ?_)
                · replace h := iteT c22 h
                  refine lv_iconst (v := 0) hx hb dX7_tell_106 ic_0 ?_
                  exact rIretS (w := wD g) C hr hd h dX7_tell_107
                · replace h := iteF c22 h
                  refine lv_iconst (v := 1) hx hb dX7_tell_102 ic_1 ?_
                  refine lv_goto (tgt := 107) hx hb dX7_tell_103 (by decide) ?_
                  exact rIretS (w := wD g) C hr hd h dX7_tell_107
              · replace h := iteF c19 h
                by_cases c23 : x1 = 9
                · replace h := iteT c23 h
                  refine rTop c23.symm ?_
                  refine lv_tableIn (off := 107) (tgt := 108) hx hb dX7_tell_1 (by decide) (by decide) (by decide) (by decide) ?_
                  refine lv_aload_n hx hb dX7_tell_108 rfl (lv_at hl 0 rfl) ?_
                  refine lv_iload_n hx hb dX7_tell_109 rfl (lv_at hl 2 rfl) ?_
                  obtain ⟨r24, t25, et25, h⟩ := cal2_e h
                  refine rCallI C hd (c_X7_close hE et25) kX7_182 0 rfl rfl rfl rfl hl.1 rfl (Nat.le_of_ble_eq_true rfl) ⟨(Nat.le_of_ble_eq_true rfl), (Nat.le_of_ble_eq_true rfl)⟩ ⟨Nat.le_refl _, Nat.le_refl _⟩ dX7_tell_110 (fun H locs hd => ?_)
                  refine lv_if_eq (tgt := 120) hx hb dX7_tell_113 (by decide) (fun c26 => ?_) (fun c26 => ?_)
                  · replace h := iteT c26 h
                    refine lv_iconst (v := 0) hx hb dX7_tell_120 ic_0 ?_
                    exact rIretS (w := wD g) C hr hd h dX7_tell_121
                  · replace h := iteF c26 h
                    refine lv_iconst (v := 1) hx hb dX7_tell_116 ic_1 ?_
                    refine lv_goto (tgt := 121) hx hb dX7_tell_117 (by decide) ?_
                    exact rIretS (w := wD g) C hr hd h dX7_tell_121
                · replace h := iteF c23 h
                  by_cases c27 : x1 = 10
                  · replace h := iteT c27 h
                    refine rTop c27.symm ?_
                    refine lv_tableIn (off := 121) (tgt := 122) hx hb dX7_tell_1 (by decide) (by decide) (by decide) (by decide) ?_
                    refine lv_aload_n hx hb dX7_tell_122 rfl (lv_at hl 0 rfl) ?_
                    refine lv_iload_n hx hb dX7_tell_123 rfl (lv_at hl 2 rfl) ?_
                    refine lv_iload_n hx hb dX7_tell_124 rfl (lv_at hl 3 rfl) ?_
                    refine lv_iload hx hb dX7_tell_125 (lv_at hl 4 rfl) ?_
                    obtain ⟨r28, t29, et29, h⟩ := cal2_e h
                    refine rCallI C hd (c_X7_restore hE et29) kX7_185 0 rfl rfl rfl rfl hl.1 rfl (Nat.le_of_ble_eq_true rfl) ⟨(Nat.le_of_ble_eq_true rfl), (Nat.le_of_ble_eq_true rfl)⟩ ⟨Nat.le_refl _, Nat.le_refl _⟩ dX7_tell_127 (fun H locs hd => ?_)
                    exact rIretS (w := wD g) C hr hd h dX7_tell_130
                  · replace h := iteF c27 h
                    by_cases c30 : x1 = 11
                    · replace h := iteT c30 h
                      refine rTop c30.symm ?_
                      refine lv_tableIn (off := 130) (tgt := 131) hx hb dX7_tell_1 (by decide) (by decide) (by decide) (by decide) ?_
                      refine lv_aload_n hx hb dX7_tell_131 rfl (lv_at hl 0 rfl) ?_
                      refine lv_iload_n hx hb dX7_tell_132 rfl (lv_at hl 2 rfl) ?_
                      refine lv_iload_n hx hb dX7_tell_133 rfl (lv_at hl 3 rfl) ?_
                      obtain ⟨r31, t32, et32, h⟩ := cal2_e h
                      refine rCallI C hd (c_X7_lose hE et32) kX7_189 0 rfl rfl rfl rfl hl.1 rfl (Nat.le_of_ble_eq_true rfl) ⟨(Nat.le_of_ble_eq_true rfl), (Nat.le_of_ble_eq_true rfl)⟩ ⟨Nat.le_refl _, Nat.le_refl _⟩ dX7_tell_134 (fun H locs hd => ?_)
                      refine lv_if_eq (tgt := 144) hx hb dX7_tell_137 (by decide) (fun c33 => ?_) (fun c33 => ?_)
                      · replace h := iteT c33 h
                        refine lv_iconst (v := 0) hx hb dX7_tell_144 ic_0 ?_
                        exact rIretS (w := wD g) C hr hd h dX7_tell_145
                      · replace h := iteF c33 h
                        refine lv_iconst (v := 1) hx hb dX7_tell_140 ic_1 ?_
                        refine lv_goto (tgt := 145) hx hb dX7_tell_141 (by decide) ?_
                        exact rIretS (w := wD g) C hr hd h dX7_tell_145
                    · replace h := iteF c30 h
                      refine lv_tableOut (tgt := 146) hx hb dX7_tell_1 (sw_out (lo := 2) (hi := 11) (fun z z1 z2 e => ?_)) (by decide) ?_
                      · have hz : z = 2 ∨ z = 3 ∨ z = 4 ∨ z = 5 ∨ z = 6 ∨ z = 7 ∨ z = 8 ∨ z = 9 ∨ z = 10 ∨ z = 11 := by omega
                        rcases hz with rfl | rfl | rfl | rfl | rfl | rfl | rfl | rfl | rfl | rfl
                        · exact c1 (Int32.toInt_inj.mp (e.trans (by decide)))
                        · exact c4 (Int32.toInt_inj.mp (e.trans (by decide)))
                        · exact c7 (Int32.toInt_inj.mp (e.trans (by decide)))
                        · exact c10 (Int32.toInt_inj.mp (e.trans (by decide)))
                        · exact c13 (Int32.toInt_inj.mp (e.trans (by decide)))
                        · exact c16 (Int32.toInt_inj.mp (e.trans (by decide)))
                        · exact c19 (Int32.toInt_inj.mp (e.trans (by decide)))
                        · exact c23 (Int32.toInt_inj.mp (e.trans (by decide)))
                        · exact c27 (Int32.toInt_inj.mp (e.trans (by decide)))
                        · exact c30 (Int32.toInt_inj.mp (e.trans (by decide)))
                      refine lv_iconst (v := 0) hx hb dX7_tell_146 ic_0 ?_
                      exact rIretS (w := wD g) C hr hd h dX7_tell_147
noncomputable def f_X7_perform_23 (F : Nat) : Nat → St → Int32 → Int32 → Option St
  | 0, _, _, _ => none
  | n + 1, σ, x1, x2 => if 300 ≤ x2 then (some σ) else (cal (f_X2_now F σ) (fun r2 => cal (f_X2_going F σ) (fun r3 => cal (f_X4_know F σ r2 r3 (σ.1 8) x1) (fun t4 => cal2 (f_X4_next F t4 (t4.1 3)) (fun r5 t6 => if r5 = 0 then (some t6) else (cal2 (f_X7_tell F t6 (t6.1 28) (t6.1 29) (t6.1 30) (t6.1 31)) (fun r8 t9 => bnd (ss t9 3 ((t9.1 3) + 1)) (fun t10 => bnd (x2 + 1) (fun v11 => f_X7_perform_23 F n t10 r8 v11)))))))))
set_option maxRecDepth 100000 in
set_option maxHeartbeats 4000000 in
theorem w_X7_perform_23 {F : Nat} {σ' : St}  (C : Cx g p s m args meth c cX7_perform 3 RX7) (hr : meth.sig.returnType = none) :
    (∀ (n : Nat) (σ : St) (x1 : Int32) (x2 : Int32), f_X7_perform_23 F n σ x1 x2 = some σ' → ∀ (H : Heap) (locs : List Loc) (ls : Array Slot), Dy g (wD g σ ++ X) s H locs → lv_has ls 3 [(0, .ref (ga g 0)), (1, .int x1), (2, .int x2)] → W p l e (rmD 27) s m args below meth c H locs 0 0 (QV g below args s (wD g σ' ++ X)) (F0 m 23 ls [])) := by
  have hx := C.1
  have hb := C.2.1
  have hE := C.2.2.2.2.2.2.2.2
  intro n
  induction n with
  | zero =>
    intro σ x1 x2 h
    cases h
  | succ n ih =>
    intro σ x1 x2 h H locs ls hd hl
    rw [f_X7_perform_23] at h
    refine lv_iload_n hx hb dX7_perform_23 rfl (lv_at hl 2 rfl) ?_
    refine lv_sipush (v := 300) hx hb dX7_perform_24 si_300 ?_
    refine lv_icmp_ge (tgt := 123) hx hb dX7_perform_27 (by decide) (fun c1 => ?_) (fun c1 => ?_)
    · replace h := iteT c1 h
      exact rVretS (w := wD g) C hr hd h dX7_perform_123
    · replace h := iteF c1 h
      refine lv_aload_n hx hb dX7_perform_30 rfl (lv_at hl 0 rfl) ?_
      refine gX7_75 C hd dX7_perform_31 ?_
      refine lv_aload_n hx hb dX7_perform_34 rfl (lv_at hl 0 rfl) ?_
      refine gX7_20 C hd dX7_perform_35 ?_
      obtain ⟨r2, er2, h⟩ := cal_e h
      refine rCallI C hd (c_X2_now hE er2) kX7_123 2 rfl rfl rfl rfl hl.1 rfl (Nat.le_of_ble_eq_true rfl) ⟨(Nat.le_of_ble_eq_true rfl), (Nat.le_of_ble_eq_true rfl)⟩ ⟨Nat.le_refl _, Nat.le_refl _⟩ dX7_perform_38 (fun H locs hd => ?_)
      refine lv_aload_n hx hb dX7_perform_41 rfl (lv_at hl 0 rfl) ?_
      refine gX7_20 C hd dX7_perform_42 ?_
      obtain ⟨r3, er3, h⟩ := cal_e h
      refine rCallI C hd (c_X2_going hE er3) kX7_129 2 rfl rfl rfl rfl hl.1 rfl (Nat.le_of_ble_eq_true rfl) ⟨(Nat.le_of_ble_eq_true rfl), (Nat.le_of_ble_eq_true rfl)⟩ ⟨Nat.le_refl _, Nat.le_refl _⟩ dX7_perform_45 (fun H locs hd => ?_)
      refine lv_aload_n hx hb dX7_perform_48 rfl (lv_at hl 0 rfl) ?_
      refine gX7_25 C hd dX7_perform_49 ?_
      refine gX7_132 C hd dX7_perform_52 ?_
      refine lv_iload_n hx hb dX7_perform_55 rfl (lv_at hl 1 rfl) ?_
      obtain ⟨t4, et4, h⟩ := cal_e h
      refine rCallV C hd (c_X4_know hE et4) kX7_137 7 rfl rfl rfl rfl hl.1 rfl (Nat.le_of_ble_eq_true rfl) ⟨(Nat.le_of_ble_eq_true rfl), (Nat.le_of_ble_eq_true rfl)⟩ ⟨Nat.le_refl _, Nat.le_refl _⟩ dX7_perform_56 (fun H locs hd => ?_)
      refine lv_aload_n hx hb dX7_perform_59 rfl (lv_at hl 0 rfl) ?_
      refine gX7_75 C hd dX7_perform_60 ?_
      refine lv_aload_n hx hb dX7_perform_63 rfl (lv_at hl 0 rfl) ?_
      refine gX7_53 C hd dX7_perform_64 ?_
      obtain ⟨r5, t6, et6, h⟩ := cal2_e h
      refine rCallI C hd (c_X4_next hE et6) kX7_141 7 rfl rfl rfl rfl hl.1 rfl (Nat.le_of_ble_eq_true rfl) ⟨(Nat.le_of_ble_eq_true rfl), (Nat.le_of_ble_eq_true rfl)⟩ ⟨Nat.le_refl _, Nat.le_refl _⟩ dX7_perform_67 (fun H locs hd => ?_)
      refine lv_if_ne (tgt := 74) hx hb dX7_perform_70 (by decide) (fun c7 => ?_) (fun c7 => ?_)
      · replace h := iteF c7 h
        refine lv_aload_n hx hb dX7_perform_74 rfl (lv_at hl 0 rfl) ?_
        refine lv_aload_n hx hb dX7_perform_75 rfl (lv_at hl 0 rfl) ?_
        refine gX7_75 C hd dX7_perform_76 ?_
        refine gX7_145 C hd dX7_perform_79 ?_
        refine lv_aload_n hx hb dX7_perform_82 rfl (lv_at hl 0 rfl) ?_
        refine gX7_75 C hd dX7_perform_83 ?_
        refine gX7_148 C hd dX7_perform_86 ?_
        refine lv_aload_n hx hb dX7_perform_89 rfl (lv_at hl 0 rfl) ?_
        refine gX7_75 C hd dX7_perform_90 ?_
        refine gX7_151 C hd dX7_perform_93 ?_
        refine lv_aload_n hx hb dX7_perform_96 rfl (lv_at hl 0 rfl) ?_
        refine gX7_75 C hd dX7_perform_97 ?_
        refine gX7_154 C hd dX7_perform_100 ?_
        obtain ⟨r8, t9, et9, h⟩ := cal2_e h
        refine rCallI C hd (c_X7_tell hE et9) kX7_157 0 rfl rfl rfl rfl hl.1 rfl (Nat.le_of_ble_eq_true rfl) ⟨(Nat.le_of_ble_eq_true rfl), (Nat.le_of_ble_eq_true rfl)⟩ ⟨Nat.le_refl _, Nat.le_refl _⟩ dX7_perform_103 (fun H locs hd => ?_)
        refine lv_istore_n (lv' := [(1, .int r8), (0, .ref (ga g 0)), (2, .int x2)]) hx hb dX7_perform_106 rfl hl (Nat.le_of_ble_eq_true rfl) rfl (fun ls hl => ?_)
        refine lv_aload_n hx hb dX7_perform_107 rfl (lv_at hl 1 rfl) ?_
        refine lv_dup hx hb dX7_perform_108 rfl ?_
        refine gX7_53 C hd dX7_perform_109 ?_
        refine lv_iconst (v := 1) hx hb dX7_perform_112 ic_1 ?_
        refine lv_iadd hx hb dX7_perform_113 ?_
        obtain ⟨t10, et10, h⟩ := bnd_e h
        refine pX7_53 C hd et10 dX7_perform_114 (fun H locs hd => ?_)
        obtain ⟨v11, ev11, h⟩ := bnd_e h
        refine lv_iinc (v := v11) (lv' := [(2, .int v11), (1, .int r8), (0, .ref (ga g 0))]) hx hb dX7_perform_117 hl (k := 2) rfl ((ii_1 _).trans ev11.symm) (Nat.le_of_ble_eq_true rfl) rfl (fun ls hl => ?_)
        refine lv_goto (tgt := 23) hx hb dX7_perform_120 (by decide) ?_
        exact ih t10 r8 v11 h _ _ _ hd (lv_sub hl [2, 1, 0] rfl)
      · replace h := iteT c7 h
        exact rVretS (w := wD g) C hr hd h dX7_perform_73
noncomputable def f_X7_perform (F : Nat) (σ : St) : Option St :=
  bnd (ss σ 3 0) (fun t1 => cal (f_X4_rewind F t1 (t1.1 25)) (fun t2 => f_X7_perform_23 F F t2 0 0))
set_option maxRecDepth 100000 in
set_option maxHeartbeats 4000000 in
theorem c_X7_perform {l : Launch} {g : Gp} {X : va_W} (hE : E0 g) {F : Nat} {σ' : St} {σ : St} (h : f_X7_perform F σ = some σ') : Cv l g yX7_perform cX7_perform 3 27 [.ref (ga g 0)] (wD g σ ++ X) (wD g σ' ++ X) := by
  refine rHead hE (by decide +kernel) (Nat.le_of_ble_eq_true rfl) (fun p e s m below meth c C hr _ hd ls hl => ?_)
  have hx := C.1
  have hb := C.2.1
  have hl : lv_has ls 3 [(0, .ref (ga g 0))] := hl
  generalize ([.ref (ga g 0)] : List Value).toArray = args at C ⊢
  have C : Cx g p s m args meth c cX7_perform 3 RX7 := C
  rw [f_X7_perform] at h
  refine lv_iconst (v := 0) hx hb dX7_perform_0 ic_0 ?_
  refine lv_istore_n (lv' := [(1, .int 0), (0, .ref (ga g 0))]) hx hb dX7_perform_1 rfl hl (Nat.le_of_ble_eq_true rfl) rfl (fun ls hl => ?_)
  refine lv_aload_n hx hb dX7_perform_2 rfl (lv_at hl 1 rfl) ?_
  refine lv_iconst (v := 0) hx hb dX7_perform_3 ic_0 ?_
  obtain ⟨t1, et1, h⟩ := bnd_e h
  refine pX7_53 C hd et1 dX7_perform_4 (fun H locs hd => ?_)
  refine lv_aload_n hx hb dX7_perform_7 rfl (lv_at hl 1 rfl) ?_
  refine gX7_75 C hd dX7_perform_8 ?_
  refine lv_aload_n hx hb dX7_perform_11 rfl (lv_at hl 1 rfl) ?_
  refine gX7_68 C hd dX7_perform_12 ?_
  refine gX7_117 C hd dX7_perform_15 ?_
  obtain ⟨t2, et2, h⟩ := cal_e h
  refine rCallV C hd (c_X4_rewind hE et2) kX7_120 7 rfl rfl rfl rfl hl.1 rfl (Nat.le_of_ble_eq_true rfl) ⟨(Nat.le_of_ble_eq_true rfl), (Nat.le_of_ble_eq_true rfl)⟩ ⟨Nat.le_refl _, Nat.le_refl _⟩ dX7_perform_18 (fun H locs hd => ?_)
  refine lv_iconst (v := 0) hx hb dX7_perform_21 ic_0 ?_
  refine lv_istore_n (lv' := [(2, .int 0), (1, .int 0), (0, .ref (ga g 0))]) hx hb dX7_perform_22 rfl hl (Nat.le_of_ble_eq_true rfl) rfl (fun ls hl => ?_)
  exact w_X7_perform_23 C hr _ t2 0 0 h _ _ _ hd (lv_sub hl [2, 1, 0] rfl)
noncomputable def f_X7_piece (F : Nat) (σ : St) (x1 : Int32) (x2 : Int32) : Option Int32 :=
  cal (f_X2_conditionOf F σ x1 x2) (fun r1 => some r1)
set_option maxRecDepth 100000 in
set_option maxHeartbeats 4000000 in
theorem c_X7_piece {l : Launch} {g : Gp} {X : va_W} (hE : E0 g) {F : Nat} {r' : Int32} {σ : St} {x1 : Int32} {x2 : Int32} (h : f_X7_piece F σ x1 x2 = some r') : Ci l g yX7_piece cX7_piece 3 (some .int) 2 [.ref (ga g 0), .int x1, .int x2] (wD g σ ++ X) r' (wD g σ ++ X) := by
  refine rHead hE (by decide +kernel) (Nat.le_of_ble_eq_true rfl) (fun p e s m below meth c C hr _ hd ls hl => ?_)
  have hx := C.1
  have hb := C.2.1
  have hl : lv_has ls 3 [(0, .ref (ga g 0)), (1, .int x1), (2, .int x2)] := hl
  generalize ([.ref (ga g 0), .int x1, .int x2] : List Value).toArray = args at C ⊢
  have C : Cx g p s m args meth c cX7_piece 3 RX7 := C
  rw [f_X7_piece] at h
  refine lv_aload_n hx hb dX7_piece_0 rfl (lv_at hl 0 rfl) ?_
  refine gX7_20 C hd dX7_piece_1 ?_
  refine lv_iload_n hx hb dX7_piece_4 rfl (lv_at hl 1 rfl) ?_
  refine lv_iload_n hx hb dX7_piece_5 rfl (lv_at hl 2 rfl) ?_
  obtain ⟨r1, er1, h⟩ := cal_e h
  refine rCallI C hd (c_X2_conditionOf hE er1) kX7_256 2 rfl rfl rfl rfl hl.1 rfl (Nat.le_of_ble_eq_true rfl) ⟨(Nat.le_of_ble_eq_true rfl), (Nat.le_of_ble_eq_true rfl)⟩ ⟨Nat.le_refl _, Nat.le_refl _⟩ dX7_piece_6 (fun H locs hd => ?_)
  exact rIretP C hr hd h dX7_piece_9
noncomputable def f_X7_pinned_98 (F : Nat) (k_40 : St → Int32 → Int32 → Int32 → Option (Int32 × St)) (σ : St) (x2 : Int32) (x3 : Int32) (x4 : Int32) : Option (Int32 × St) :=
  bnd (x4 + 1) (fun v1 => k_40 σ x2 x3 v1)
set_option maxRecDepth 100000 in
set_option maxHeartbeats 4000000 in
theorem w_X7_pinned_98 {F : Nat} {r' : Int32} {σ' : St}  (C : Cx g p s m args meth c cX7_pinned 6 RX7) (hr : meth.sig.returnType = some .int)
    {k_40 : St → Int32 → Int32 → Int32 → Option (Int32 × St)} (hk_40 : (∀ (σ : St) (x2 : Int32) (x3 : Int32) (x4 : Int32), k_40 σ x2 x3 x4 = some (r', σ') → ∀ (H : Heap) (locs : List Loc) (ls : Array Slot), Dy g (wD g σ ++ X) s H locs → lv_has ls 6 [(0, .ref (ga g 0)), (2, .int x2), (3, .int x3), (4, .int x4)] → W p l e (rmD 5) s m args below meth c H locs 0 0 (QI g below args s (wD g σ' ++ X) r') (F0 m 40 ls []))) :
    (∀ (σ : St) (x2 : Int32) (x3 : Int32) (x4 : Int32), f_X7_pinned_98 F k_40 σ x2 x3 x4 = some (r', σ') → ∀ (H : Heap) (locs : List Loc) (ls : Array Slot), Dy g (wD g σ ++ X) s H locs → lv_has ls 6 [(0, .ref (ga g 0)), (2, .int x2), (3, .int x3), (4, .int x4)] → W p l e (rmD 5) s m args below meth c H locs 0 0 (QI g below args s (wD g σ' ++ X) r') (F0 m 98 ls [])) := by
  have hx := C.1
  have hb := C.2.1
  have hE := C.2.2.2.2.2.2.2.2
  intro σ x2 x3 x4 h H locs ls hd hl
  rw [f_X7_pinned_98] at h
  obtain ⟨v1, ev1, h⟩ := bnd_e h
  refine lv_iinc (v := v1) (lv' := [(4, .int v1), (0, .ref (ga g 0)), (2, .int x2), (3, .int x3)]) hx hb dX7_pinned_98 hl (k := 3) rfl ((ii_1 _).trans ev1.symm) (Nat.le_of_ble_eq_true rfl) rfl (fun ls hl => ?_)
  refine lv_goto (tgt := 40) hx hb dX7_pinned_101 (by decide) ?_
  exact hk_40 σ x2 x3 v1 h _ _ _ hd (lv_sub hl [1, 2, 3, 0] rfl)
noncomputable def f_X7_pinned_40 (F : Nat) : Nat → St → Int32 → Int32 → Int32 → Option (Int32 × St)
  | 0, _, _, _, _ => none
  | n + 1, σ, x2, x3, x4 => if (σ.1 8) ≤ x4 then (some (x3, σ)) else (cal2 (f_X7_firstPinnedBy F σ x4) (fun r2 t3 => if r2 = (-2 : Int32) then (f_X7_pinned_98 F (f_X7_pinned_40 F n) t3 x2 x3 x4) else (if x2 < r2 then (f_X7_pinned_98 F (f_X7_pinned_40 F n) t3 x2 x3 x4) else (cal (f_X2_now F t3) (fun r6 => cal (f_X2_pieceHolding F t3 r6) (fun r7 => if r7 < x2 then (f_X7_pinned_98 F (f_X7_pinned_40 F n) t3 x2 x3 x4) else (bnd (x3 ||| (1 <<< (x4 &&& 31))) (fun v9 => f_X7_pinned_98 F (f_X7_pinned_40 F n) t3 x2 v9 x4))))))))
set_option maxRecDepth 100000 in
set_option maxHeartbeats 4000000 in
theorem w_X7_pinned_40 {F : Nat} {r' : Int32} {σ' : St}  (C : Cx g p s m args meth c cX7_pinned 6 RX7) (hr : meth.sig.returnType = some .int) :
    (∀ (n : Nat) (σ : St) (x2 : Int32) (x3 : Int32) (x4 : Int32), f_X7_pinned_40 F n σ x2 x3 x4 = some (r', σ') → ∀ (H : Heap) (locs : List Loc) (ls : Array Slot), Dy g (wD g σ ++ X) s H locs → lv_has ls 6 [(0, .ref (ga g 0)), (2, .int x2), (3, .int x3), (4, .int x4)] → W p l e (rmD 5) s m args below meth c H locs 0 0 (QI g below args s (wD g σ' ++ X) r') (F0 m 40 ls [])) := by
  have hx := C.1
  have hb := C.2.1
  have hE := C.2.2.2.2.2.2.2.2
  intro n
  induction n with
  | zero =>
    intro σ x2 x3 x4 h
    cases h
  | succ n ih =>
    intro σ x2 x3 x4 h H locs ls hd hl
    rw [f_X7_pinned_40] at h
    refine lv_iload hx hb dX7_pinned_40 (lv_at hl 3 rfl) ?_
    refine lv_aload_n hx hb dX7_pinned_42 rfl (lv_at hl 0 rfl) ?_
    refine gX7_25 C hd dX7_pinned_43 ?_
    refine gX7_132 C hd dX7_pinned_46 ?_
    refine lv_icmp_ge (tgt := 104) hx hb dX7_pinned_49 (by decide) (fun c1 => ?_) (fun c1 => ?_)
    · replace h := iteT c1 h
      refine lv_iload_n hx hb dX7_pinned_104 rfl (lv_at hl 2 rfl) ?_
      exact rIretS (w := wD g) C hr hd h dX7_pinned_105
    · replace h := iteF c1 h
      refine lv_aload_n hx hb dX7_pinned_52 rfl (lv_at hl 0 rfl) ?_
      refine lv_iload hx hb dX7_pinned_53 (lv_at hl 3 rfl) ?_
      obtain ⟨r2, t3, et3, h⟩ := cal2_e h
      refine rCallI C hd (c_X7_firstPinnedBy hE et3) kX7_366 0 rfl rfl rfl rfl hl.1 rfl (Nat.le_of_ble_eq_true rfl) ⟨(Nat.le_of_ble_eq_true rfl), (Nat.le_of_ble_eq_true rfl)⟩ ⟨Nat.le_refl _, Nat.le_refl _⟩ dX7_pinned_55 (fun H locs hd => ?_)
      refine lv_istore (lv' := [(5, .int r2), (0, .ref (ga g 0)), (2, .int x2), (3, .int x3), (4, .int x4)]) hx hb dX7_pinned_58 hl (Nat.le_of_ble_eq_true rfl) rfl (fun ls hl => ?_)
      refine lv_iload hx hb dX7_pinned_60 (lv_at hl 0 rfl) ?_
      refine lv_bipush (v := (-2 : Int32)) hx hb dX7_pinned_62 bi_m2 ?_
      refine lv_icmp_eq (tgt := 98) hx hb dX7_pinned_64 (by decide) (fun c4 => ?_) (fun c4 => ?_)
      · replace h := iteT c4 h
        exact w_X7_pinned_98 C hr ih t3 x2 x3 x4 h _ _ _ hd (lv_sub hl [1, 2, 3, 4] rfl)
      · replace h := iteF c4 h
        refine lv_iload_n hx hb dX7_pinned_67 rfl (lv_at hl 2 rfl) ?_
        refine lv_iload hx hb dX7_pinned_68 (lv_at hl 0 rfl) ?_
        refine lv_icmp_lt (tgt := 98) hx hb dX7_pinned_70 (by decide) (fun c5 => ?_) (fun c5 => ?_)
        · replace h := iteT c5 h
          exact w_X7_pinned_98 C hr ih t3 x2 x3 x4 h _ _ _ hd (lv_sub hl [1, 2, 3, 4] rfl)
        · replace h := iteF c5 h
          refine lv_iload_n hx hb dX7_pinned_73 rfl (lv_at hl 2 rfl) ?_
          refine lv_aload_n hx hb dX7_pinned_74 rfl (lv_at hl 1 rfl) ?_
          refine gX7_20 C hd dX7_pinned_75 ?_
          refine lv_aload_n hx hb dX7_pinned_78 rfl (lv_at hl 1 rfl) ?_
          refine gX7_20 C hd dX7_pinned_79 ?_
          obtain ⟨r6, er6, h⟩ := cal_e h
          refine rCallI C hd (c_X2_now hE er6) kX7_123 2 rfl rfl rfl rfl hl.1 rfl (Nat.le_of_ble_eq_true rfl) ⟨(Nat.le_of_ble_eq_true rfl), (Nat.le_of_ble_eq_true rfl)⟩ ⟨Nat.le_refl _, Nat.le_refl _⟩ dX7_pinned_82 (fun H locs hd => ?_)
          obtain ⟨r7, er7, h⟩ := cal_e h
          refine rCallI C hd (c_X2_pieceHolding hE er7) kX7_297 2 rfl rfl rfl rfl hl.1 rfl (Nat.le_of_ble_eq_true rfl) ⟨(Nat.le_of_ble_eq_true rfl), (Nat.le_of_ble_eq_true rfl)⟩ ⟨Nat.le_refl _, Nat.le_refl _⟩ dX7_pinned_85 (fun H locs hd => ?_)
          refine lv_icmp_gt (tgt := 98) hx hb dX7_pinned_88 (by decide) (fun c8 => ?_) (fun c8 => ?_)
          · replace h := iteT c8 h
            exact w_X7_pinned_98 C hr ih t3 x2 x3 x4 h _ _ _ hd (lv_sub hl [1, 2, 3, 4] rfl)
          · replace h := iteF c8 h
            refine lv_iload_n hx hb dX7_pinned_91 rfl (lv_at hl 3 rfl) ?_
            refine lv_iconst (v := 1) hx hb dX7_pinned_92 ic_1 ?_
            refine lv_iload hx hb dX7_pinned_93 (lv_at hl 4 rfl) ?_
            refine lv_ishl hx hb dX7_pinned_95 ?_
            refine lv_ior hx hb dX7_pinned_96 ?_
            obtain ⟨v9, ev9, h⟩ := bnd_e h
            refine rTop ev9 ?_
            refine lv_istore_n (lv' := [(3, .int v9), (5, .int r2), (0, .ref (ga g 0)), (2, .int x2), (4, .int x4)]) hx hb dX7_pinned_97 rfl hl (Nat.le_of_ble_eq_true rfl) rfl (fun ls hl => ?_)
            exact w_X7_pinned_98 C hr ih t3 x2 v9 x4 h _ _ _ hd (lv_sub hl [2, 3, 0, 4] rfl)
noncomputable def f_X7_pinned (F : Nat) (σ : St) (x1 : Int32) (x2 : Int32) : Option (Int32 × St) :=
  cal (f_X2_hasPiece F σ x1 x2) (fun r1 => if r1 = 0 then (some ((-1 : Int32), σ)) else (cal (f_X2_going F σ) (fun r3 => cal (f_X2_keeperOf F σ r3 x2) (fun r4 => if r4 = x1 then (f_X7_pinned_40 F F σ x2 0 0) else (some (0, σ))))))
set_option maxRecDepth 100000 in
set_option maxHeartbeats 4000000 in
theorem c_X7_pinned {l : Launch} {g : Gp} {X : va_W} (hE : E0 g) {F : Nat} {r' : Int32} {σ' : St} {σ : St} {x1 : Int32} {x2 : Int32} (h : f_X7_pinned F σ x1 x2 = some (r', σ')) : Ci l g yX7_pinned cX7_pinned 6 (some .int) 5 [.ref (ga g 0), .int x1, .int x2] (wD g σ ++ X) r' (wD g σ' ++ X) := by
  refine rHead hE (by decide +kernel) (Nat.le_of_ble_eq_true rfl) (fun p e s m below meth c C hr _ hd ls hl => ?_)
  have hx := C.1
  have hb := C.2.1
  have hl : lv_has ls 6 [(0, .ref (ga g 0)), (1, .int x1), (2, .int x2)] := hl
  generalize ([.ref (ga g 0), .int x1, .int x2] : List Value).toArray = args at C ⊢
  have C : Cx g p s m args meth c cX7_pinned 6 RX7 := C
  rw [f_X7_pinned] at h
  refine lv_aload_n hx hb dX7_pinned_0 rfl (lv_at hl 0 rfl) ?_
  refine gX7_20 C hd dX7_pinned_1 ?_
  refine lv_iload_n hx hb dX7_pinned_4 rfl (lv_at hl 1 rfl) ?_
  refine lv_iload_n hx hb dX7_pinned_5 rfl (lv_at hl 2 rfl) ?_
  obtain ⟨r1, er1, h⟩ := cal_e h
  refine rCallI C hd (c_X2_hasPiece hE er1) kX7_360 2 rfl rfl rfl rfl hl.1 rfl (Nat.le_of_ble_eq_true rfl) ⟨(Nat.le_of_ble_eq_true rfl), (Nat.le_of_ble_eq_true rfl)⟩ ⟨Nat.le_refl _, Nat.le_refl _⟩ dX7_pinned_6 (fun H locs hd => ?_)
  refine lv_if_ne (tgt := 14) hx hb dX7_pinned_9 (by decide) (fun c2 => ?_) (fun c2 => ?_)
  · replace h := iteF c2 h
    refine lv_aload_n hx hb dX7_pinned_14 rfl (lv_at hl 0 rfl) ?_
    refine gX7_20 C hd dX7_pinned_15 ?_
    refine lv_aload_n hx hb dX7_pinned_18 rfl (lv_at hl 0 rfl) ?_
    refine gX7_20 C hd dX7_pinned_19 ?_
    obtain ⟨r3, er3, h⟩ := cal_e h
    refine rCallI C hd (c_X2_going hE er3) kX7_129 2 rfl rfl rfl rfl hl.1 rfl (Nat.le_of_ble_eq_true rfl) ⟨(Nat.le_of_ble_eq_true rfl), (Nat.le_of_ble_eq_true rfl)⟩ ⟨Nat.le_refl _, Nat.le_refl _⟩ dX7_pinned_22 (fun H locs hd => ?_)
    refine lv_iload_n hx hb dX7_pinned_25 rfl (lv_at hl 2 rfl) ?_
    obtain ⟨r4, er4, h⟩ := cal_e h
    refine rCallI C hd (c_X2_keeperOf hE er4) kX7_363 2 rfl rfl rfl rfl hl.1 rfl (Nat.le_of_ble_eq_true rfl) ⟨(Nat.le_of_ble_eq_true rfl), (Nat.le_of_ble_eq_true rfl)⟩ ⟨Nat.le_refl _, Nat.le_refl _⟩ dX7_pinned_26 (fun H locs hd => ?_)
    refine lv_iload_n hx hb dX7_pinned_29 rfl (lv_at hl 1 rfl) ?_
    refine lv_icmp_eq (tgt := 35) hx hb dX7_pinned_30 (by decide) (fun c5 => ?_) (fun c5 => ?_)
    · replace h := iteT c5 h
      refine lv_iconst (v := 0) hx hb dX7_pinned_35 ic_0 ?_
      refine lv_istore_n (lv' := [(3, .int 0), (0, .ref (ga g 0)), (1, .int x1), (2, .int x2)]) hx hb dX7_pinned_36 rfl hl (Nat.le_of_ble_eq_true rfl) rfl (fun ls hl => ?_)
      refine lv_iconst (v := 0) hx hb dX7_pinned_37 ic_0 ?_
      refine lv_istore (lv' := [(4, .int 0), (3, .int 0), (0, .ref (ga g 0)), (1, .int x1), (2, .int x2)]) hx hb dX7_pinned_38 hl (Nat.le_of_ble_eq_true rfl) rfl (fun ls hl => ?_)
      exact w_X7_pinned_40 C hr _ σ x2 0 0 h _ _ _ hd (lv_sub hl [2, 4, 1, 0] rfl)
    · replace h := iteF c5 h
      refine lv_iconst (v := 0) hx hb dX7_pinned_33 ic_0 ?_
      exact rIretS (w := wD g) C hr hd h dX7_pinned_34
  · replace h := iteT c2 h
    refine lv_iconst (v := (-1 : Int32)) hx hb dX7_pinned_12 ic_m1 ?_
    exact rIretS (w := wD g) C hr hd h dX7_pinned_13
noncomputable def f_X7_place (F : Nat) (σ : St) : Option Int32 :=
  some (σ.1 2)
set_option maxRecDepth 100000 in
set_option maxHeartbeats 4000000 in
theorem c_X7_place {l : Launch} {g : Gp} {X : va_W} (hE : E0 g) {F : Nat} {r' : Int32} {σ : St} (h : f_X7_place F σ = some r') : Ci l g yX7_place cX7_place 1 (some .int) 0 [.ref (ga g 0)] (wD g σ ++ X) r' (wD g σ ++ X) := by
  refine rHead hE (by decide +kernel) (Nat.le_of_ble_eq_true rfl) (fun p e s m below meth c C hr _ hd ls hl => ?_)
  have hx := C.1
  have hb := C.2.1
  have hl : lv_has ls 1 [(0, .ref (ga g 0))] := hl
  generalize ([.ref (ga g 0)] : List Value).toArray = args at C ⊢
  have C : Cx g p s m args meth c cX7_place 1 RX7 := C
  rw [f_X7_place] at h
  refine lv_aload_n hx hb dX7_place_0 rfl (lv_at hl 0 rfl) ?_
  refine gX7_50 C hd dX7_place_1 ?_
  exact rIretP C hr hd h dX7_place_4
noncomputable def f_X7_reach (F : Nat) (σ : St) (x1 : Int32) : Option (Int32 × St) :=
  cal (f_X2_hasLine F σ x1) (fun r1 => if r1 = 0 then (some ((-1 : Int32), σ)) else (cal2 (f_X7_reachOf F σ x1) (fun r3 t4 => some (r3, t4))))
set_option maxRecDepth 100000 in
set_option maxHeartbeats 4000000 in
theorem c_X7_reach {l : Launch} {g : Gp} {X : va_W} (hE : E0 g) {F : Nat} {r' : Int32} {σ' : St} {σ : St} {x1 : Int32} (h : f_X7_reach F σ x1 = some (r', σ')) : Ci l g yX7_reach cX7_reach 2 (some .int) 5 [.ref (ga g 0), .int x1] (wD g σ ++ X) r' (wD g σ' ++ X) := by
  refine rHead hE (by decide +kernel) (Nat.le_of_ble_eq_true rfl) (fun p e s m below meth c C hr _ hd ls hl => ?_)
  have hx := C.1
  have hb := C.2.1
  have hl : lv_has ls 2 [(0, .ref (ga g 0)), (1, .int x1)] := hl
  generalize ([.ref (ga g 0), .int x1] : List Value).toArray = args at C ⊢
  have C : Cx g p s m args meth c cX7_reach 2 RX7 := C
  rw [f_X7_reach] at h
  refine lv_aload_n hx hb dX7_reach_0 rfl (lv_at hl 0 rfl) ?_
  refine gX7_20 C hd dX7_reach_1 ?_
  refine lv_iload_n hx hb dX7_reach_4 rfl (lv_at hl 1 rfl) ?_
  obtain ⟨r1, er1, h⟩ := cal_e h
  refine rCallI C hd (c_X2_hasLine hE er1) kX7_282 2 rfl rfl rfl rfl hl.1 rfl (Nat.le_of_ble_eq_true rfl) ⟨(Nat.le_of_ble_eq_true rfl), (Nat.le_of_ble_eq_true rfl)⟩ ⟨Nat.le_refl _, Nat.le_refl _⟩ dX7_reach_5 (fun H locs hd => ?_)
  refine lv_if_eq (tgt := 19) hx hb dX7_reach_8 (by decide) (fun c2 => ?_) (fun c2 => ?_)
  · replace h := iteT c2 h
    refine lv_iconst (v := (-1 : Int32)) hx hb dX7_reach_19 ic_m1 ?_
    exact rIretS (w := wD g) C hr hd h dX7_reach_20
  · replace h := iteF c2 h
    refine lv_aload_n hx hb dX7_reach_11 rfl (lv_at hl 0 rfl) ?_
    refine lv_iload_n hx hb dX7_reach_12 rfl (lv_at hl 1 rfl) ?_
    obtain ⟨r3, t4, et4, h⟩ := cal2_e h
    refine rCallI C hd (c_X7_reachOf hE et4) kX7_396 0 rfl rfl rfl rfl hl.1 rfl (Nat.le_of_ble_eq_true rfl) ⟨(Nat.le_of_ble_eq_true rfl), (Nat.le_of_ble_eq_true rfl)⟩ ⟨Nat.le_refl _, Nat.le_refl _⟩ dX7_reach_13 (fun H locs hd => ?_)
    refine lv_goto (tgt := 20) hx hb dX7_reach_16 (by decide) ?_
    exact rIretS (w := wD g) C hr hd h dX7_reach_20
noncomputable def f_X7_read (F : Nat) (σ : St) : Option (Int32 × St) :=
  cal (f_X6_scan F σ (σ.1 1)) (fun t1 => bnd (ss t1 1 0) (fun t2 => cal (f_X1_check F t2) (fun t3 => bnd (ss t3 2 (t3.1 22)) (fun t4 => if (t4.1 21) = 0 then (cal (f_X5_begin F t4 (t4.1 23) (t4.1 24)) (fun t6 => bnd (ss t6 0 0) (fun t7 => cal (f_X7_perform F t7) (fun t8 => some (0, t8))))) else (some ((t4.1 21), t4))))))
set_option maxRecDepth 100000 in
set_option maxHeartbeats 4000000 in
theorem c_X7_read {l : Launch} {g : Gp} {X : va_W} (hE : E0 g) {F : Nat} {r' : Int32} {σ' : St} {σ : St} (h : f_X7_read F σ = some (r', σ')) : Ci l g yX7_read cX7_read 1 (some .int) 28 [.ref (ga g 0)] (wD g σ ++ X) r' (wD g σ' ++ X) := by
  refine rHead hE (by decide +kernel) (Nat.le_of_ble_eq_true rfl) (fun p e s m below meth c C hr _ hd ls hl => ?_)
  have hx := C.1
  have hb := C.2.1
  have hl : lv_has ls 1 [(0, .ref (ga g 0))] := hl
  generalize ([.ref (ga g 0)] : List Value).toArray = args at C ⊢
  have C : Cx g p s m args meth c cX7_read 1 RX7 := C
  rw [f_X7_read] at h
  refine lv_aload_n hx hb dX7_read_0 rfl (lv_at hl 0 rfl) ?_
  refine gX7_59 C hd dX7_read_1 ?_
  refine lv_aload_n hx hb dX7_read_4 rfl (lv_at hl 0 rfl) ?_
  refine gX7_43 C hd dX7_read_5 ?_
  refine lv_aload_n hx hb dX7_read_8 rfl (lv_at hl 0 rfl) ?_
  refine gX7_47 C hd dX7_read_9 ?_
  obtain ⟨t1, et1, h⟩ := cal_e h
  refine rCallV C hd (c_X6_scan hE et1) kX7_93 5 rfl rfl rfl rfl hl.1 rfl (Nat.le_of_ble_eq_true rfl) ⟨(Nat.le_of_ble_eq_true rfl), (Nat.le_of_ble_eq_true rfl)⟩ ⟨Nat.le_refl _, Nat.le_refl _⟩ dX7_read_12 (fun H locs hd => ?_)
  refine lv_aload_n hx hb dX7_read_15 rfl (lv_at hl 0 rfl) ?_
  refine lv_iconst (v := 0) hx hb dX7_read_16 ic_0 ?_
  obtain ⟨t2, et2, h⟩ := bnd_e h
  refine pX7_47 C hd et2 dX7_read_17 (fun H locs hd => ?_)
  refine lv_aload_n hx hb dX7_read_20 rfl (lv_at hl 0 rfl) ?_
  refine gX7_68 C hd dX7_read_21 ?_
  obtain ⟨t3, et3, h⟩ := cal_e h
  refine rCallV C hd (c_X1_check hE et3) kX7_97 6 rfl rfl rfl rfl hl.1 rfl (Nat.le_of_ble_eq_true rfl) ⟨(Nat.le_of_ble_eq_true rfl), (Nat.le_of_ble_eq_true rfl)⟩ ⟨Nat.le_refl _, Nat.le_refl _⟩ dX7_read_24 (fun H locs hd => ?_)
  refine lv_aload_n hx hb dX7_read_27 rfl (lv_at hl 0 rfl) ?_
  refine lv_aload_n hx hb dX7_read_28 rfl (lv_at hl 0 rfl) ?_
  refine gX7_68 C hd dX7_read_29 ?_
  refine gX7_100 C hd dX7_read_32 ?_
  obtain ⟨t4, et4, h⟩ := bnd_e h
  refine pX7_50 C hd et4 dX7_read_35 (fun H locs hd => ?_)
  refine lv_aload_n hx hb dX7_read_38 rfl (lv_at hl 0 rfl) ?_
  refine gX7_68 C hd dX7_read_39 ?_
  refine gX7_101 C hd dX7_read_42 ?_
  refine lv_if_eq (tgt := 56) hx hb dX7_read_45 (by decide) (fun c5 => ?_) (fun c5 => ?_)
  · replace h := iteT c5 h
    refine lv_aload_n hx hb dX7_read_56 rfl (lv_at hl 0 rfl) ?_
    refine gX7_10 C hd dX7_read_57 ?_
    refine lv_aload_n hx hb dX7_read_60 rfl (lv_at hl 0 rfl) ?_
    refine gX7_68 C hd dX7_read_61 ?_
    refine gX7_104 C hd dX7_read_64 ?_
    refine lv_aload_n hx hb dX7_read_67 rfl (lv_at hl 0 rfl) ?_
    refine gX7_68 C hd dX7_read_68 ?_
    refine gX7_107 C hd dX7_read_71 ?_
    obtain ⟨t6, et6, h⟩ := cal_e h
    refine rCallV C hd (c_X5_begin hE et6) kX7_110 1 rfl rfl rfl rfl hl.1 rfl (Nat.le_of_ble_eq_true rfl) ⟨(Nat.le_of_ble_eq_true rfl), (Nat.le_of_ble_eq_true rfl)⟩ ⟨Nat.le_refl _, Nat.le_refl _⟩ dX7_read_74 (fun H locs hd => ?_)
    refine lv_aload_n hx hb dX7_read_77 rfl (lv_at hl 0 rfl) ?_
    refine lv_iconst (v := 0) hx hb dX7_read_78 ic_0 ?_
    obtain ⟨t7, et7, h⟩ := bnd_e h
    refine pX7_39 C hd et7 dX7_read_79 (fun H locs hd => ?_)
    refine lv_aload_n hx hb dX7_read_82 rfl (lv_at hl 0 rfl) ?_
    obtain ⟨t8, et8, h⟩ := cal_e h
    refine rCallV C hd (c_X7_perform hE et8) kX7_114 0 rfl rfl rfl rfl hl.1 rfl (Nat.le_of_ble_eq_true rfl) ⟨(Nat.le_of_ble_eq_true rfl), (Nat.le_of_ble_eq_true rfl)⟩ ⟨Nat.le_refl _, Nat.le_refl _⟩ dX7_read_83 (fun H locs hd => ?_)
    refine lv_iconst (v := 0) hx hb dX7_read_86 ic_0 ?_
    exact rIretS (w := wD g) C hr hd h dX7_read_87
  · replace h := iteF c5 h
    refine lv_aload_n hx hb dX7_read_48 rfl (lv_at hl 0 rfl) ?_
    refine gX7_68 C hd dX7_read_49 ?_
    refine gX7_101 C hd dX7_read_52 ?_
    exact rIretS (w := wD g) C hr hd h dX7_read_55
noncomputable def f_X7_record (F : Nat) (σ : St) (x1 : Int32) (x2 : Int32) (x3 : Int32) : Option Int32 :=
  cal (f_X2_rowOf F σ x1 x2) (fun r1 => if r1 = (-1 : Int32) then (some (-1000000000 : Int32)) else (if x3 = 0 then (cal (f_X2_sortIn F σ r1) (fun r4 => some r4)) else (if x3 = 1 then (cal (f_X2_subjectIn F σ r1) (fun r6 => some r6)) else (if x3 = 2 then (cal (f_X2_lineOfRow F σ r1) (fun r8 => some r8)) else (some (-1000000000 : Int32))))))
set_option maxRecDepth 100000 in
set_option maxHeartbeats 4000000 in
theorem c_X7_record {l : Launch} {g : Gp} {X : va_W} (hE : E0 g) {F : Nat} {r' : Int32} {σ : St} {x1 : Int32} {x2 : Int32} {x3 : Int32} (h : f_X7_record F σ x1 x2 x3 = some r') : Ci l g yX7_record cX7_record 5 (some .int) 2 [.ref (ga g 0), .int x1, .int x2, .int x3] (wD g σ ++ X) r' (wD g σ ++ X) := by
  refine rHead hE (by decide +kernel) (Nat.le_of_ble_eq_true rfl) (fun p e s m below meth c C hr _ hd ls hl => ?_)
  have hx := C.1
  have hb := C.2.1
  have hl : lv_has ls 5 [(0, .ref (ga g 0)), (1, .int x1), (2, .int x2), (3, .int x3)] := hl
  generalize ([.ref (ga g 0), .int x1, .int x2, .int x3] : List Value).toArray = args at C ⊢
  have C : Cx g p s m args meth c cX7_record 5 RX7 := C
  rw [f_X7_record] at h
  refine lv_aload_n hx hb dX7_record_0 rfl (lv_at hl 0 rfl) ?_
  refine gX7_20 C hd dX7_record_1 ?_
  refine lv_iload_n hx hb dX7_record_4 rfl (lv_at hl 1 rfl) ?_
  refine lv_iload_n hx hb dX7_record_5 rfl (lv_at hl 2 rfl) ?_
  obtain ⟨r1, er1, h⟩ := cal_e h
  refine rCallI C hd (c_X2_rowOf hE er1) kX7_266 2 rfl rfl rfl rfl hl.1 rfl (Nat.le_of_ble_eq_true rfl) ⟨(Nat.le_of_ble_eq_true rfl), (Nat.le_of_ble_eq_true rfl)⟩ ⟨Nat.le_refl _, Nat.le_refl _⟩ dX7_record_6 (fun H locs hd => ?_)
  refine lv_istore (lv' := [(4, .int r1), (0, .ref (ga g 0)), (1, .int x1), (2, .int x2), (3, .int x3)]) hx hb dX7_record_9 hl (Nat.le_of_ble_eq_true rfl) rfl (fun ls hl => ?_)
  refine lv_iload hx hb dX7_record_11 (lv_at hl 0 rfl) ?_
  refine lv_iconst (v := (-1 : Int32)) hx hb dX7_record_13 ic_m1 ?_
  refine lv_icmp_ne (tgt := 21) hx hb dX7_record_14 (by decide) (fun c2 => ?_) (fun c2 => ?_)
  · replace h := iteF c2 h
    refine lv_iload_n hx hb dX7_record_21 rfl (lv_at hl 4 rfl) ?_
    by_cases c3 : x3 = 0
    · replace h := iteT c3 h
      refine rTop c3.symm ?_
      refine lv_tableIn (off := 26) (tgt := 48) hx hb dX7_record_22 (by decide) (by decide) (by decide) (by decide) ?_
      refine lv_aload_n hx hb dX7_record_48 rfl (lv_at hl 1 rfl) ?_
      refine gX7_20 C hd dX7_record_49 ?_
      refine lv_iload hx hb dX7_record_52 (lv_at hl 0 rfl) ?_
      obtain ⟨r4, er4, h⟩ := cal_e h
      refine rCallI C hd (c_X2_sortIn hE er4) kX7_270 2 rfl rfl rfl rfl hl.1 rfl (Nat.le_of_ble_eq_true rfl) ⟨(Nat.le_of_ble_eq_true rfl), (Nat.le_of_ble_eq_true rfl)⟩ ⟨Nat.le_refl _, Nat.le_refl _⟩ dX7_record_54 (fun H locs hd => ?_)
      exact rIretP C hr hd h dX7_record_57
    · replace h := iteF c3 h
      by_cases c5 : x3 = 1
      · replace h := iteT c5 h
        refine rTop c5.symm ?_
        refine lv_tableIn (off := 36) (tgt := 58) hx hb dX7_record_22 (by decide) (by decide) (by decide) (by decide) ?_
        refine lv_aload_n hx hb dX7_record_58 rfl (lv_at hl 1 rfl) ?_
        refine gX7_20 C hd dX7_record_59 ?_
        refine lv_iload hx hb dX7_record_62 (lv_at hl 0 rfl) ?_
        obtain ⟨r6, er6, h⟩ := cal_e h
        refine rCallI C hd (c_X2_subjectIn hE er6) kX7_273 2 rfl rfl rfl rfl hl.1 rfl (Nat.le_of_ble_eq_true rfl) ⟨(Nat.le_of_ble_eq_true rfl), (Nat.le_of_ble_eq_true rfl)⟩ ⟨Nat.le_refl _, Nat.le_refl _⟩ dX7_record_64 (fun H locs hd => ?_)
        exact rIretP C hr hd h dX7_record_67
      · replace h := iteF c5 h
        by_cases c7 : x3 = 2
        · replace h := iteT c7 h
          refine rTop c7.symm ?_
          refine lv_tableIn (off := 46) (tgt := 68) hx hb dX7_record_22 (by decide) (by decide) (by decide) (by decide) ?_
          refine lv_aload_n hx hb dX7_record_68 rfl (lv_at hl 1 rfl) ?_
          refine gX7_20 C hd dX7_record_69 ?_
          refine lv_iload hx hb dX7_record_72 (lv_at hl 0 rfl) ?_
          obtain ⟨r8, er8, h⟩ := cal_e h
          refine rCallI C hd (c_X2_lineOfRow hE er8) kX7_276 2 rfl rfl rfl rfl hl.1 rfl (Nat.le_of_ble_eq_true rfl) ⟨(Nat.le_of_ble_eq_true rfl), (Nat.le_of_ble_eq_true rfl)⟩ ⟨Nat.le_refl _, Nat.le_refl _⟩ dX7_record_74 (fun H locs hd => ?_)
          exact rIretP C hr hd h dX7_record_77
        · replace h := iteF c7 h
          refine lv_tableOut (tgt := 78) hx hb dX7_record_22 (sw_out (lo := 0) (hi := 2) (fun z z1 z2 e => ?_)) (by decide) ?_
          · have hz : z = 0 ∨ z = 1 ∨ z = 2 := by omega
            rcases hz with rfl | rfl | rfl
            · exact c3 (Int32.toInt_inj.mp (e.trans (by decide)))
            · exact c5 (Int32.toInt_inj.mp (e.trans (by decide)))
            · exact c7 (Int32.toInt_inj.mp (e.trans (by decide)))
          refine rLdcw C (v := (-1000000000 : Int32)) (mT 884 (by decide +kernel)) dX7_record_78 ?_
          exact rIretP C hr hd h dX7_record_81
  · replace h := iteT c2 h
    refine rLdcw C (v := (-1000000000 : Int32)) (mT 884 (by decide +kernel)) dX7_record_17 ?_
    exact rIretP C hr hd h dX7_record_20
noncomputable def f_X7_source (F : Nat) (σ : St) (x1 : Int32) (x2 : Int32) : Option Int32 :=
  cal (f_X0_hasCopy F σ x1) (fun r1 => if r1 = 0 then (some (-1 : Int32)) else (cal (f_X5_hasPage F σ x2) (fun r3 => if r3 = 0 then (some (-1 : Int32)) else (cal (f_X0_cellOf F σ x1 x2) (fun r5 => cal (f_X0_sourceIn F σ r5) (fun r6 => some r6))))))
set_option maxRecDepth 100000 in
set_option maxHeartbeats 4000000 in
theorem c_X7_source {l : Launch} {g : Gp} {X : va_W} (hE : E0 g) {F : Nat} {r' : Int32} {σ : St} {x1 : Int32} {x2 : Int32} (h : f_X7_source F σ x1 x2 = some r') : Ci l g yX7_source cX7_source 3 (some .int) 2 [.ref (ga g 0), .int x1, .int x2] (wD g σ ++ X) r' (wD g σ ++ X) := by
  refine rHead hE (by decide +kernel) (Nat.le_of_ble_eq_true rfl) (fun p e s m below meth c C hr _ hd ls hl => ?_)
  have hx := C.1
  have hb := C.2.1
  have hl : lv_has ls 3 [(0, .ref (ga g 0)), (1, .int x1), (2, .int x2)] := hl
  generalize ([.ref (ga g 0), .int x1, .int x2] : List Value).toArray = args at C ⊢
  have C : Cx g p s m args meth c cX7_source 3 RX7 := C
  rw [f_X7_source] at h
  refine lv_aload_n hx hb dX7_source_0 rfl (lv_at hl 0 rfl) ?_
  refine gX7_25 C hd dX7_source_1 ?_
  refine lv_iload_n hx hb dX7_source_4 rfl (lv_at hl 1 rfl) ?_
  obtain ⟨r1, er1, h⟩ := cal_e h
  refine rCallI C hd (c_X0_hasCopy hE er1) kX7_204 3 rfl rfl rfl rfl hl.1 rfl (Nat.le_of_ble_eq_true rfl) ⟨(Nat.le_of_ble_eq_true rfl), (Nat.le_of_ble_eq_true rfl)⟩ ⟨Nat.le_refl _, Nat.le_refl _⟩ dX7_source_5 (fun H locs hd => ?_)
  refine lv_if_eq (tgt := 22) hx hb dX7_source_8 (by decide) (fun c2 => ?_) (fun c2 => ?_)
  · replace h := iteT c2 h
    refine lv_iconst (v := (-1 : Int32)) hx hb dX7_source_22 ic_m1 ?_
    exact rIretP C hr hd h dX7_source_23
  · replace h := iteF c2 h
    refine lv_aload_n hx hb dX7_source_11 rfl (lv_at hl 0 rfl) ?_
    refine gX7_10 C hd dX7_source_12 ?_
    refine lv_iload_n hx hb dX7_source_15 rfl (lv_at hl 2 rfl) ?_
    obtain ⟨r3, er3, h⟩ := cal_e h
    refine rCallI C hd (c_X5_hasPage hE er3) kX7_192 1 rfl rfl rfl rfl hl.1 rfl (Nat.le_of_ble_eq_true rfl) ⟨(Nat.le_of_ble_eq_true rfl), (Nat.le_of_ble_eq_true rfl)⟩ ⟨Nat.le_refl _, Nat.le_refl _⟩ dX7_source_16 (fun H locs hd => ?_)
    refine lv_if_ne (tgt := 24) hx hb dX7_source_19 (by decide) (fun c4 => ?_) (fun c4 => ?_)
    · replace h := iteF c4 h
      refine lv_aload_n hx hb dX7_source_24 rfl (lv_at hl 0 rfl) ?_
      refine gX7_25 C hd dX7_source_25 ?_
      refine lv_aload_n hx hb dX7_source_28 rfl (lv_at hl 0 rfl) ?_
      refine gX7_25 C hd dX7_source_29 ?_
      refine lv_iload_n hx hb dX7_source_32 rfl (lv_at hl 1 rfl) ?_
      refine lv_iload_n hx hb dX7_source_33 rfl (lv_at hl 2 rfl) ?_
      obtain ⟨r5, er5, h⟩ := cal_e h
      refine rCallI C hd (c_X0_cellOf hE er5) kX7_229 3 rfl rfl rfl rfl hl.1 rfl (Nat.le_of_ble_eq_true rfl) ⟨(Nat.le_of_ble_eq_true rfl), (Nat.le_of_ble_eq_true rfl)⟩ ⟨Nat.le_refl _, Nat.le_refl _⟩ dX7_source_34 (fun H locs hd => ?_)
      obtain ⟨r6, er6, h⟩ := cal_e h
      refine rCallI C hd (c_X0_sourceIn hE er6) kX7_232 3 rfl rfl rfl rfl hl.1 rfl (Nat.le_of_ble_eq_true rfl) ⟨(Nat.le_of_ble_eq_true rfl), (Nat.le_of_ble_eq_true rfl)⟩ ⟨Nat.le_refl _, Nat.le_refl _⟩ dX7_source_37 (fun H locs hd => ?_)
      exact rIretP C hr hd h dX7_source_40
    · replace h := iteT c4 h
      refine lv_iconst (v := (-1 : Int32)) hx hb dX7_source_22 ic_m1 ?_
      exact rIretP C hr hd h dX7_source_23
noncomputable def f_X7_spare_109 (F : Nat) (k_73 : St → Int32 → Int32 → Int32 → Int32 → Option (Int32 × St)) (σ : St) (x3 : Int32) (x4 : Int32) (x5 : Int32) (y0 : Int32) (y1 : Int32) : Option (Int32 × St) :=
  bnd (y1 + y0) (fun v1 => bnd (x5 + 1) (fun v2 => k_73 σ v1 x3 x4 v2))
set_option maxRecDepth 100000 in
set_option maxHeartbeats 4000000 in
theorem w_X7_spare_109 {F : Nat} {r' : Int32} {σ' : St}  (C : Cx g p s m args meth c cX7_spare 6 RX7) (hr : meth.sig.returnType = some .int)
    {k_73 : St → Int32 → Int32 → Int32 → Int32 → Option (Int32 × St)} (hk_73 : (∀ (σ : St) (x2 : Int32) (x3 : Int32) (x4 : Int32) (x5 : Int32), k_73 σ x2 x3 x4 x5 = some (r', σ') → ∀ (H : Heap) (locs : List Loc) (ls : Array Slot), Dy g (wD g σ ++ X) s H locs → lv_has ls 6 [(0, .ref (ga g 0)), (2, .int x2), (3, .int x3), (4, .int x4), (5, .int x5)] → W p l e (rmD 5) s m args below meth c H locs 0 0 (QI g below args s (wD g σ' ++ X) r') (F0 m 73 ls []))) :
    (∀ (σ : St) (x3 : Int32) (x4 : Int32) (x5 : Int32) (y0 : Int32) (y1 : Int32), f_X7_spare_109 F k_73 σ x3 x4 x5 y0 y1 = some (r', σ') → ∀ (H : Heap) (locs : List Loc) (ls : Array Slot), Dy g (wD g σ ++ X) s H locs → lv_has ls 6 [(0, .ref (ga g 0)), (3, .int x3), (4, .int x4), (5, .int x5)] → W p l e (rmD 5) s m args below meth c H locs 0 0 (QI g below args s (wD g σ' ++ X) r') (F0 m 109 ls [.int y0, .int y1])) := by
  have hx := C.1
  have hb := C.2.1
  have hE := C.2.2.2.2.2.2.2.2
  intro σ x3 x4 x5 y0 y1 h H locs ls hd hl
  rw [f_X7_spare_109] at h
  refine lv_iadd hx hb dX7_spare_109 ?_
  obtain ⟨v1, ev1, h⟩ := bnd_e h
  refine rTop ev1 ?_
  refine lv_istore_n (lv' := [(2, .int v1), (0, .ref (ga g 0)), (3, .int x3), (4, .int x4), (5, .int x5)]) hx hb dX7_spare_110 rfl hl (Nat.le_of_ble_eq_true rfl) rfl (fun ls hl => ?_)
  obtain ⟨v2, ev2, h⟩ := bnd_e h
  refine lv_iinc (v := v2) (lv' := [(5, .int v2), (2, .int v1), (0, .ref (ga g 0)), (3, .int x3), (4, .int x4)]) hx hb dX7_spare_111 hl (k := 4) rfl ((ii_1 _).trans ev2.symm) (Nat.le_of_ble_eq_true rfl) rfl (fun ls hl => ?_)
  refine lv_goto (tgt := 73) hx hb dX7_spare_114 (by decide) ?_
  exact hk_73 σ v1 x3 x4 v2 h _ _ _ hd (lv_sub hl [2, 1, 3, 4, 0] rfl)
noncomputable def f_X7_spare_73 (F : Nat) : Nat → St → Int32 → Int32 → Int32 → Int32 → Option (Int32 × St)
  | 0, _, _, _, _, _ => none
  | n + 1, σ, x2, x3, x4, x5 => if x4 < x5 then (cal (f_X2_keptPieces F σ) (fun r2 => some ((r2 - x2), σ))) else (cal (f_X2_keeperOf F σ x3 x5) (fun r3 => cal (f_X2_conditionOf F σ r3 x5) (fun r4 => if r4 < 1 then (f_X7_spare_109 F (f_X7_spare_73 F n) σ x3 x4 x5 0 x2) else (f_X7_spare_109 F (f_X7_spare_73 F n) σ x3 x4 x5 1 x2))))
set_option maxRecDepth 100000 in
set_option maxHeartbeats 4000000 in
theorem w_X7_spare_73 {F : Nat} {r' : Int32} {σ' : St}  (C : Cx g p s m args meth c cX7_spare 6 RX7) (hr : meth.sig.returnType = some .int) :
    (∀ (n : Nat) (σ : St) (x2 : Int32) (x3 : Int32) (x4 : Int32) (x5 : Int32), f_X7_spare_73 F n σ x2 x3 x4 x5 = some (r', σ') → ∀ (H : Heap) (locs : List Loc) (ls : Array Slot), Dy g (wD g σ ++ X) s H locs → lv_has ls 6 [(0, .ref (ga g 0)), (2, .int x2), (3, .int x3), (4, .int x4), (5, .int x5)] → W p l e (rmD 5) s m args below meth c H locs 0 0 (QI g below args s (wD g σ' ++ X) r') (F0 m 73 ls [])) := by
  have hx := C.1
  have hb := C.2.1
  have hE := C.2.2.2.2.2.2.2.2
  intro n
  induction n with
  | zero =>
    intro σ x2 x3 x4 x5 h
    cases h
  | succ n ih =>
    intro σ x2 x3 x4 x5 h H locs ls hd hl
    rw [f_X7_spare_73] at h
    refine lv_iload hx hb dX7_spare_73 (lv_at hl 4 rfl) ?_
    refine lv_iload hx hb dX7_spare_75 (lv_at hl 3 rfl) ?_
    refine lv_icmp_gt (tgt := 117) hx hb dX7_spare_77 (by decide) (fun c1 => ?_) (fun c1 => ?_)
    · replace h := iteT c1 h
      refine lv_aload_n hx hb dX7_spare_117 rfl (lv_at hl 0 rfl) ?_
      refine gX7_20 C hd dX7_spare_118 ?_
      obtain ⟨r2, er2, h⟩ := cal_e h
      refine rCallI C hd (c_X2_keptPieces hE er2) kX7_407 2 rfl rfl rfl rfl hl.1 rfl (Nat.le_of_ble_eq_true rfl) ⟨(Nat.le_of_ble_eq_true rfl), (Nat.le_of_ble_eq_true rfl)⟩ ⟨Nat.le_refl _, Nat.le_refl _⟩ dX7_spare_121 (fun H locs hd => ?_)
      refine lv_iload_n hx hb dX7_spare_124 rfl (lv_at hl 1 rfl) ?_
      refine lv_isub hx hb dX7_spare_125 ?_
      exact rIretS (w := wD g) C hr hd h dX7_spare_126
    · replace h := iteF c1 h
      refine lv_iload_n hx hb dX7_spare_80 rfl (lv_at hl 1 rfl) ?_
      refine lv_aload_n hx hb dX7_spare_81 rfl (lv_at hl 0 rfl) ?_
      refine gX7_20 C hd dX7_spare_82 ?_
      refine lv_aload_n hx hb dX7_spare_85 rfl (lv_at hl 0 rfl) ?_
      refine gX7_20 C hd dX7_spare_86 ?_
      refine lv_iload_n hx hb dX7_spare_89 rfl (lv_at hl 2 rfl) ?_
      refine lv_iload hx hb dX7_spare_90 (lv_at hl 4 rfl) ?_
      obtain ⟨r3, er3, h⟩ := cal_e h
      refine rCallI C hd (c_X2_keeperOf hE er3) kX7_363 2 rfl rfl rfl rfl hl.1 rfl (Nat.le_of_ble_eq_true rfl) ⟨(Nat.le_of_ble_eq_true rfl), (Nat.le_of_ble_eq_true rfl)⟩ ⟨Nat.le_refl _, Nat.le_refl _⟩ dX7_spare_92 (fun H locs hd => ?_)
      refine lv_iload hx hb dX7_spare_95 (lv_at hl 4 rfl) ?_
      obtain ⟨r4, er4, h⟩ := cal_e h
      refine rCallI C hd (c_X2_conditionOf hE er4) kX7_256 2 rfl rfl rfl rfl hl.1 rfl (Nat.le_of_ble_eq_true rfl) ⟨(Nat.le_of_ble_eq_true rfl), (Nat.le_of_ble_eq_true rfl)⟩ ⟨Nat.le_refl _, Nat.le_refl _⟩ dX7_spare_97 (fun H locs hd => ?_)
      refine lv_iconst (v := 1) hx hb dX7_spare_100 ic_1 ?_
      refine lv_icmp_lt (tgt := 108) hx hb dX7_spare_101 (by decide) (fun c5 => ?_) (fun c5 => ?_)
      · replace h := iteT c5 h
        refine lv_iconst (v := 0) hx hb dX7_spare_108 ic_0 ?_
        exact w_X7_spare_109 C hr ih σ x3 x4 x5 0 x2 h _ _ _ hd (lv_sub hl [0, 2, 3, 4] rfl)
      · replace h := iteF c5 h
        refine lv_iconst (v := 1) hx hb dX7_spare_104 ic_1 ?_
        refine lv_goto (tgt := 109) hx hb dX7_spare_105 (by decide) ?_
        exact w_X7_spare_109 C hr ih σ x3 x4 x5 1 x2 h _ _ _ hd (lv_sub hl [0, 2, 3, 4] rfl)
noncomputable def f_X7_spare_37 (F : Nat) (k_5 : St → Int32 → Int32 → Option (Int32 × St)) (σ : St) (x2 : Int32) (y0 : Int32) : Option (Int32 × St) :=
  bnd (x2 + 1) (fun v1 => k_5 σ y0 v1)
set_option maxRecDepth 100000 in
set_option maxHeartbeats 4000000 in
theorem w_X7_spare_37 {F : Nat} {r' : Int32} {σ' : St}  (C : Cx g p s m args meth c cX7_spare 6 RX7) (hr : meth.sig.returnType = some .int)
    {k_5 : St → Int32 → Int32 → Option (Int32 × St)} (hk_5 : (∀ (σ : St) (x1 : Int32) (x2 : Int32), k_5 σ x1 x2 = some (r', σ') → ∀ (H : Heap) (locs : List Loc) (ls : Array Slot), Dy g (wD g σ ++ X) s H locs → lv_has ls 6 [(0, .ref (ga g 0)), (1, .int x1), (2, .int x2)] → W p l e (rmD 5) s m args below meth c H locs 0 0 (QI g below args s (wD g σ' ++ X) r') (F0 m 5 ls []))) :
    (∀ (σ : St) (x2 : Int32) (y0 : Int32), f_X7_spare_37 F k_5 σ x2 y0 = some (r', σ') → ∀ (H : Heap) (locs : List Loc) (ls : Array Slot), Dy g (wD g σ ++ X) s H locs → lv_has ls 6 [(0, .ref (ga g 0)), (2, .int x2)] → W p l e (rmD 5) s m args below meth c H locs 0 0 (QI g below args s (wD g σ' ++ X) r') (F0 m 37 ls [.int y0])) := by
  have hx := C.1
  have hb := C.2.1
  have hE := C.2.2.2.2.2.2.2.2
  intro σ x2 y0 h H locs ls hd hl
  rw [f_X7_spare_37] at h
  refine lv_istore_n (lv' := [(1, .int y0), (0, .ref (ga g 0)), (2, .int x2)]) hx hb dX7_spare_37 rfl hl (Nat.le_of_ble_eq_true rfl) rfl (fun ls hl => ?_)
  obtain ⟨v1, ev1, h⟩ := bnd_e h
  refine lv_iinc (v := v1) (lv' := [(2, .int v1), (1, .int y0), (0, .ref (ga g 0))]) hx hb dX7_spare_38 hl (k := 2) rfl ((ii_1 _).trans ev1.symm) (Nat.le_of_ble_eq_true rfl) rfl (fun ls hl => ?_)
  refine lv_goto (tgt := 5) hx hb dX7_spare_41 (by decide) ?_
  exact hk_5 σ y0 v1 h _ _ _ hd (lv_sub hl [2, 1, 0] rfl)
noncomputable def f_X7_spare_5 (F : Nat) : Nat → St → Int32 → Int32 → Option (Int32 × St)
  | 0, _, _, _ => none
  | n + 1, σ, x1, x2 => if (σ.1 8) ≤ x2 then (cal (f_X2_going F σ) (fun r2 => cal (f_X2_now F σ) (fun r3 => cal (f_X2_pieceHolding F σ r3) (fun r4 => f_X7_spare_73 F F σ 0 r2 r4 x1)))) else (cal2 (f_X7_firstPinnedBy F σ x2) (fun r5 t6 => if r5 = (-2 : Int32) then (f_X7_spare_37 F (f_X7_spare_5 F n) t6 x2 x1) else (f_X7_spare_37 F (f_X7_spare_5 F n) t6 x2 (mn x1 r5))))
set_option maxRecDepth 100000 in
set_option maxHeartbeats 4000000 in
theorem w_X7_spare_5 {F : Nat} {r' : Int32} {σ' : St}  (C : Cx g p s m args meth c cX7_spare 6 RX7) (hr : meth.sig.returnType = some .int) :
    (∀ (n : Nat) (σ : St) (x1 : Int32) (x2 : Int32), f_X7_spare_5 F n σ x1 x2 = some (r', σ') → ∀ (H : Heap) (locs : List Loc) (ls : Array Slot), Dy g (wD g σ ++ X) s H locs → lv_has ls 6 [(0, .ref (ga g 0)), (1, .int x1), (2, .int x2)] → W p l e (rmD 5) s m args below meth c H locs 0 0 (QI g below args s (wD g σ' ++ X) r') (F0 m 5 ls [])) := by
  have hx := C.1
  have hb := C.2.1
  have hE := C.2.2.2.2.2.2.2.2
  intro n
  induction n with
  | zero =>
    intro σ x1 x2 h
    cases h
  | succ n ih =>
    intro σ x1 x2 h H locs ls hd hl
    rw [f_X7_spare_5] at h
    refine lv_iload_n hx hb dX7_spare_5 rfl (lv_at hl 2 rfl) ?_
    refine lv_aload_n hx hb dX7_spare_6 rfl (lv_at hl 0 rfl) ?_
    refine gX7_25 C hd dX7_spare_7 ?_
    refine gX7_132 C hd dX7_spare_10 ?_
    refine lv_icmp_ge (tgt := 44) hx hb dX7_spare_13 (by decide) (fun c1 => ?_) (fun c1 => ?_)
    · replace h := iteT c1 h
      refine lv_iconst (v := 0) hx hb dX7_spare_44 ic_0 ?_
      refine lv_istore_n (lv' := [(2, .int 0), (0, .ref (ga g 0)), (1, .int x1)]) hx hb dX7_spare_45 rfl hl (Nat.le_of_ble_eq_true rfl) rfl (fun ls hl => ?_)
      refine lv_aload_n hx hb dX7_spare_46 rfl (lv_at hl 1 rfl) ?_
      refine gX7_20 C hd dX7_spare_47 ?_
      obtain ⟨r2, er2, h⟩ := cal_e h
      refine rCallI C hd (c_X2_going hE er2) kX7_129 2 rfl rfl rfl rfl hl.1 rfl (Nat.le_of_ble_eq_true rfl) ⟨(Nat.le_of_ble_eq_true rfl), (Nat.le_of_ble_eq_true rfl)⟩ ⟨Nat.le_refl _, Nat.le_refl _⟩ dX7_spare_50 (fun H locs hd => ?_)
      refine lv_istore_n (lv' := [(3, .int r2), (2, .int 0), (0, .ref (ga g 0)), (1, .int x1)]) hx hb dX7_spare_53 rfl hl (Nat.le_of_ble_eq_true rfl) rfl (fun ls hl => ?_)
      refine lv_aload_n hx hb dX7_spare_54 rfl (lv_at hl 2 rfl) ?_
      refine gX7_20 C hd dX7_spare_55 ?_
      refine lv_aload_n hx hb dX7_spare_58 rfl (lv_at hl 2 rfl) ?_
      refine gX7_20 C hd dX7_spare_59 ?_
      obtain ⟨r3, er3, h⟩ := cal_e h
      refine rCallI C hd (c_X2_now hE er3) kX7_123 2 rfl rfl rfl rfl hl.1 rfl (Nat.le_of_ble_eq_true rfl) ⟨(Nat.le_of_ble_eq_true rfl), (Nat.le_of_ble_eq_true rfl)⟩ ⟨Nat.le_refl _, Nat.le_refl _⟩ dX7_spare_62 (fun H locs hd => ?_)
      obtain ⟨r4, er4, h⟩ := cal_e h
      refine rCallI C hd (c_X2_pieceHolding hE er4) kX7_297 2 rfl rfl rfl rfl hl.1 rfl (Nat.le_of_ble_eq_true rfl) ⟨(Nat.le_of_ble_eq_true rfl), (Nat.le_of_ble_eq_true rfl)⟩ ⟨Nat.le_refl _, Nat.le_refl _⟩ dX7_spare_65 (fun H locs hd => ?_)
      refine lv_istore (lv' := [(4, .int r4), (3, .int r2), (2, .int 0), (0, .ref (ga g 0)), (1, .int x1)]) hx hb dX7_spare_68 hl (Nat.le_of_ble_eq_true rfl) rfl (fun ls hl => ?_)
      refine lv_iload_n hx hb dX7_spare_70 rfl (lv_at hl 4 rfl) ?_
      refine lv_istore (lv' := [(5, .int x1), (4, .int r4), (3, .int r2), (2, .int 0), (0, .ref (ga g 0)), (1, .int x1)]) hx hb dX7_spare_71 hl (Nat.le_of_ble_eq_true rfl) rfl (fun ls hl => ?_)
      exact w_X7_spare_73 C hr _ σ 0 r2 r4 x1 h _ _ _ hd (lv_sub hl [4, 3, 2, 1, 0] rfl)
    · replace h := iteF c1 h
      refine lv_aload_n hx hb dX7_spare_16 rfl (lv_at hl 0 rfl) ?_
      refine lv_iload_n hx hb dX7_spare_17 rfl (lv_at hl 2 rfl) ?_
      obtain ⟨r5, t6, et6, h⟩ := cal2_e h
      refine rCallI C hd (c_X7_firstPinnedBy hE et6) kX7_366 0 rfl rfl rfl rfl hl.1 rfl (Nat.le_of_ble_eq_true rfl) ⟨(Nat.le_of_ble_eq_true rfl), (Nat.le_of_ble_eq_true rfl)⟩ ⟨Nat.le_refl _, Nat.le_refl _⟩ dX7_spare_18 (fun H locs hd => ?_)
      refine lv_istore_n (lv' := [(3, .int r5), (0, .ref (ga g 0)), (1, .int x1), (2, .int x2)]) hx hb dX7_spare_21 rfl hl (Nat.le_of_ble_eq_true rfl) rfl (fun ls hl => ?_)
      refine lv_iload_n hx hb dX7_spare_22 rfl (lv_at hl 0 rfl) ?_
      refine lv_bipush (v := (-2 : Int32)) hx hb dX7_spare_23 bi_m2 ?_
      refine lv_icmp_ne (tgt := 32) hx hb dX7_spare_25 (by decide) (fun c7 => ?_) (fun c7 => ?_)
      · replace h := iteF c7 h
        refine lv_iload_n hx hb dX7_spare_32 rfl (lv_at hl 2 rfl) ?_
        refine lv_iload_n hx hb dX7_spare_33 rfl (lv_at hl 0 rfl) ?_
        refine rMin C hl.1 (mT 1176 (by decide +kernel)) (mT 380 (by decide +kernel)) (mT 14 (by decide +kernel)) (mT 381 (by decide +kernel)) ⟨(Nat.le_of_ble_eq_true rfl), (Nat.le_of_ble_eq_true rfl)⟩ ⟨Nat.le_refl _, Nat.le_refl _⟩ dX7_spare_34 ?_
        exact w_X7_spare_37 C hr ih t6 x2 (mn x1 r5) h _ _ _ hd (lv_sub hl [1, 3] rfl)
      · replace h := iteT c7 h
        refine lv_iload_n hx hb dX7_spare_28 rfl (lv_at hl 2 rfl) ?_
        refine lv_goto (tgt := 37) hx hb dX7_spare_29 (by decide) ?_
        exact w_X7_spare_37 C hr ih t6 x2 x1 h _ _ _ hd (lv_sub hl [1, 3] rfl)
noncomputable def f_X7_spare (F : Nat) (σ : St) : Option (Int32 × St) :=
  f_X7_spare_5 F F σ 120 0
set_option maxRecDepth 100000 in
set_option maxHeartbeats 4000000 in
theorem c_X7_spare {l : Launch} {g : Gp} {X : va_W} (hE : E0 g) {F : Nat} {r' : Int32} {σ' : St} {σ : St} (h : f_X7_spare F σ = some (r', σ')) : Ci l g yX7_spare cX7_spare 6 (some .int) 5 [.ref (ga g 0)] (wD g σ ++ X) r' (wD g σ' ++ X) := by
  refine rHead hE (by decide +kernel) (Nat.le_of_ble_eq_true rfl) (fun p e s m below meth c C hr _ hd ls hl => ?_)
  have hx := C.1
  have hb := C.2.1
  have hl : lv_has ls 6 [(0, .ref (ga g 0))] := hl
  generalize ([.ref (ga g 0)] : List Value).toArray = args at C ⊢
  have C : Cx g p s m args meth c cX7_spare 6 RX7 := C
  rw [f_X7_spare] at h
  refine lv_bipush (v := 120) hx hb dX7_spare_0 bi_120 ?_
  refine lv_istore_n (lv' := [(1, .int 120), (0, .ref (ga g 0))]) hx hb dX7_spare_2 rfl hl (Nat.le_of_ble_eq_true rfl) rfl (fun ls hl => ?_)
  refine lv_iconst (v := 0) hx hb dX7_spare_3 ic_0 ?_
  refine lv_istore_n (lv' := [(2, .int 0), (1, .int 120), (0, .ref (ga g 0))]) hx hb dX7_spare_4 rfl hl (Nat.le_of_ble_eq_true rfl) rfl (fun ls hl => ?_)
  exact w_X7_spare_5 C hr _ σ 120 0 h _ _ _ hd (lv_sub hl [2, 1, 0] rfl)
noncomputable def f_X7_stop_23 (F : Nat) : Nat → St → Int32 → Int32 → Int32 → Int32 → Option Int32
  | 0, _, _, _, _, _ => none
  | n + 1, σ, x1, x2, x3, x4 => if x4 ≤ 0 then (some (-2 : Int32)) else (cal (f_X2_rowOf F σ x1 x4) (fun r2 => cal (f_X2_isMark F σ r2 x2) (fun r3 => if r3 = 0 then (bnd (x4 + (-1 : Int32)) (fun v5 => f_X7_stop_23 F n σ x1 x2 x3 v5)) else (if x3 = 0 then (some (x4 - 1)) else (some x4)))))
set_option maxRecDepth 100000 in
set_option maxHeartbeats 4000000 in
theorem w_X7_stop_23 {F : Nat} {r' : Int32}  (C : Cx g p s m args meth c cX7_stop 5 RX7) (hr : meth.sig.returnType = some .int) :
    (∀ (n : Nat) (σ : St) (x1 : Int32) (x2 : Int32) (x3 : Int32) (x4 : Int32), f_X7_stop_23 F n σ x1 x2 x3 x4 = some r' → ∀ (H : Heap) (locs : List Loc) (ls : Array Slot), Dy g (wD g σ ++ X) s H locs → lv_has ls 5 [(0, .ref (ga g 0)), (1, .int x1), (2, .int x2), (3, .int x3), (4, .int x4)] → W p l e (rmD 2) s m args below meth c H locs 0 0 (QI g below args s (wD g σ ++ X) r') (F0 m 23 ls [])) := by
  have hx := C.1
  have hb := C.2.1
  have hE := C.2.2.2.2.2.2.2.2
  intro n
  induction n with
  | zero =>
    intro σ x1 x2 x3 x4 h
    cases h
  | succ n ih =>
    intro σ x1 x2 x3 x4 h H locs ls hd hl
    rw [f_X7_stop_23] at h
    refine lv_iload hx hb dX7_stop_23 (lv_at hl 4 rfl) ?_
    refine lv_if_le (tgt := 69) hx hb dX7_stop_25 (by decide) (fun c1 => ?_) (fun c1 => ?_)
    · replace h := iteT c1 h
      refine lv_bipush (v := (-2 : Int32)) hx hb dX7_stop_69 bi_m2 ?_
      exact rIretP C hr hd h dX7_stop_71
    · replace h := iteF c1 h
      refine lv_aload_n hx hb dX7_stop_28 rfl (lv_at hl 0 rfl) ?_
      refine gX7_20 C hd dX7_stop_29 ?_
      refine lv_aload_n hx hb dX7_stop_32 rfl (lv_at hl 0 rfl) ?_
      refine gX7_20 C hd dX7_stop_33 ?_
      refine lv_iload_n hx hb dX7_stop_36 rfl (lv_at hl 1 rfl) ?_
      refine lv_iload hx hb dX7_stop_37 (lv_at hl 4 rfl) ?_
      obtain ⟨r2, er2, h⟩ := cal_e h
      refine rCallI C hd (c_X2_rowOf hE er2) kX7_266 2 rfl rfl rfl rfl hl.1 rfl (Nat.le_of_ble_eq_true rfl) ⟨(Nat.le_of_ble_eq_true rfl), (Nat.le_of_ble_eq_true rfl)⟩ ⟨Nat.le_refl _, Nat.le_refl _⟩ dX7_stop_39 (fun H locs hd => ?_)
      refine lv_iload_n hx hb dX7_stop_42 rfl (lv_at hl 2 rfl) ?_
      obtain ⟨r3, er3, h⟩ := cal_e h
      refine rCallI C hd (c_X2_isMark hE er3) kX7_384 2 rfl rfl rfl rfl hl.1 rfl (Nat.le_of_ble_eq_true rfl) ⟨(Nat.le_of_ble_eq_true rfl), (Nat.le_of_ble_eq_true rfl)⟩ ⟨Nat.le_refl _, Nat.le_refl _⟩ dX7_stop_43 (fun H locs hd => ?_)
      refine lv_if_eq (tgt := 63) hx hb dX7_stop_46 (by decide) (fun c4 => ?_) (fun c4 => ?_)
      · replace h := iteT c4 h
        obtain ⟨v5, ev5, h⟩ := bnd_e h
        refine lv_iinc (v := v5) (lv' := [(4, .int v5), (0, .ref (ga g 0)), (1, .int x1), (2, .int x2), (3, .int x3)]) hx hb dX7_stop_63 hl (k := 4) rfl ((ii_m1 _).trans ev5.symm) (Nat.le_of_ble_eq_true rfl) rfl (fun ls hl => ?_)
        refine lv_goto (tgt := 23) hx hb dX7_stop_66 (by decide) ?_
        exact ih σ x1 x2 x3 v5 h _ _ _ hd (lv_sub hl [1, 2, 3, 4, 0] rfl)
      · replace h := iteF c4 h
        refine lv_iload_n hx hb dX7_stop_49 rfl (lv_at hl 3 rfl) ?_
        refine lv_if_eq (tgt := 58) hx hb dX7_stop_50 (by decide) (fun c6 => ?_) (fun c6 => ?_)
        · replace h := iteT c6 h
          refine lv_iload hx hb dX7_stop_58 (lv_at hl 4 rfl) ?_
          refine lv_iconst (v := 1) hx hb dX7_stop_60 ic_1 ?_
          refine lv_isub hx hb dX7_stop_61 ?_
          exact rIretP C hr hd h dX7_stop_62
        · replace h := iteF c6 h
          refine lv_iload hx hb dX7_stop_53 (lv_at hl 4 rfl) ?_
          refine lv_goto (tgt := 62) hx hb dX7_stop_55 (by decide) ?_
          exact rIretP C hr hd h dX7_stop_62
noncomputable def f_X7_stop (F : Nat) (σ : St) (x1 : Int32) (x2 : Int32) (x3 : Int32) : Option Int32 :=
  cal (f_X2_hasLine F σ x1) (fun r1 => if r1 = 0 then (some (-1 : Int32)) else (cal (f_X2_tipOf F σ x1) (fun r3 => f_X7_stop_23 F F σ x1 x2 x3 r3)))
set_option maxRecDepth 100000 in
set_option maxHeartbeats 4000000 in
theorem c_X7_stop {l : Launch} {g : Gp} {X : va_W} (hE : E0 g) {F : Nat} {r' : Int32} {σ : St} {x1 : Int32} {x2 : Int32} {x3 : Int32} (h : f_X7_stop F σ x1 x2 x3 = some r') : Ci l g yX7_stop cX7_stop 5 (some .int) 2 [.ref (ga g 0), .int x1, .int x2, .int x3] (wD g σ ++ X) r' (wD g σ ++ X) := by
  refine rHead hE (by decide +kernel) (Nat.le_of_ble_eq_true rfl) (fun p e s m below meth c C hr _ hd ls hl => ?_)
  have hx := C.1
  have hb := C.2.1
  have hl : lv_has ls 5 [(0, .ref (ga g 0)), (1, .int x1), (2, .int x2), (3, .int x3)] := hl
  generalize ([.ref (ga g 0), .int x1, .int x2, .int x3] : List Value).toArray = args at C ⊢
  have C : Cx g p s m args meth c cX7_stop 5 RX7 := C
  rw [f_X7_stop] at h
  refine lv_aload_n hx hb dX7_stop_0 rfl (lv_at hl 0 rfl) ?_
  refine gX7_20 C hd dX7_stop_1 ?_
  refine lv_iload_n hx hb dX7_stop_4 rfl (lv_at hl 1 rfl) ?_
  obtain ⟨r1, er1, h⟩ := cal_e h
  refine rCallI C hd (c_X2_hasLine hE er1) kX7_282 2 rfl rfl rfl rfl hl.1 rfl (Nat.le_of_ble_eq_true rfl) ⟨(Nat.le_of_ble_eq_true rfl), (Nat.le_of_ble_eq_true rfl)⟩ ⟨Nat.le_refl _, Nat.le_refl _⟩ dX7_stop_5 (fun H locs hd => ?_)
  refine lv_if_ne (tgt := 13) hx hb dX7_stop_8 (by decide) (fun c2 => ?_) (fun c2 => ?_)
  · replace h := iteF c2 h
    refine lv_aload_n hx hb dX7_stop_13 rfl (lv_at hl 0 rfl) ?_
    refine gX7_20 C hd dX7_stop_14 ?_
    refine lv_iload_n hx hb dX7_stop_17 rfl (lv_at hl 1 rfl) ?_
    obtain ⟨r3, er3, h⟩ := cal_e h
    refine rCallI C hd (c_X2_tipOf hE er3) kX7_285 2 rfl rfl rfl rfl hl.1 rfl (Nat.le_of_ble_eq_true rfl) ⟨(Nat.le_of_ble_eq_true rfl), (Nat.le_of_ble_eq_true rfl)⟩ ⟨Nat.le_refl _, Nat.le_refl _⟩ dX7_stop_18 (fun H locs hd => ?_)
    refine lv_istore (lv' := [(4, .int r3), (0, .ref (ga g 0)), (1, .int x1), (2, .int x2), (3, .int x3)]) hx hb dX7_stop_21 hl (Nat.le_of_ble_eq_true rfl) rfl (fun ls hl => ?_)
    exact w_X7_stop_23 C hr _ σ x1 x2 x3 r3 h _ _ _ hd (lv_sub hl [1, 2, 3, 4, 0] rfl)
  · replace h := iteT c2 h
    refine lv_iconst (v := (-1 : Int32)) hx hb dX7_stop_11 ic_m1 ?_
    exact rIretP C hr hd h dX7_stop_12
noncomputable def f_X7_taken (F : Nat) (σ : St) (x1 : Int32) (x2 : Int32) : Option Int32 :=
  cal (f_X0_hasCopy F σ x1) (fun r1 => if r1 = 0 then (some (-1 : Int32)) else (cal (f_X5_hasPage F σ x2) (fun r3 => if r3 = 0 then (some (-1 : Int32)) else (cal (f_X0_cellOf F σ x1 x2) (fun r5 => cal (f_X0_placeIn F σ r5) (fun r6 => some r6))))))
set_option maxRecDepth 100000 in
set_option maxHeartbeats 4000000 in
theorem c_X7_taken {l : Launch} {g : Gp} {X : va_W} (hE : E0 g) {F : Nat} {r' : Int32} {σ : St} {x1 : Int32} {x2 : Int32} (h : f_X7_taken F σ x1 x2 = some r') : Ci l g yX7_taken cX7_taken 3 (some .int) 2 [.ref (ga g 0), .int x1, .int x2] (wD g σ ++ X) r' (wD g σ ++ X) := by
  refine rHead hE (by decide +kernel) (Nat.le_of_ble_eq_true rfl) (fun p e s m below meth c C hr _ hd ls hl => ?_)
  have hx := C.1
  have hb := C.2.1
  have hl : lv_has ls 3 [(0, .ref (ga g 0)), (1, .int x1), (2, .int x2)] := hl
  generalize ([.ref (ga g 0), .int x1, .int x2] : List Value).toArray = args at C ⊢
  have C : Cx g p s m args meth c cX7_taken 3 RX7 := C
  rw [f_X7_taken] at h
  refine lv_aload_n hx hb dX7_taken_0 rfl (lv_at hl 0 rfl) ?_
  refine gX7_25 C hd dX7_taken_1 ?_
  refine lv_iload_n hx hb dX7_taken_4 rfl (lv_at hl 1 rfl) ?_
  obtain ⟨r1, er1, h⟩ := cal_e h
  refine rCallI C hd (c_X0_hasCopy hE er1) kX7_204 3 rfl rfl rfl rfl hl.1 rfl (Nat.le_of_ble_eq_true rfl) ⟨(Nat.le_of_ble_eq_true rfl), (Nat.le_of_ble_eq_true rfl)⟩ ⟨Nat.le_refl _, Nat.le_refl _⟩ dX7_taken_5 (fun H locs hd => ?_)
  refine lv_if_eq (tgt := 22) hx hb dX7_taken_8 (by decide) (fun c2 => ?_) (fun c2 => ?_)
  · replace h := iteT c2 h
    refine lv_iconst (v := (-1 : Int32)) hx hb dX7_taken_22 ic_m1 ?_
    exact rIretP C hr hd h dX7_taken_23
  · replace h := iteF c2 h
    refine lv_aload_n hx hb dX7_taken_11 rfl (lv_at hl 0 rfl) ?_
    refine gX7_10 C hd dX7_taken_12 ?_
    refine lv_iload_n hx hb dX7_taken_15 rfl (lv_at hl 2 rfl) ?_
    obtain ⟨r3, er3, h⟩ := cal_e h
    refine rCallI C hd (c_X5_hasPage hE er3) kX7_192 1 rfl rfl rfl rfl hl.1 rfl (Nat.le_of_ble_eq_true rfl) ⟨(Nat.le_of_ble_eq_true rfl), (Nat.le_of_ble_eq_true rfl)⟩ ⟨Nat.le_refl _, Nat.le_refl _⟩ dX7_taken_16 (fun H locs hd => ?_)
    refine lv_if_ne (tgt := 24) hx hb dX7_taken_19 (by decide) (fun c4 => ?_) (fun c4 => ?_)
    · replace h := iteF c4 h
      refine lv_aload_n hx hb dX7_taken_24 rfl (lv_at hl 0 rfl) ?_
      refine gX7_25 C hd dX7_taken_25 ?_
      refine lv_aload_n hx hb dX7_taken_28 rfl (lv_at hl 0 rfl) ?_
      refine gX7_25 C hd dX7_taken_29 ?_
      refine lv_iload_n hx hb dX7_taken_32 rfl (lv_at hl 1 rfl) ?_
      refine lv_iload_n hx hb dX7_taken_33 rfl (lv_at hl 2 rfl) ?_
      obtain ⟨r5, er5, h⟩ := cal_e h
      refine rCallI C hd (c_X0_cellOf hE er5) kX7_229 3 rfl rfl rfl rfl hl.1 rfl (Nat.le_of_ble_eq_true rfl) ⟨(Nat.le_of_ble_eq_true rfl), (Nat.le_of_ble_eq_true rfl)⟩ ⟨Nat.le_refl _, Nat.le_refl _⟩ dX7_taken_34 (fun H locs hd => ?_)
      obtain ⟨r6, er6, h⟩ := cal_e h
      refine rCallI C hd (c_X0_placeIn hE er6) kX7_235 3 rfl rfl rfl rfl hl.1 rfl (Nat.le_of_ble_eq_true rfl) ⟨(Nat.le_of_ble_eq_true rfl), (Nat.le_of_ble_eq_true rfl)⟩ ⟨Nat.le_refl _, Nat.le_refl _⟩ dX7_taken_37 (fun H locs hd => ?_)
      exact rIretP C hr hd h dX7_taken_40
    · replace h := iteT c4 h
      refine lv_iconst (v := (-1 : Int32)) hx hb dX7_taken_22 ic_m1 ?_
      exact rIretP C hr hd h dX7_taken_23
noncomputable def f_X7_twice_20 (F : Nat) (σ : St) (x1 : Int32) (x2 : Int32) (x4 : Int32) (y0 : Int32) : Option (Int32 × St) :=
  if x4 < 1 then (some (0, σ)) else (if x4 = y0 then (some (0, σ)) else (cal (f_X2_setCondition F σ x1 x2 y0) (fun t3 => some (1, t3))))
set_option maxRecDepth 100000 in
set_option maxHeartbeats 4000000 in
theorem w_X7_twice_20 {F : Nat} {r' : Int32} {σ' : St}  (C : Cx g p s m args meth c cX7_twice 6 RX7) (hr : meth.sig.returnType = some .boolean) :
    (∀ (σ : St) (x1 : Int32) (x2 : Int32) (x4 : Int32) (y0 : Int32), f_X7_twice_20 F σ x1 x2 x4 y0 = some (r', σ') → ∀ (H : Heap) (locs : List Loc) (ls : Array Slot), Dy g (wD g σ ++ X) s H locs → lv_has ls 6 [(0, .ref (ga g 0)), (1, .int x1), (2, .int x2), (4, .int x4)] → W p l e (rmD 2) s m args below meth c H locs 0 0 (QI g below args s (wD g σ' ++ X) r') (F0 m 20 ls [.int y0])) := by
  have hx := C.1
  have hb := C.2.1
  have hE := C.2.2.2.2.2.2.2.2
  intro σ x1 x2 x4 y0 h H locs ls hd hl
  rw [f_X7_twice_20] at h
  refine lv_istore (lv' := [(5, .int y0), (0, .ref (ga g 0)), (1, .int x1), (2, .int x2), (4, .int x4)]) hx hb dX7_twice_20 hl (Nat.le_of_ble_eq_true rfl) rfl (fun ls hl => ?_)
  refine lv_iload hx hb dX7_twice_22 (lv_at hl 4 rfl) ?_
  refine lv_iconst (v := 1) hx hb dX7_twice_24 ic_1 ?_
  refine lv_icmp_lt (tgt := 35) hx hb dX7_twice_25 (by decide) (fun c1 => ?_) (fun c1 => ?_)
  · replace h := iteT c1 h
    refine lv_iconst (v := 0) hx hb dX7_twice_35 ic_0 ?_
    exact rZretS (w := wD g) C hr hd h (by decide) dX7_twice_36
  · replace h := iteF c1 h
    refine lv_iload hx hb dX7_twice_28 (lv_at hl 4 rfl) ?_
    refine lv_iload hx hb dX7_twice_30 (lv_at hl 0 rfl) ?_
    refine lv_icmp_ne (tgt := 37) hx hb dX7_twice_32 (by decide) (fun c2 => ?_) (fun c2 => ?_)
    · replace h := iteF c2 h
      refine lv_aload_n hx hb dX7_twice_37 rfl (lv_at hl 1 rfl) ?_
      refine gX7_20 C hd dX7_twice_38 ?_
      refine lv_iload_n hx hb dX7_twice_41 rfl (lv_at hl 2 rfl) ?_
      refine lv_iload_n hx hb dX7_twice_42 rfl (lv_at hl 3 rfl) ?_
      refine lv_iload hx hb dX7_twice_43 (lv_at hl 0 rfl) ?_
      obtain ⟨t3, et3, h⟩ := cal_e h
      refine rCallV C hd (c_X2_setCondition hE et3) kX7_259 2 rfl rfl rfl rfl hl.1 rfl (Nat.le_of_ble_eq_true rfl) ⟨(Nat.le_of_ble_eq_true rfl), (Nat.le_of_ble_eq_true rfl)⟩ ⟨Nat.le_refl _, Nat.le_refl _⟩ dX7_twice_45 (fun H locs hd => ?_)
      refine lv_iconst (v := 1) hx hb dX7_twice_48 ic_1 ?_
      exact rZretS (w := wD g) C hr hd h (by decide) dX7_twice_49
    · replace h := iteT c2 h
      refine lv_iconst (v := 0) hx hb dX7_twice_35 ic_0 ?_
      exact rZretS (w := wD g) C hr hd h (by decide) dX7_twice_36
noncomputable def f_X7_twice (F : Nat) (σ : St) (x1 : Int32) (x2 : Int32) (x3 : Int32) : Option (Int32 × St) :=
  cal (f_X2_conditionOf F σ x1 x2) (fun r1 => if x3 = 0 then (f_X7_twice_20 F σ x1 x2 r1 3) else (f_X7_twice_20 F σ x1 x2 r1 2))
set_option maxRecDepth 100000 in
set_option maxHeartbeats 4000000 in
theorem c_X7_twice {l : Launch} {g : Gp} {X : va_W} (hE : E0 g) {F : Nat} {r' : Int32} {σ' : St} {σ : St} {x1 : Int32} {x2 : Int32} {x3 : Int32} (h : f_X7_twice F σ x1 x2 x3 = some (r', σ')) : Ci l g yX7_twice cX7_twice 6 (some .boolean) 2 [.ref (ga g 0), .int x1, .int x2, .int x3] (wD g σ ++ X) r' (wD g σ' ++ X) := by
  refine rHead hE (by decide +kernel) (Nat.le_of_ble_eq_true rfl) (fun p e s m below meth c C hr _ hd ls hl => ?_)
  have hx := C.1
  have hb := C.2.1
  have hl : lv_has ls 6 [(0, .ref (ga g 0)), (1, .int x1), (2, .int x2), (3, .int x3)] := hl
  generalize ([.ref (ga g 0), .int x1, .int x2, .int x3] : List Value).toArray = args at C ⊢
  have C : Cx g p s m args meth c cX7_twice 6 RX7 := C
  rw [f_X7_twice] at h
  refine lv_aload_n hx hb dX7_twice_0 rfl (lv_at hl 0 rfl) ?_
  refine gX7_20 C hd dX7_twice_1 ?_
  refine lv_iload_n hx hb dX7_twice_4 rfl (lv_at hl 1 rfl) ?_
  refine lv_iload_n hx hb dX7_twice_5 rfl (lv_at hl 2 rfl) ?_
  obtain ⟨r1, er1, h⟩ := cal_e h
  refine rCallI C hd (c_X2_conditionOf hE er1) kX7_256 2 rfl rfl rfl rfl hl.1 rfl (Nat.le_of_ble_eq_true rfl) ⟨(Nat.le_of_ble_eq_true rfl), (Nat.le_of_ble_eq_true rfl)⟩ ⟨Nat.le_refl _, Nat.le_refl _⟩ dX7_twice_6 (fun H locs hd => ?_)
  refine lv_istore (lv' := [(4, .int r1), (0, .ref (ga g 0)), (1, .int x1), (2, .int x2), (3, .int x3)]) hx hb dX7_twice_9 hl (Nat.le_of_ble_eq_true rfl) rfl (fun ls hl => ?_)
  refine lv_iload_n hx hb dX7_twice_11 rfl (lv_at hl 4 rfl) ?_
  refine lv_if_eq (tgt := 19) hx hb dX7_twice_12 (by decide) (fun c2 => ?_) (fun c2 => ?_)
  · replace h := iteT c2 h
    refine lv_iconst (v := 3) hx hb dX7_twice_19 ic_3 ?_
    exact w_X7_twice_20 C hr σ x1 x2 r1 3 h _ _ _ hd (lv_sub hl [1, 2, 3, 0] rfl)
  · replace h := iteF c2 h
    refine lv_iconst (v := 2) hx hb dX7_twice_15 ic_2 ?_
    refine lv_goto (tgt := 20) hx hb dX7_twice_16 (by decide) ?_
    exact w_X7_twice_20 C hr σ x1 x2 r1 2 h _ _ _ hd (lv_sub hl [1, 2, 3, 0] rfl)
noncomputable def f_X7_value (F : Nat) (σ : St) (x1 : Int32) (x2 : Int32) : Option Int32 :=
  cal (f_X2_rowOf F σ x1 x2) (fun r1 => cal (f_X2_amountIn F σ r1) (fun r2 => some r2))
set_option maxRecDepth 100000 in
set_option maxHeartbeats 4000000 in
theorem c_X7_value {l : Launch} {g : Gp} {X : va_W} (hE : E0 g) {F : Nat} {r' : Int32} {σ : St} {x1 : Int32} {x2 : Int32} (h : f_X7_value F σ x1 x2 = some r') : Ci l g yX7_value cX7_value 3 (some .int) 2 [.ref (ga g 0), .int x1, .int x2] (wD g σ ++ X) r' (wD g σ ++ X) := by
  refine rHead hE (by decide +kernel) (Nat.le_of_ble_eq_true rfl) (fun p e s m below meth c C hr _ hd ls hl => ?_)
  have hx := C.1
  have hb := C.2.1
  have hl : lv_has ls 3 [(0, .ref (ga g 0)), (1, .int x1), (2, .int x2)] := hl
  generalize ([.ref (ga g 0), .int x1, .int x2] : List Value).toArray = args at C ⊢
  have C : Cx g p s m args meth c cX7_value 3 RX7 := C
  rw [f_X7_value] at h
  refine lv_aload_n hx hb dX7_value_0 rfl (lv_at hl 0 rfl) ?_
  refine gX7_20 C hd dX7_value_1 ?_
  refine lv_aload_n hx hb dX7_value_4 rfl (lv_at hl 0 rfl) ?_
  refine gX7_20 C hd dX7_value_5 ?_
  refine lv_iload_n hx hb dX7_value_8 rfl (lv_at hl 1 rfl) ?_
  refine lv_iload_n hx hb dX7_value_9 rfl (lv_at hl 2 rfl) ?_
  obtain ⟨r1, er1, h⟩ := cal_e h
  refine rCallI C hd (c_X2_rowOf hE er1) kX7_266 2 rfl rfl rfl rfl hl.1 rfl (Nat.le_of_ble_eq_true rfl) ⟨(Nat.le_of_ble_eq_true rfl), (Nat.le_of_ble_eq_true rfl)⟩ ⟨Nat.le_refl _, Nat.le_refl _⟩ dX7_value_10 (fun H locs hd => ?_)
  obtain ⟨r2, er2, h⟩ := cal_e h
  refine rCallI C hd (c_X2_amountIn hE er2) kX7_279 2 rfl rfl rfl rfl hl.1 rfl (Nat.le_of_ble_eq_true rfl) ⟨(Nat.le_of_ble_eq_true rfl), (Nat.le_of_ble_eq_true rfl)⟩ ⟨Nat.le_refl _, Nat.le_refl _⟩ dX7_value_13 (fun H locs hd => ?_)
  exact rIretP C hr hd h dX7_value_16
noncomputable def f_X7_way_23 (F : Nat) : Nat → St → Int32 → Int32 → Int32 → Option Int32
  | 0, _, _, _, _ => none
  | n + 1, σ, x2, x3, x4 => if x2 ≤ x4 then (some x3) else (cal (f_X2_parentOf F σ x3) (fun r2 => bnd (x4 + 1) (fun v3 => f_X7_way_23 F n σ x2 r2 v3)))
set_option maxRecDepth 100000 in
set_option maxHeartbeats 4000000 in
theorem w_X7_way_23 {F : Nat} {r' : Int32}  (C : Cx g p s m args meth c cX7_way 5 RX7) (hr : meth.sig.returnType = some .int) :
    (∀ (n : Nat) (σ : St) (x2 : Int32) (x3 : Int32) (x4 : Int32), f_X7_way_23 F n σ x2 x3 x4 = some r' → ∀ (H : Heap) (locs : List Loc) (ls : Array Slot), Dy g (wD g σ ++ X) s H locs → lv_has ls 5 [(0, .ref (ga g 0)), (2, .int x2), (3, .int x3), (4, .int x4)] → W p l e (rmD 2) s m args below meth c H locs 0 0 (QI g below args s (wD g σ ++ X) r') (F0 m 23 ls [])) := by
  have hx := C.1
  have hb := C.2.1
  have hE := C.2.2.2.2.2.2.2.2
  intro n
  induction n with
  | zero =>
    intro σ x2 x3 x4 h
    cases h
  | succ n ih =>
    intro σ x2 x3 x4 h H locs ls hd hl
    rw [f_X7_way_23] at h
    refine lv_iload hx hb dX7_way_23 (lv_at hl 3 rfl) ?_
    refine lv_iload_n hx hb dX7_way_25 rfl (lv_at hl 1 rfl) ?_
    refine lv_icmp_ge (tgt := 44) hx hb dX7_way_26 (by decide) (fun c1 => ?_) (fun c1 => ?_)
    · replace h := iteT c1 h
      refine lv_iload_n hx hb dX7_way_44 rfl (lv_at hl 2 rfl) ?_
      exact rIretP C hr hd h dX7_way_45
    · replace h := iteF c1 h
      refine lv_aload_n hx hb dX7_way_29 rfl (lv_at hl 0 rfl) ?_
      refine gX7_20 C hd dX7_way_30 ?_
      refine lv_iload_n hx hb dX7_way_33 rfl (lv_at hl 2 rfl) ?_
      obtain ⟨r2, er2, h⟩ := cal_e h
      refine rCallI C hd (c_X2_parentOf hE er2) kX7_288 2 rfl rfl rfl rfl hl.1 rfl (Nat.le_of_ble_eq_true rfl) ⟨(Nat.le_of_ble_eq_true rfl), (Nat.le_of_ble_eq_true rfl)⟩ ⟨Nat.le_refl _, Nat.le_refl _⟩ dX7_way_34 (fun H locs hd => ?_)
      refine lv_istore_n (lv' := [(3, .int r2), (0, .ref (ga g 0)), (2, .int x2), (4, .int x4)]) hx hb dX7_way_37 rfl hl (Nat.le_of_ble_eq_true rfl) rfl (fun ls hl => ?_)
      obtain ⟨v3, ev3, h⟩ := bnd_e h
      refine lv_iinc (v := v3) (lv' := [(4, .int v3), (3, .int r2), (0, .ref (ga g 0)), (2, .int x2)]) hx hb dX7_way_38 hl (k := 3) rfl ((ii_1 _).trans ev3.symm) (Nat.le_of_ble_eq_true rfl) rfl (fun ls hl => ?_)
      refine lv_goto (tgt := 23) hx hb dX7_way_41 (by decide) ?_
      exact ih σ x2 r2 v3 h _ _ _ hd (lv_sub hl [2, 3, 1, 0] rfl)
noncomputable def f_X7_way (F : Nat) (σ : St) (x1 : Int32) (x2 : Int32) : Option Int32 :=
  if x2 < 0 then (some (-1 : Int32)) else (cal (f_X2_wayLength F σ x1) (fun r2 => if x2 < r2 then (f_X7_way_23 F F σ x2 x1 0) else (some (-1 : Int32))))
set_option maxRecDepth 100000 in
set_option maxHeartbeats 4000000 in
theorem c_X7_way {l : Launch} {g : Gp} {X : va_W} (hE : E0 g) {F : Nat} {r' : Int32} {σ : St} {x1 : Int32} {x2 : Int32} (h : f_X7_way F σ x1 x2 = some r') : Ci l g yX7_way cX7_way 5 (some .int) 2 [.ref (ga g 0), .int x1, .int x2] (wD g σ ++ X) r' (wD g σ ++ X) := by
  refine rHead hE (by decide +kernel) (Nat.le_of_ble_eq_true rfl) (fun p e s m below meth c C hr _ hd ls hl => ?_)
  have hx := C.1
  have hb := C.2.1
  have hl : lv_has ls 5 [(0, .ref (ga g 0)), (1, .int x1), (2, .int x2)] := hl
  generalize ([.ref (ga g 0), .int x1, .int x2] : List Value).toArray = args at C ⊢
  have C : Cx g p s m args meth c cX7_way 5 RX7 := C
  rw [f_X7_way] at h
  refine lv_iload_n hx hb dX7_way_0 rfl (lv_at hl 2 rfl) ?_
  refine lv_if_lt (tgt := 16) hx hb dX7_way_1 (by decide) (fun c1 => ?_) (fun c1 => ?_)
  · replace h := iteT c1 h
    refine lv_iconst (v := (-1 : Int32)) hx hb dX7_way_16 ic_m1 ?_
    exact rIretP C hr hd h dX7_way_17
  · replace h := iteF c1 h
    refine lv_iload_n hx hb dX7_way_4 rfl (lv_at hl 2 rfl) ?_
    refine lv_aload_n hx hb dX7_way_5 rfl (lv_at hl 0 rfl) ?_
    refine gX7_20 C hd dX7_way_6 ?_
    refine lv_iload_n hx hb dX7_way_9 rfl (lv_at hl 1 rfl) ?_
    obtain ⟨r2, er2, h⟩ := cal_e h
    refine rCallI C hd (c_X2_wayLength hE er2) kX7_294 2 rfl rfl rfl rfl hl.1 rfl (Nat.le_of_ble_eq_true rfl) ⟨(Nat.le_of_ble_eq_true rfl), (Nat.le_of_ble_eq_true rfl)⟩ ⟨Nat.le_refl _, Nat.le_refl _⟩ dX7_way_10 (fun H locs hd => ?_)
    refine lv_icmp_lt (tgt := 18) hx hb dX7_way_13 (by decide) (fun c3 => ?_) (fun c3 => ?_)
    · replace h := iteT c3 h
      refine lv_iload_n hx hb dX7_way_18 rfl (lv_at hl 1 rfl) ?_
      refine lv_istore_n (lv' := [(3, .int x1), (0, .ref (ga g 0)), (1, .int x1), (2, .int x2)]) hx hb dX7_way_19 rfl hl (Nat.le_of_ble_eq_true rfl) rfl (fun ls hl => ?_)
      refine lv_iconst (v := 0) hx hb dX7_way_20 ic_0 ?_
      refine lv_istore (lv' := [(4, .int 0), (3, .int x1), (0, .ref (ga g 0)), (1, .int x1), (2, .int x2)]) hx hb dX7_way_21 hl (Nat.le_of_ble_eq_true rfl) rfl (fun ls hl => ?_)
      exact w_X7_way_23 C hr _ σ x2 x1 0 h _ _ _ hd (lv_sub hl [2, 4, 1, 0] rfl)
    · replace h := iteF c3 h
      refine lv_iconst (v := (-1 : Int32)) hx hb dX7_way_16 ic_m1 ?_
      exact rIretP C hr hd h dX7_way_17
noncomputable def f_X7_where_61 (F : Nat) (k_20 : St → Int32 → Int32 → Int32 → Int32 → Int32 → Option Int32) (σ : St) (x1 : Int32) (x2 : Int32) (x3 : Int32) (x4 : Int32) (x5 : Int32) : Option Int32 :=
  bnd (x5 + 1) (fun v1 => k_20 σ x1 x2 x3 x4 v1)
set_option maxRecDepth 100000 in
set_option maxHeartbeats 4000000 in
theorem w_X7_where_61 {F : Nat} {r' : Int32}  (C : Cx g p s m args meth c cX7_where 6 RX7) (hr : meth.sig.returnType = some .int)
    {k_20 : St → Int32 → Int32 → Int32 → Int32 → Int32 → Option Int32} (hk_20 : (∀ (σ : St) (x1 : Int32) (x2 : Int32) (x3 : Int32) (x4 : Int32) (x5 : Int32), k_20 σ x1 x2 x3 x4 x5 = some r' → ∀ (H : Heap) (locs : List Loc) (ls : Array Slot), Dy g (wD g σ ++ X) s H locs → lv_has ls 6 [(0, .ref (ga g 0)), (1, .int x1), (2, .int x2), (3, .int x3), (4, .int x4), (5, .int x5)] → W p l e (rmD 2) s m args below meth c H locs 0 0 (QI g below args s (wD g σ ++ X) r') (F0 m 20 ls []))) :
    (∀ (σ : St) (x1 : Int32) (x2 : Int32) (x3 : Int32) (x4 : Int32) (x5 : Int32), f_X7_where_61 F k_20 σ x1 x2 x3 x4 x5 = some r' → ∀ (H : Heap) (locs : List Loc) (ls : Array Slot), Dy g (wD g σ ++ X) s H locs → lv_has ls 6 [(0, .ref (ga g 0)), (1, .int x1), (2, .int x2), (3, .int x3), (4, .int x4), (5, .int x5)] → W p l e (rmD 2) s m args below meth c H locs 0 0 (QI g below args s (wD g σ ++ X) r') (F0 m 61 ls [])) := by
  have hx := C.1
  have hb := C.2.1
  have hE := C.2.2.2.2.2.2.2.2
  intro σ x1 x2 x3 x4 x5 h H locs ls hd hl
  rw [f_X7_where_61] at h
  obtain ⟨v1, ev1, h⟩ := bnd_e h
  refine lv_iinc (v := v1) (lv' := [(5, .int v1), (0, .ref (ga g 0)), (1, .int x1), (2, .int x2), (3, .int x3), (4, .int x4)]) hx hb dX7_where_61 hl (k := 5) rfl ((ii_1 _).trans ev1.symm) (Nat.le_of_ble_eq_true rfl) rfl (fun ls hl => ?_)
  refine lv_goto (tgt := 20) hx hb dX7_where_64 (by decide) ?_
  exact hk_20 σ x1 x2 x3 x4 v1 h _ _ _ hd (lv_sub hl [1, 2, 3, 4, 5, 0] rfl)
noncomputable def f_X7_where_56 (F : Nat) (k_20 : St → Int32 → Int32 → Int32 → Int32 → Int32 → Option Int32) (σ : St) (x1 : Int32) (x2 : Int32) (x3 : Int32) (x5 : Int32) (y0 : Int32) : Option Int32 :=
  bnd (x3 + 1) (fun v1 => f_X7_where_61 F k_20 σ x1 x2 v1 y0 x5)
set_option maxRecDepth 100000 in
set_option maxHeartbeats 4000000 in
theorem w_X7_where_56 {F : Nat} {r' : Int32}  (C : Cx g p s m args meth c cX7_where 6 RX7) (hr : meth.sig.returnType = some .int)
    {k_20 : St → Int32 → Int32 → Int32 → Int32 → Int32 → Option Int32} (hk_20 : (∀ (σ : St) (x1 : Int32) (x2 : Int32) (x3 : Int32) (x4 : Int32) (x5 : Int32), k_20 σ x1 x2 x3 x4 x5 = some r' → ∀ (H : Heap) (locs : List Loc) (ls : Array Slot), Dy g (wD g σ ++ X) s H locs → lv_has ls 6 [(0, .ref (ga g 0)), (1, .int x1), (2, .int x2), (3, .int x3), (4, .int x4), (5, .int x5)] → W p l e (rmD 2) s m args below meth c H locs 0 0 (QI g below args s (wD g σ ++ X) r') (F0 m 20 ls []))) :
    (∀ (σ : St) (x1 : Int32) (x2 : Int32) (x3 : Int32) (x5 : Int32) (y0 : Int32), f_X7_where_56 F k_20 σ x1 x2 x3 x5 y0 = some r' → ∀ (H : Heap) (locs : List Loc) (ls : Array Slot), Dy g (wD g σ ++ X) s H locs → lv_has ls 6 [(0, .ref (ga g 0)), (1, .int x1), (2, .int x2), (3, .int x3), (5, .int x5)] → W p l e (rmD 2) s m args below meth c H locs 0 0 (QI g below args s (wD g σ ++ X) r') (F0 m 56 ls [.int y0])) := by
  have hx := C.1
  have hb := C.2.1
  have hE := C.2.2.2.2.2.2.2.2
  intro σ x1 x2 x3 x5 y0 h H locs ls hd hl
  rw [f_X7_where_56] at h
  refine lv_istore (lv' := [(4, .int y0), (0, .ref (ga g 0)), (1, .int x1), (2, .int x2), (3, .int x3), (5, .int x5)]) hx hb dX7_where_56 hl (Nat.le_of_ble_eq_true rfl) rfl (fun ls hl => ?_)
  obtain ⟨v1, ev1, h⟩ := bnd_e h
  refine lv_iinc (v := v1) (lv' := [(3, .int v1), (4, .int y0), (0, .ref (ga g 0)), (1, .int x1), (2, .int x2), (5, .int x5)]) hx hb dX7_where_58 hl (k := 4) rfl ((ii_1 _).trans ev1.symm) (Nat.le_of_ble_eq_true rfl) rfl (fun ls hl => ?_)
  exact w_X7_where_61 C hr hk_20 σ x1 x2 v1 y0 x5 h _ _ _ hd (lv_sub hl [2, 3, 4, 0, 1, 5] rfl)
noncomputable def f_X7_where_20 (F : Nat) : Nat → St → Int32 → Int32 → Int32 → Int32 → Int32 → Option Int32
  | 0, _, _, _, _, _, _ => none
  | n + 1, σ, x1, x2, x3, x4, x5 => if (σ.1 7) ≤ x5 then (if x2 = 0 then (some x3) else (if x3 = 0 then (some (-2 : Int32)) else (cal (f_X2_lineOfRow F σ x4) (fun r4 => if x2 = 1 then (some r4) else (cal (f_X2_placeOfRow F σ r4 x4) (fun r6 => some r6)))))) else (cal (f_X2_isMark F σ x5 x1) (fun r7 => if r7 = 0 then (f_X7_where_61 F (f_X7_where_20 F n) σ x1 x2 x3 x4 x5) else (if x3 = 0 then (f_X7_where_56 F (f_X7_where_20 F n) σ x1 x2 x3 x5 x5) else (f_X7_where_56 F (f_X7_where_20 F n) σ x1 x2 x3 x5 x4))))
set_option maxRecDepth 100000 in
set_option maxHeartbeats 4000000 in
theorem w_X7_where_20 {F : Nat} {r' : Int32}  (C : Cx g p s m args meth c cX7_where 6 RX7) (hr : meth.sig.returnType = some .int) :
    (∀ (n : Nat) (σ : St) (x1 : Int32) (x2 : Int32) (x3 : Int32) (x4 : Int32) (x5 : Int32), f_X7_where_20 F n σ x1 x2 x3 x4 x5 = some r' → ∀ (H : Heap) (locs : List Loc) (ls : Array Slot), Dy g (wD g σ ++ X) s H locs → lv_has ls 6 [(0, .ref (ga g 0)), (1, .int x1), (2, .int x2), (3, .int x3), (4, .int x4), (5, .int x5)] → W p l e (rmD 2) s m args below meth c H locs 0 0 (QI g below args s (wD g σ ++ X) r') (F0 m 20 ls [])) := by
  have hx := C.1
  have hb := C.2.1
  have hE := C.2.2.2.2.2.2.2.2
  intro n
  induction n with
  | zero =>
    intro σ x1 x2 x3 x4 x5 h
    cases h
  | succ n ih =>
    intro σ x1 x2 x3 x4 x5 h H locs ls hd hl
    rw [f_X7_where_20] at h
    refine lv_iload hx hb dX7_where_20 (lv_at hl 5 rfl) ?_
    refine lv_aload_n hx hb dX7_where_22 rfl (lv_at hl 0 rfl) ?_
    refine gX7_20 C hd dX7_where_23 ?_
    refine gX7_413 C hd dX7_where_26 ?_
    refine lv_icmp_ge (tgt := 67) hx hb dX7_where_29 (by decide) (fun c1 => ?_) (fun c1 => ?_)
    · replace h := iteT c1 h
      refine lv_iload_n hx hb dX7_where_67 rfl (lv_at hl 2 rfl) ?_
      refine lv_if_ne (tgt := 73) hx hb dX7_where_68 (by decide) (fun c2 => ?_) (fun c2 => ?_)
      · replace h := iteF c2 h
        refine lv_iload_n hx hb dX7_where_73 rfl (lv_at hl 3 rfl) ?_
        refine lv_if_ne (tgt := 80) hx hb dX7_where_74 (by decide) (fun c3 => ?_) (fun c3 => ?_)
        · replace h := iteF c3 h
          refine lv_aload_n hx hb dX7_where_80 rfl (lv_at hl 0 rfl) ?_
          refine gX7_20 C hd dX7_where_81 ?_
          refine lv_iload hx hb dX7_where_84 (lv_at hl 4 rfl) ?_
          obtain ⟨r4, er4, h⟩ := cal_e h
          refine rCallI C hd (c_X2_lineOfRow hE er4) kX7_276 2 rfl rfl rfl rfl hl.1 rfl (Nat.le_of_ble_eq_true rfl) ⟨(Nat.le_of_ble_eq_true rfl), (Nat.le_of_ble_eq_true rfl)⟩ ⟨Nat.le_refl _, Nat.le_refl _⟩ dX7_where_86 (fun H locs hd => ?_)
          refine lv_istore (lv' := [(5, .int r4), (0, .ref (ga g 0)), (1, .int x1), (2, .int x2), (3, .int x3), (4, .int x4)]) hx hb dX7_where_89 hl (Nat.le_of_ble_eq_true rfl) rfl (fun ls hl => ?_)
          refine lv_iload_n hx hb dX7_where_91 rfl (lv_at hl 3 rfl) ?_
          refine lv_iconst (v := 1) hx hb dX7_where_92 ic_1 ?_
          refine lv_icmp_ne (tgt := 101) hx hb dX7_where_93 (by decide) (fun c5 => ?_) (fun c5 => ?_)
          · replace h := iteF c5 h
            refine lv_aload_n hx hb dX7_where_101 rfl (lv_at hl 1 rfl) ?_
            refine gX7_20 C hd dX7_where_102 ?_
            refine lv_iload hx hb dX7_where_105 (lv_at hl 0 rfl) ?_
            refine lv_iload hx hb dX7_where_107 (lv_at hl 5 rfl) ?_
            obtain ⟨r6, er6, h⟩ := cal_e h
            refine rCallI C hd (c_X2_placeOfRow hE er6) kX7_416 2 rfl rfl rfl rfl hl.1 rfl (Nat.le_of_ble_eq_true rfl) ⟨(Nat.le_of_ble_eq_true rfl), (Nat.le_of_ble_eq_true rfl)⟩ ⟨Nat.le_refl _, Nat.le_refl _⟩ dX7_where_109 (fun H locs hd => ?_)
            exact rIretP C hr hd h dX7_where_112
          · replace h := iteT c5 h
            refine lv_iload hx hb dX7_where_96 (lv_at hl 0 rfl) ?_
            refine lv_goto (tgt := 112) hx hb dX7_where_98 (by decide) ?_
            exact rIretP C hr hd h dX7_where_112
        · replace h := iteT c3 h
          refine lv_bipush (v := (-2 : Int32)) hx hb dX7_where_77 bi_m2 ?_
          exact rIretP C hr hd h dX7_where_79
      · replace h := iteT c2 h
        refine lv_iload_n hx hb dX7_where_71 rfl (lv_at hl 3 rfl) ?_
        exact rIretP C hr hd h dX7_where_72
    · replace h := iteF c1 h
      refine lv_aload_n hx hb dX7_where_32 rfl (lv_at hl 0 rfl) ?_
      refine gX7_20 C hd dX7_where_33 ?_
      refine lv_iload hx hb dX7_where_36 (lv_at hl 5 rfl) ?_
      refine lv_iload_n hx hb dX7_where_38 rfl (lv_at hl 1 rfl) ?_
      obtain ⟨r7, er7, h⟩ := cal_e h
      refine rCallI C hd (c_X2_isMark hE er7) kX7_384 2 rfl rfl rfl rfl hl.1 rfl (Nat.le_of_ble_eq_true rfl) ⟨(Nat.le_of_ble_eq_true rfl), (Nat.le_of_ble_eq_true rfl)⟩ ⟨Nat.le_refl _, Nat.le_refl _⟩ dX7_where_39 (fun H locs hd => ?_)
      refine lv_if_eq (tgt := 61) hx hb dX7_where_42 (by decide) (fun c8 => ?_) (fun c8 => ?_)
      · replace h := iteT c8 h
        exact w_X7_where_61 C hr ih σ x1 x2 x3 x4 x5 h _ _ _ hd (lv_sub hl [0, 1, 2, 3, 4, 5] rfl)
      · replace h := iteF c8 h
        refine lv_iload_n hx hb dX7_where_45 rfl (lv_at hl 3 rfl) ?_
        refine lv_if_ne (tgt := 54) hx hb dX7_where_46 (by decide) (fun c9 => ?_) (fun c9 => ?_)
        · replace h := iteF c9 h
          refine lv_iload hx hb dX7_where_54 (lv_at hl 4 rfl) ?_
          exact w_X7_where_56 C hr ih σ x1 x2 x3 x5 x4 h _ _ _ hd (lv_sub hl [0, 1, 2, 3, 5] rfl)
        · replace h := iteT c9 h
          refine lv_iload hx hb dX7_where_49 (lv_at hl 5 rfl) ?_
          refine lv_goto (tgt := 56) hx hb dX7_where_51 (by decide) ?_
          exact w_X7_where_56 C hr ih σ x1 x2 x3 x5 x5 h _ _ _ hd (lv_sub hl [0, 1, 2, 3, 5] rfl)
noncomputable def f_X7_where (F : Nat) (σ : St) (x1 : Int32) (x2 : Int32) : Option Int32 :=
  if x2 < 0 then (some (-1 : Int32)) else (if x2 ≤ 2 then (f_X7_where_20 F F σ x1 x2 0 (-2 : Int32) 0) else (some (-1 : Int32)))
set_option maxRecDepth 100000 in
set_option maxHeartbeats 4000000 in
theorem c_X7_where {l : Launch} {g : Gp} {X : va_W} (hE : E0 g) {F : Nat} {r' : Int32} {σ : St} {x1 : Int32} {x2 : Int32} (h : f_X7_where F σ x1 x2 = some r') : Ci l g yX7_where cX7_where 6 (some .int) 2 [.ref (ga g 0), .int x1, .int x2] (wD g σ ++ X) r' (wD g σ ++ X) := by
  refine rHead hE (by decide +kernel) (Nat.le_of_ble_eq_true rfl) (fun p e s m below meth c C hr _ hd ls hl => ?_)
  have hx := C.1
  have hb := C.2.1
  have hl : lv_has ls 6 [(0, .ref (ga g 0)), (1, .int x1), (2, .int x2)] := hl
  generalize ([.ref (ga g 0), .int x1, .int x2] : List Value).toArray = args at C ⊢
  have C : Cx g p s m args meth c cX7_where 6 RX7 := C
  rw [f_X7_where] at h
  refine lv_iload_n hx hb dX7_where_0 rfl (lv_at hl 2 rfl) ?_
  refine lv_if_lt (tgt := 9) hx hb dX7_where_1 (by decide) (fun c1 => ?_) (fun c1 => ?_)
  · replace h := iteT c1 h
    refine lv_iconst (v := (-1 : Int32)) hx hb dX7_where_9 ic_m1 ?_
    exact rIretP C hr hd h dX7_where_10
  · replace h := iteF c1 h
    refine lv_iload_n hx hb dX7_where_4 rfl (lv_at hl 2 rfl) ?_
    refine lv_iconst (v := 2) hx hb dX7_where_5 ic_2 ?_
    refine lv_icmp_le (tgt := 11) hx hb dX7_where_6 (by decide) (fun c2 => ?_) (fun c2 => ?_)
    · replace h := iteT c2 h
      refine lv_iconst (v := 0) hx hb dX7_where_11 ic_0 ?_
      refine lv_istore_n (lv' := [(3, .int 0), (0, .ref (ga g 0)), (1, .int x1), (2, .int x2)]) hx hb dX7_where_12 rfl hl (Nat.le_of_ble_eq_true rfl) rfl (fun ls hl => ?_)
      refine lv_bipush (v := (-2 : Int32)) hx hb dX7_where_13 bi_m2 ?_
      refine lv_istore (lv' := [(4, .int (-2 : Int32)), (3, .int 0), (0, .ref (ga g 0)), (1, .int x1), (2, .int x2)]) hx hb dX7_where_15 hl (Nat.le_of_ble_eq_true rfl) rfl (fun ls hl => ?_)
      refine lv_iconst (v := 0) hx hb dX7_where_17 ic_0 ?_
      refine lv_istore (lv' := [(5, .int 0), (4, .int (-2 : Int32)), (3, .int 0), (0, .ref (ga g 0)), (1, .int x1), (2, .int x2)]) hx hb dX7_where_18 hl (Nat.le_of_ble_eq_true rfl) rfl (fun ls hl => ?_)
      exact w_X7_where_20 C hr _ σ x1 x2 0 (-2 : Int32) 0 h _ _ _ hd (lv_sub hl [3, 4, 5, 2, 1, 0] rfl)
    · replace h := iteF c2 h
      refine lv_iconst (v := (-1 : Int32)) hx hb dX7_where_9 ic_m1 ?_
      exact rIretP C hr hd h dX7_where_10
noncomputable def f_X7_window (F : Nat) (σ : St) (x1 : Int32) (x2 : Int32) (x3 : Int32) : Option (Int32 × St) :=
  cal (f_X0_hasCopy F σ x1) (fun r1 => if r1 = 0 then (some ((-1 : Int32), σ)) else (cal (f_X2_hasLine F σ x2) (fun r3 => if r3 = 0 then (some ((-1 : Int32), σ)) else (if x3 < 0 then (some ((-1 : Int32), σ)) else (if x3 ≤ 2 then (cal (f_X3_aim F σ x1 x2) (fun t7 => cal (f_X3_placesReached F t7) (fun r8 => if x3 = 0 then (some (r8, t7)) else (if r8 = 0 then (some ((-2 : Int32), t7)) else (if x3 = 1 then (some ((t7.1 14), t7)) else (some ((t7.1 15), t7))))))) else (some ((-1 : Int32), σ)))))))
set_option maxRecDepth 100000 in
set_option maxHeartbeats 4000000 in
theorem c_X7_window {l : Launch} {g : Gp} {X : va_W} (hE : E0 g) {F : Nat} {r' : Int32} {σ' : St} {σ : St} {x1 : Int32} {x2 : Int32} {x3 : Int32} (h : f_X7_window F σ x1 x2 x3 = some (r', σ')) : Ci l g yX7_window cX7_window 5 (some .int) 4 [.ref (ga g 0), .int x1, .int x2, .int x3] (wD g σ ++ X) r' (wD g σ' ++ X) := by
  refine rHead hE (by decide +kernel) (Nat.le_of_ble_eq_true rfl) (fun p e s m below meth c C hr _ hd ls hl => ?_)
  have hx := C.1
  have hb := C.2.1
  have hl : lv_has ls 5 [(0, .ref (ga g 0)), (1, .int x1), (2, .int x2), (3, .int x3)] := hl
  generalize ([.ref (ga g 0), .int x1, .int x2, .int x3] : List Value).toArray = args at C ⊢
  have C : Cx g p s m args meth c cX7_window 5 RX7 := C
  rw [f_X7_window] at h
  refine lv_aload_n hx hb dX7_window_0 rfl (lv_at hl 0 rfl) ?_
  refine gX7_25 C hd dX7_window_1 ?_
  refine lv_iload_n hx hb dX7_window_4 rfl (lv_at hl 1 rfl) ?_
  obtain ⟨r1, er1, h⟩ := cal_e h
  refine rCallI C hd (c_X0_hasCopy hE er1) kX7_204 3 rfl rfl rfl rfl hl.1 rfl (Nat.le_of_ble_eq_true rfl) ⟨(Nat.le_of_ble_eq_true rfl), (Nat.le_of_ble_eq_true rfl)⟩ ⟨Nat.le_refl _, Nat.le_refl _⟩ dX7_window_5 (fun H locs hd => ?_)
  refine lv_if_eq (tgt := 31) hx hb dX7_window_8 (by decide) (fun c2 => ?_) (fun c2 => ?_)
  · replace h := iteT c2 h
    refine lv_iconst (v := (-1 : Int32)) hx hb dX7_window_31 ic_m1 ?_
    exact rIretS (w := wD g) C hr hd h dX7_window_32
  · replace h := iteF c2 h
    refine lv_aload_n hx hb dX7_window_11 rfl (lv_at hl 0 rfl) ?_
    refine gX7_20 C hd dX7_window_12 ?_
    refine lv_iload_n hx hb dX7_window_15 rfl (lv_at hl 2 rfl) ?_
    obtain ⟨r3, er3, h⟩ := cal_e h
    refine rCallI C hd (c_X2_hasLine hE er3) kX7_282 2 rfl rfl rfl rfl hl.1 rfl (Nat.le_of_ble_eq_true rfl) ⟨(Nat.le_of_ble_eq_true rfl), (Nat.le_of_ble_eq_true rfl)⟩ ⟨Nat.le_refl _, Nat.le_refl _⟩ dX7_window_16 (fun H locs hd => ?_)
    refine lv_if_eq (tgt := 31) hx hb dX7_window_19 (by decide) (fun c4 => ?_) (fun c4 => ?_)
    · replace h := iteT c4 h
      refine lv_iconst (v := (-1 : Int32)) hx hb dX7_window_31 ic_m1 ?_
      exact rIretS (w := wD g) C hr hd h dX7_window_32
    · replace h := iteF c4 h
      refine lv_iload_n hx hb dX7_window_22 rfl (lv_at hl 3 rfl) ?_
      refine lv_if_lt (tgt := 31) hx hb dX7_window_23 (by decide) (fun c5 => ?_) (fun c5 => ?_)
      · replace h := iteT c5 h
        refine lv_iconst (v := (-1 : Int32)) hx hb dX7_window_31 ic_m1 ?_
        exact rIretS (w := wD g) C hr hd h dX7_window_32
      · replace h := iteF c5 h
        refine lv_iload_n hx hb dX7_window_26 rfl (lv_at hl 3 rfl) ?_
        refine lv_iconst (v := 2) hx hb dX7_window_27 ic_2 ?_
        refine lv_icmp_le (tgt := 33) hx hb dX7_window_28 (by decide) (fun c6 => ?_) (fun c6 => ?_)
        · replace h := iteT c6 h
          refine lv_aload_n hx hb dX7_window_33 rfl (lv_at hl 0 rfl) ?_
          refine gX7_31 C hd dX7_window_34 ?_
          refine lv_iload_n hx hb dX7_window_37 rfl (lv_at hl 1 rfl) ?_
          refine lv_iload_n hx hb dX7_window_38 rfl (lv_at hl 2 rfl) ?_
          obtain ⟨t7, et7, h⟩ := cal_e h
          refine rCallV C hd (c_X3_aim hE et7) kX7_247 4 rfl rfl rfl rfl hl.1 rfl (Nat.le_of_ble_eq_true rfl) ⟨(Nat.le_of_ble_eq_true rfl), (Nat.le_of_ble_eq_true rfl)⟩ ⟨Nat.le_refl _, Nat.le_refl _⟩ dX7_window_39 (fun H locs hd => ?_)
          refine lv_aload_n hx hb dX7_window_42 rfl (lv_at hl 0 rfl) ?_
          refine gX7_31 C hd dX7_window_43 ?_
          obtain ⟨r8, er8, h⟩ := cal_e h
          refine rCallI C hd (c_X3_placesReached hE er8) kX7_387 4 rfl rfl rfl rfl hl.1 rfl (Nat.le_of_ble_eq_true rfl) ⟨(Nat.le_of_ble_eq_true rfl), (Nat.le_of_ble_eq_true rfl)⟩ ⟨Nat.le_refl _, Nat.le_refl _⟩ dX7_window_46 (fun H locs hd => ?_)
          refine lv_istore (lv' := [(4, .int r8), (0, .ref (ga g 0)), (1, .int x1), (2, .int x2), (3, .int x3)]) hx hb dX7_window_49 hl (Nat.le_of_ble_eq_true rfl) rfl (fun ls hl => ?_)
          refine lv_iload_n hx hb dX7_window_51 rfl (lv_at hl 4 rfl) ?_
          refine lv_if_ne (tgt := 58) hx hb dX7_window_52 (by decide) (fun c9 => ?_) (fun c9 => ?_)
          · replace h := iteF c9 h
            refine lv_iload hx hb dX7_window_58 (lv_at hl 0 rfl) ?_
            refine lv_if_ne (tgt := 66) hx hb dX7_window_60 (by decide) (fun c10 => ?_) (fun c10 => ?_)
            · replace h := iteF c10 h
              refine lv_iload_n hx hb dX7_window_66 rfl (lv_at hl 4 rfl) ?_
              refine lv_iconst (v := 1) hx hb dX7_window_67 ic_1 ?_
              refine lv_icmp_ne (tgt := 81) hx hb dX7_window_68 (by decide) (fun c11 => ?_) (fun c11 => ?_)
              · replace h := iteF c11 h
                refine lv_aload_n hx hb dX7_window_81 rfl (lv_at hl 1 rfl) ?_
                refine gX7_31 C hd dX7_window_82 ?_
                refine gX7_393 C hd dX7_window_85 ?_
                exact rIretS (w := wD g) C hr hd h dX7_window_88
              · replace h := iteT c11 h
                refine lv_aload_n hx hb dX7_window_71 rfl (lv_at hl 1 rfl) ?_
                refine gX7_31 C hd dX7_window_72 ?_
                refine gX7_390 C hd dX7_window_75 ?_
                refine lv_goto (tgt := 88) hx hb dX7_window_78 (by decide) ?_
                exact rIretS (w := wD g) C hr hd h dX7_window_88
            · replace h := iteT c10 h
              refine lv_bipush (v := (-2 : Int32)) hx hb dX7_window_63 bi_m2 ?_
              exact rIretS (w := wD g) C hr hd h dX7_window_65
          · replace h := iteT c9 h
            refine lv_iload hx hb dX7_window_55 (lv_at hl 0 rfl) ?_
            exact rIretS (w := wD g) C hr hd h dX7_window_57
        · replace h := iteF c6 h
          refine lv_iconst (v := (-1 : Int32)) hx hb dX7_window_31 ic_m1 ?_
          exact rIretS (w := wD g) C hr hd h dX7_window_32
noncomputable def f_X7_work (F : Nat) (σ : St) (x1 : Int32) (x2 : Int32) (x3 : Int32) : Option (Int32 × St) :=
  cal (f_X3_aim F σ x1 x2) (fun t1 => cal (f_X3_isOnTheWay F t1 x3) (fun r2 => if r2 = 0 then (some ((-1 : Int32), t1)) else (cal (f_X3_changesTo F t1 x3) (fun r4 => some (r4, t1)))))
set_option maxRecDepth 100000 in
set_option maxHeartbeats 4000000 in
theorem c_X7_work {l : Launch} {g : Gp} {X : va_W} (hE : E0 g) {F : Nat} {r' : Int32} {σ' : St} {σ : St} {x1 : Int32} {x2 : Int32} {x3 : Int32} (h : f_X7_work F σ x1 x2 x3 = some (r', σ')) : Ci l g yX7_work cX7_work 4 (some .int) 4 [.ref (ga g 0), .int x1, .int x2, .int x3] (wD g σ ++ X) r' (wD g σ' ++ X) := by
  refine rHead hE (by decide +kernel) (Nat.le_of_ble_eq_true rfl) (fun p e s m below meth c C hr _ hd ls hl => ?_)
  have hx := C.1
  have hb := C.2.1
  have hl : lv_has ls 4 [(0, .ref (ga g 0)), (1, .int x1), (2, .int x2), (3, .int x3)] := hl
  generalize ([.ref (ga g 0), .int x1, .int x2, .int x3] : List Value).toArray = args at C ⊢
  have C : Cx g p s m args meth c cX7_work 4 RX7 := C
  rw [f_X7_work] at h
  refine lv_aload_n hx hb dX7_work_0 rfl (lv_at hl 0 rfl) ?_
  refine gX7_31 C hd dX7_work_1 ?_
  refine lv_iload_n hx hb dX7_work_4 rfl (lv_at hl 1 rfl) ?_
  refine lv_iload_n hx hb dX7_work_5 rfl (lv_at hl 2 rfl) ?_
  obtain ⟨t1, et1, h⟩ := cal_e h
  refine rCallV C hd (c_X3_aim hE et1) kX7_247 4 rfl rfl rfl rfl hl.1 rfl (Nat.le_of_ble_eq_true rfl) ⟨(Nat.le_of_ble_eq_true rfl), (Nat.le_of_ble_eq_true rfl)⟩ ⟨Nat.le_refl _, Nat.le_refl _⟩ dX7_work_6 (fun H locs hd => ?_)
  refine lv_aload_n hx hb dX7_work_9 rfl (lv_at hl 0 rfl) ?_
  refine gX7_31 C hd dX7_work_10 ?_
  refine lv_iload_n hx hb dX7_work_13 rfl (lv_at hl 3 rfl) ?_
  obtain ⟨r2, er2, h⟩ := cal_e h
  refine rCallI C hd (c_X3_isOnTheWay hE er2) kX7_351 4 rfl rfl rfl rfl hl.1 rfl (Nat.le_of_ble_eq_true rfl) ⟨(Nat.le_of_ble_eq_true rfl), (Nat.le_of_ble_eq_true rfl)⟩ ⟨Nat.le_refl _, Nat.le_refl _⟩ dX7_work_14 (fun H locs hd => ?_)
  refine lv_if_eq (tgt := 31) hx hb dX7_work_17 (by decide) (fun c3 => ?_) (fun c3 => ?_)
  · replace h := iteT c3 h
    refine lv_iconst (v := (-1 : Int32)) hx hb dX7_work_31 ic_m1 ?_
    exact rIretS (w := wD g) C hr hd h dX7_work_32
  · replace h := iteF c3 h
    refine lv_aload_n hx hb dX7_work_20 rfl (lv_at hl 0 rfl) ?_
    refine gX7_31 C hd dX7_work_21 ?_
    refine lv_iload_n hx hb dX7_work_24 rfl (lv_at hl 3 rfl) ?_
    obtain ⟨r4, er4, h⟩ := cal_e h
    refine rCallI C hd (c_X3_changesTo hE er4) kX7_410 4 rfl rfl rfl rfl hl.1 rfl (Nat.le_of_ble_eq_true rfl) ⟨(Nat.le_of_ble_eq_true rfl), (Nat.le_of_ble_eq_true rfl)⟩ ⟨Nat.le_refl _, Nat.le_refl _⟩ dX7_work_25 (fun H locs hd => ?_)
    refine lv_goto (tgt := 32) hx hb dX7_work_28 (by decide) ?_
    exact rIretS (w := wD g) C hr hd h dX7_work_32
end S
