section S
variable {p : Program} {l : Launch} {e : Env} {s : State} {m : MethodId} {args : Array Value} {below : List Frame} {meth : Method} {c : Code} {g : Gp} {X : va_W}
noncomputable def f_X3_lookAtPages_98 (F : Nat) (k_4 : St → Int32 → Int32 → Int32 → Option (Int32 × St)) (σ : St) (x1 : Int32) (x2 : Int32) (x3 : Int32) : Option (Int32 × St) :=
  bnd (x3 + 1) (fun v1 => k_4 σ x1 x2 v1)
set_option maxRecDepth 100000 in
set_option maxHeartbeats 4000000 in
theorem w_X3_lookAtPages_98 {F : Nat} {r' : Int32} {σ' : St}  (C : Cx g p s m args meth c cX3_lookAtPages 5 RX3) (hr : meth.sig.returnType = some .int)
    {k_4 : St → Int32 → Int32 → Int32 → Option (Int32 × St)} (hk_4 : (∀ (σ : St) (x1 : Int32) (x2 : Int32) (x3 : Int32), k_4 σ x1 x2 x3 = some (r', σ') → ∀ (H : Heap) (locs : List Loc) (ls : Array Slot), Dy g (wD g σ ++ X) s H locs → lv_has ls 5 [(0, .ref (ga g 4)), (1, .int x1), (2, .int x2), (3, .int x3)] → W p l e (rmD 2) s m args below meth c H locs 0 0 (QI g below args s (wD g σ' ++ X) r') (F0 m 4 ls []))) :
    (∀ (σ : St) (x1 : Int32) (x2 : Int32) (x3 : Int32), f_X3_lookAtPages_98 F k_4 σ x1 x2 x3 = some (r', σ') → ∀ (H : Heap) (locs : List Loc) (ls : Array Slot), Dy g (wD g σ ++ X) s H locs → lv_has ls 5 [(0, .ref (ga g 4)), (1, .int x1), (2, .int x2), (3, .int x3)] → W p l e (rmD 2) s m args below meth c H locs 0 0 (QI g below args s (wD g σ' ++ X) r') (F0 m 98 ls [])) := by
  have hx := C.1
  have hb := C.2.1
  have hE := C.2.2.2.2.2.2.2.2
  intro σ x1 x2 x3 h H locs ls hd hl
  rw [f_X3_lookAtPages_98] at h
  obtain ⟨v1, ev1, h⟩ := bnd_e h
  refine lv_iinc (v := v1) (lv' := [(3, .int v1), (0, .ref (ga g 4)), (1, .int x1), (2, .int x2)]) hx hb dX3_lookAtPages_98 hl (k := 3) rfl ((ii_1 _).trans ev1.symm) (Nat.le_of_ble_eq_true rfl) rfl (fun ls hl => ?_)
  refine lv_goto (tgt := 4) hx hb dX3_lookAtPages_101 (by decide) ?_
  exact hk_4 σ x1 x2 v1 h _ _ _ hd (lv_sub hl [1, 2, 3, 0] rfl)
noncomputable def f_X3_lookAtPages_4 (F : Nat) : Nat → St → Int32 → Int32 → Int32 → Option (Int32 × St)
  | 0, _, _, _, _ => none
  | n + 1, σ, x1, x2, x3 => if (σ.1 4) ≤ x3 then (some (x2, σ)) else (if 8 ≤ x3 then (some (x2, σ)) else (cal (f_X0_cellOf F σ x1 x3) (fun r3 => cal (f_X0_placeIn F σ r3) (fun r4 => if inb x3 8 = true then bnd (sr σ 25 x3.toNatClampNeg r4) (fun t6 => if inb x3 8 = true then bnd (ss t6 14 (mx (t6.1 14) (t6.2.1 25 x3.toNatClampNeg))) (fun t8 => cal (f_X0_sourceIn F t8 r3) (fun r9 => if inb x3 8 = true then cal (f_X2_leadsTo F t8 (t8.1 11) r9 (t8.2.1 25 x3.toNatClampNeg)) (fun r11 => if r11 = 0 then (f_X3_lookAtPages_98 F (f_X3_lookAtPages_4 F n) t8 x1 2 x3) else (f_X3_lookAtPages_98 F (f_X3_lookAtPages_4 F n) t8 x1 x2 x3)) else none)) else none) else none))))
set_option maxRecDepth 100000 in
set_option maxHeartbeats 4000000 in
theorem w_X3_lookAtPages_4 {F : Nat} {r' : Int32} {σ' : St}  (C : Cx g p s m args meth c cX3_lookAtPages 5 RX3) (hr : meth.sig.returnType = some .int) :
    (∀ (n : Nat) (σ : St) (x1 : Int32) (x2 : Int32) (x3 : Int32), f_X3_lookAtPages_4 F n σ x1 x2 x3 = some (r', σ') → ∀ (H : Heap) (locs : List Loc) (ls : Array Slot), Dy g (wD g σ ++ X) s H locs → lv_has ls 5 [(0, .ref (ga g 4)), (1, .int x1), (2, .int x2), (3, .int x3)] → W p l e (rmD 2) s m args below meth c H locs 0 0 (QI g below args s (wD g σ' ++ X) r') (F0 m 4 ls [])) := by
  have hx := C.1
  have hb := C.2.1
  have hE := C.2.2.2.2.2.2.2.2
  intro n
  induction n with
  | zero =>
    intro σ x1 x2 x3 h
    cases h
  | succ n ih =>
    intro σ x1 x2 x3 h H locs ls hd hl
    rw [f_X3_lookAtPages_4] at h
    refine lv_iload_n hx hb dX3_lookAtPages_4 rfl (lv_at hl 3 rfl) ?_
    refine lv_aload_n hx hb dX3_lookAtPages_5 rfl (lv_at hl 0 rfl) ?_
    refine gX3_9 C hd dX3_lookAtPages_6 ?_
    refine gX3_62 C hd dX3_lookAtPages_9 ?_
    refine lv_icmp_ge (tgt := 104) hx hb dX3_lookAtPages_12 (by decide) (fun c1 => ?_) (fun c1 => ?_)
    · replace h := iteT c1 h
      refine lv_iload_n hx hb dX3_lookAtPages_104 rfl (lv_at hl 2 rfl) ?_
      exact rIretS (w := wD g) C hr hd h dX3_lookAtPages_105
    · replace h := iteF c1 h
      refine lv_iload_n hx hb dX3_lookAtPages_15 rfl (lv_at hl 3 rfl) ?_
      refine lv_aload_n hx hb dX3_lookAtPages_16 rfl (lv_at hl 0 rfl) ?_
      refine gX3_27 C hd dX3_lookAtPages_17 ?_
      refine len_wD_25 C hd dX3_lookAtPages_20 ?_
      refine lv_icmp_ge (tgt := 104) hx hb dX3_lookAtPages_21 (by decide) (fun c2 => ?_) (fun c2 => ?_)
      · replace h := iteT c2 h
        refine lv_iload_n hx hb dX3_lookAtPages_104 rfl (lv_at hl 2 rfl) ?_
        exact rIretS (w := wD g) C hr hd h dX3_lookAtPages_105
      · replace h := iteF c2 h
        refine lv_aload_n hx hb dX3_lookAtPages_24 rfl (lv_at hl 0 rfl) ?_
        refine gX3_26 C hd dX3_lookAtPages_25 ?_
        refine lv_iload_n hx hb dX3_lookAtPages_28 rfl (lv_at hl 1 rfl) ?_
        refine lv_iload_n hx hb dX3_lookAtPages_29 rfl (lv_at hl 3 rfl) ?_
        obtain ⟨r3, er3, h⟩ := cal_e h
        refine rCallI C hd (c_X0_cellOf hE er3) kX3_85 3 rfl rfl rfl rfl hl.1 rfl (Nat.le_of_ble_eq_true rfl) ⟨(Nat.le_of_ble_eq_true rfl), (Nat.le_of_ble_eq_true rfl)⟩ ⟨Nat.le_refl _, Nat.le_refl _⟩ dX3_lookAtPages_30 (fun H locs hd => ?_)
        refine lv_istore (lv' := [(4, .int r3), (0, .ref (ga g 4)), (1, .int x1), (2, .int x2), (3, .int x3)]) hx hb dX3_lookAtPages_33 hl (Nat.le_of_ble_eq_true rfl) rfl (fun ls hl => ?_)
        refine lv_aload_n hx hb dX3_lookAtPages_35 rfl (lv_at hl 1 rfl) ?_
        refine gX3_27 C hd dX3_lookAtPages_36 ?_
        refine lv_iload_n hx hb dX3_lookAtPages_39 rfl (lv_at hl 4 rfl) ?_
        refine lv_aload_n hx hb dX3_lookAtPages_40 rfl (lv_at hl 1 rfl) ?_
        refine gX3_26 C hd dX3_lookAtPages_41 ?_
        refine lv_iload hx hb dX3_lookAtPages_44 (lv_at hl 0 rfl) ?_
        obtain ⟨r4, er4, h⟩ := cal_e h
        refine rCallI C hd (c_X0_placeIn hE er4) kX3_89 3 rfl rfl rfl rfl hl.1 rfl (Nat.le_of_ble_eq_true rfl) ⟨(Nat.le_of_ble_eq_true rfl), (Nat.le_of_ble_eq_true rfl)⟩ ⟨Nat.le_refl _, Nat.le_refl _⟩ dX3_lookAtPages_46 (fun H locs hd => ?_)
        obtain ⟨n5, h⟩ := chk h
        obtain ⟨t6, et6, h⟩ := bnd_e h
        refine st_wD_25 C hd (inb_i n5) et6 dX3_lookAtPages_49 (fun H locs hd => ?_)
        refine lv_aload_n hx hb dX3_lookAtPages_50 rfl (lv_at hl 1 rfl) ?_
        refine lv_aload_n hx hb dX3_lookAtPages_51 rfl (lv_at hl 1 rfl) ?_
        refine gX3_41 C hd dX3_lookAtPages_52 ?_
        refine lv_aload_n hx hb dX3_lookAtPages_55 rfl (lv_at hl 1 rfl) ?_
        refine gX3_27 C hd dX3_lookAtPages_56 ?_
        refine lv_iload_n hx hb dX3_lookAtPages_59 rfl (lv_at hl 4 rfl) ?_
        obtain ⟨n7, h⟩ := chk h
        refine ld_wD_25 C hd (inb_i n7) dX3_lookAtPages_60 ?_
        refine rMax C hl.1 (mT 776 (by decide +kernel)) (mT 467 (by decide +kernel)) (mT 14 (by decide +kernel)) (mT 468 (by decide +kernel)) ⟨(Nat.le_of_ble_eq_true rfl), (Nat.le_of_ble_eq_true rfl)⟩ ⟨Nat.le_refl _, Nat.le_refl _⟩ dX3_lookAtPages_61 ?_
        obtain ⟨t8, et8, h⟩ := bnd_e h
        refine pX3_41 C hd et8 dX3_lookAtPages_64 (fun H locs hd => ?_)
        refine lv_aload_n hx hb dX3_lookAtPages_67 rfl (lv_at hl 1 rfl) ?_
        refine gX3_21 C hd dX3_lookAtPages_68 ?_
        refine lv_aload_n hx hb dX3_lookAtPages_71 rfl (lv_at hl 1 rfl) ?_
        refine gX3_31 C hd dX3_lookAtPages_72 ?_
        refine lv_aload_n hx hb dX3_lookAtPages_75 rfl (lv_at hl 1 rfl) ?_
        refine gX3_26 C hd dX3_lookAtPages_76 ?_
        refine lv_iload hx hb dX3_lookAtPages_79 (lv_at hl 0 rfl) ?_
        obtain ⟨r9, er9, h⟩ := cal_e h
        refine rCallI C hd (c_X0_sourceIn hE er9) kX3_97 3 rfl rfl rfl rfl hl.1 rfl (Nat.le_of_ble_eq_true rfl) ⟨(Nat.le_of_ble_eq_true rfl), (Nat.le_of_ble_eq_true rfl)⟩ ⟨Nat.le_refl _, Nat.le_refl _⟩ dX3_lookAtPages_81 (fun H locs hd => ?_)
        refine lv_aload_n hx hb dX3_lookAtPages_84 rfl (lv_at hl 1 rfl) ?_
        refine gX3_27 C hd dX3_lookAtPages_85 ?_
        refine lv_iload_n hx hb dX3_lookAtPages_88 rfl (lv_at hl 4 rfl) ?_
        obtain ⟨n10, h⟩ := chk h
        refine ld_wD_25 C hd (inb_i n10) dX3_lookAtPages_89 ?_
        obtain ⟨r11, er11, h⟩ := cal_e h
        refine rCallI C hd (c_X2_leadsTo hE er11) kX3_100 2 rfl rfl rfl rfl hl.1 rfl (Nat.le_of_ble_eq_true rfl) ⟨(Nat.le_of_ble_eq_true rfl), (Nat.le_of_ble_eq_true rfl)⟩ ⟨Nat.le_refl _, Nat.le_refl _⟩ dX3_lookAtPages_90 (fun H locs hd => ?_)
        refine lv_if_ne (tgt := 98) hx hb dX3_lookAtPages_93 (by decide) (fun c12 => ?_) (fun c12 => ?_)
        · replace h := iteF c12 h
          exact w_X3_lookAtPages_98 C hr ih t8 x1 x2 x3 h _ _ _ hd (lv_sub hl [1, 2, 3, 4] rfl)
        · replace h := iteT c12 h
          refine lv_iconst (v := 2) hx hb dX3_lookAtPages_96 ic_2 ?_
          refine lv_istore_n (lv' := [(2, .int 2), (4, .int r3), (0, .ref (ga g 4)), (1, .int x1), (3, .int x3)]) hx hb dX3_lookAtPages_97 rfl hl (Nat.le_of_ble_eq_true rfl) rfl (fun ls hl => ?_)
          exact w_X3_lookAtPages_98 C hr ih t8 x1 2 x3 h _ _ _ hd (lv_sub hl [2, 3, 0, 4] rfl)
noncomputable def f_X3_lookAtPages (F : Nat) (σ : St) (x1 : Int32) : Option (Int32 × St) :=
  f_X3_lookAtPages_4 F F σ x1 0 0
set_option maxRecDepth 100000 in
set_option maxHeartbeats 4000000 in
theorem c_X3_lookAtPages {l : Launch} {g : Gp} {X : va_W} (hE : E0 g) {F : Nat} {r' : Int32} {σ' : St} {σ : St} {x1 : Int32} (h : f_X3_lookAtPages F σ x1 = some (r', σ')) : Ci l g yX3_lookAtPages cX3_lookAtPages 5 (some .int) 2 [.ref (ga g 4), .int x1] (wD g σ ++ X) r' (wD g σ' ++ X) := by
  refine rHead hE (by decide +kernel) (Nat.le_of_ble_eq_true rfl) (fun p e s m below meth c C hr _ hd ls hl => ?_)
  have hx := C.1
  have hb := C.2.1
  have hl : lv_has ls 5 [(0, .ref (ga g 4)), (1, .int x1)] := hl
  generalize ([.ref (ga g 4), .int x1] : List Value).toArray = args at C ⊢
  have C : Cx g p s m args meth c cX3_lookAtPages 5 RX3 := C
  rw [f_X3_lookAtPages] at h
  refine lv_iconst (v := 0) hx hb dX3_lookAtPages_0 ic_0 ?_
  refine lv_istore_n (lv' := [(2, .int 0), (0, .ref (ga g 4)), (1, .int x1)]) hx hb dX3_lookAtPages_1 rfl hl (Nat.le_of_ble_eq_true rfl) rfl (fun ls hl => ?_)
  refine lv_iconst (v := 0) hx hb dX3_lookAtPages_2 ic_0 ?_
  refine lv_istore_n (lv' := [(3, .int 0), (2, .int 0), (0, .ref (ga g 4)), (1, .int x1)]) hx hb dX3_lookAtPages_3 rfl hl (Nat.le_of_ble_eq_true rfl) rfl (fun ls hl => ?_)
  exact w_X3_lookAtPages_4 C hr _ σ x1 0 0 h _ _ _ hd (lv_sub hl [2, 3, 1, 0] rfl)
noncomputable def f_X3_isBehind (F : Nat) (σ : St) (x1 : Int32) (x2 : Int32) : Option Int32 :=
  if x1 < 0 then (some 0) else (if 8 ≤ x1 then (some 0) else (if inb x1 8 = true then if x2 ≤ (σ.2.1 25 x1.toNatClampNeg) then (some 0) else (some 1) else none))
set_option maxRecDepth 100000 in
set_option maxHeartbeats 4000000 in
theorem c_X3_isBehind {l : Launch} {g : Gp} {X : va_W} (hE : E0 g) {F : Nat} {r' : Int32} {σ : St} {x1 : Int32} {x2 : Int32} (h : f_X3_isBehind F σ x1 x2 = some r') : Ci l g yX3_isBehind cX3_isBehind 3 (some .boolean) 0 [.ref (ga g 4), .int x1, .int x2] (wD g σ ++ X) r' (wD g σ ++ X) := by
  refine rHead hE (by decide +kernel) (Nat.le_of_ble_eq_true rfl) (fun p e s m below meth c C hr _ hd ls hl => ?_)
  have hx := C.1
  have hb := C.2.1
  have hl : lv_has ls 3 [(0, .ref (ga g 4)), (1, .int x1), (2, .int x2)] := hl
  generalize ([.ref (ga g 4), .int x1, .int x2] : List Value).toArray = args at C ⊢
  have C : Cx g p s m args meth c cX3_isBehind 3 RX3 := C
  rw [f_X3_isBehind] at h
  refine lv_iload_n hx hb dX3_isBehind_0 rfl (lv_at hl 1 rfl) ?_
  refine lv_if_lt (tgt := 27) hx hb dX3_isBehind_1 (by decide) (fun c1 => ?_) (fun c1 => ?_)
  · replace h := iteT c1 h
    refine lv_iconst (v := 0) hx hb dX3_isBehind_27 ic_0 ?_
    exact rZretP C hr hd h (by decide) dX3_isBehind_28
  · replace h := iteF c1 h
    refine lv_iload_n hx hb dX3_isBehind_4 rfl (lv_at hl 1 rfl) ?_
    refine lv_aload_n hx hb dX3_isBehind_5 rfl (lv_at hl 0 rfl) ?_
    refine gX3_27 C hd dX3_isBehind_6 ?_
    refine len_wD_25 C hd dX3_isBehind_9 ?_
    refine lv_icmp_ge (tgt := 27) hx hb dX3_isBehind_10 (by decide) (fun c2 => ?_) (fun c2 => ?_)
    · replace h := iteT c2 h
      refine lv_iconst (v := 0) hx hb dX3_isBehind_27 ic_0 ?_
      exact rZretP C hr hd h (by decide) dX3_isBehind_28
    · replace h := iteF c2 h
      refine lv_iload_n hx hb dX3_isBehind_13 rfl (lv_at hl 2 rfl) ?_
      refine lv_aload_n hx hb dX3_isBehind_14 rfl (lv_at hl 0 rfl) ?_
      refine gX3_27 C hd dX3_isBehind_15 ?_
      refine lv_iload_n hx hb dX3_isBehind_18 rfl (lv_at hl 1 rfl) ?_
      obtain ⟨n3, h⟩ := chk h
      refine ld_wD_25 C hd (inb_i n3) dX3_isBehind_19 ?_
      refine lv_icmp_le (tgt := 27) hx hb dX3_isBehind_20 (by decide) (fun c4 => ?_) (fun c4 => ?_)
      · replace h := iteT c4 h
        refine lv_iconst (v := 0) hx hb dX3_isBehind_27 ic_0 ?_
        exact rZretP C hr hd h (by decide) dX3_isBehind_28
      · replace h := iteF c4 h
        refine lv_iconst (v := 1) hx hb dX3_isBehind_23 ic_1 ?_
        refine lv_goto (tgt := 28) hx hb dX3_isBehind_24 (by decide) ?_
        exact rZretP C hr hd h (by decide) dX3_isBehind_28
noncomputable def f_X3_firstChange_14 (F : Nat) : Nat → St → Int32 → Int32 → Option Int32
  | 0, _, _, _ => none
  | n + 1, σ, x1, x2 => if x1 < x2 then (some (-2 : Int32)) else (cal (f_X2_changedAt F σ (σ.1 11) x2) (fun r2 => cal (f_X3_isBehind F σ r2 x2) (fun r3 => if r3 = 0 then (bnd (x2 + 1) (fun v5 => f_X3_firstChange_14 F n σ x1 v5)) else (some x2))))
set_option maxRecDepth 100000 in
set_option maxHeartbeats 4000000 in
theorem w_X3_firstChange_14 {F : Nat} {r' : Int32}  (C : Cx g p s m args meth c cX3_firstChange 3 RX3) (hr : meth.sig.returnType = some .int) :
    (∀ (n : Nat) (σ : St) (x1 : Int32) (x2 : Int32), f_X3_firstChange_14 F n σ x1 x2 = some r' → ∀ (H : Heap) (locs : List Loc) (ls : Array Slot), Dy g (wD g σ ++ X) s H locs → lv_has ls 3 [(0, .ref (ga g 4)), (1, .int x1), (2, .int x2)] → W p l e (rmD 2) s m args below meth c H locs 0 0 (QI g below args s (wD g σ ++ X) r') (F0 m 14 ls [])) := by
  have hx := C.1
  have hb := C.2.1
  have hE := C.2.2.2.2.2.2.2.2
  intro n
  induction n with
  | zero =>
    intro σ x1 x2 h
    cases h
  | succ n ih =>
    intro σ x1 x2 h H locs ls hd hl
    rw [f_X3_firstChange_14] at h
    refine lv_iload_n hx hb dX3_firstChange_14 rfl (lv_at hl 2 rfl) ?_
    refine lv_iload_n hx hb dX3_firstChange_15 rfl (lv_at hl 1 rfl) ?_
    refine lv_icmp_gt (tgt := 47) hx hb dX3_firstChange_16 (by decide) (fun c1 => ?_) (fun c1 => ?_)
    · replace h := iteT c1 h
      refine lv_bipush (v := (-2 : Int32)) hx hb dX3_firstChange_47 bi_m2 ?_
      exact rIretP C hr hd h dX3_firstChange_49
    · replace h := iteF c1 h
      refine lv_aload_n hx hb dX3_firstChange_19 rfl (lv_at hl 0 rfl) ?_
      refine lv_aload_n hx hb dX3_firstChange_20 rfl (lv_at hl 0 rfl) ?_
      refine gX3_21 C hd dX3_firstChange_21 ?_
      refine lv_aload_n hx hb dX3_firstChange_24 rfl (lv_at hl 0 rfl) ?_
      refine gX3_31 C hd dX3_firstChange_25 ?_
      refine lv_iload_n hx hb dX3_firstChange_28 rfl (lv_at hl 2 rfl) ?_
      obtain ⟨r2, er2, h⟩ := cal_e h
      refine rCallI C hd (c_X2_changedAt hE er2) kX3_104 2 rfl rfl rfl rfl hl.1 rfl (Nat.le_of_ble_eq_true rfl) ⟨(Nat.le_of_ble_eq_true rfl), (Nat.le_of_ble_eq_true rfl)⟩ ⟨Nat.le_refl _, Nat.le_refl _⟩ dX3_firstChange_29 (fun H locs hd => ?_)
      refine lv_iload_n hx hb dX3_firstChange_32 rfl (lv_at hl 2 rfl) ?_
      obtain ⟨r3, er3, h⟩ := cal_e h
      refine rCallI C hd (c_X3_isBehind hE er3) kX3_107 4 rfl rfl rfl rfl hl.1 rfl (Nat.le_of_ble_eq_true rfl) ⟨(Nat.le_of_ble_eq_true rfl), (Nat.le_of_ble_eq_true rfl)⟩ ⟨Nat.le_refl _, Nat.le_refl _⟩ dX3_firstChange_33 (fun H locs hd => ?_)
      refine lv_if_eq (tgt := 41) hx hb dX3_firstChange_36 (by decide) (fun c4 => ?_) (fun c4 => ?_)
      · replace h := iteT c4 h
        obtain ⟨v5, ev5, h⟩ := bnd_e h
        refine lv_iinc (v := v5) (lv' := [(2, .int v5), (0, .ref (ga g 4)), (1, .int x1)]) hx hb dX3_firstChange_41 hl (k := 2) rfl ((ii_1 _).trans ev5.symm) (Nat.le_of_ble_eq_true rfl) rfl (fun ls hl => ?_)
        refine lv_goto (tgt := 14) hx hb dX3_firstChange_44 (by decide) ?_
        exact ih σ x1 v5 h _ _ _ hd (lv_sub hl [1, 2, 0] rfl)
      · replace h := iteF c4 h
        refine lv_iload_n hx hb dX3_firstChange_39 rfl (lv_at hl 2 rfl) ?_
        exact rIretP C hr hd h dX3_firstChange_40
noncomputable def f_X3_firstChange (F : Nat) (σ : St) : Option Int32 :=
  cal (f_X2_tipOf F σ (σ.1 11)) (fun r1 => f_X3_firstChange_14 F F σ r1 1)
set_option maxRecDepth 100000 in
set_option maxHeartbeats 4000000 in
theorem c_X3_firstChange {l : Launch} {g : Gp} {X : va_W} (hE : E0 g) {F : Nat} {r' : Int32} {σ : St} (h : f_X3_firstChange F σ = some r') : Ci l g yX3_firstChange cX3_firstChange 3 (some .int) 2 [.ref (ga g 4)] (wD g σ ++ X) r' (wD g σ ++ X) := by
  refine rHead hE (by decide +kernel) (Nat.le_of_ble_eq_true rfl) (fun p e s m below meth c C hr _ hd ls hl => ?_)
  have hx := C.1
  have hb := C.2.1
  have hl : lv_has ls 3 [(0, .ref (ga g 4))] := hl
  generalize ([.ref (ga g 4)] : List Value).toArray = args at C ⊢
  have C : Cx g p s m args meth c cX3_firstChange 3 RX3 := C
  rw [f_X3_firstChange] at h
  refine lv_aload_n hx hb dX3_firstChange_0 rfl (lv_at hl 0 rfl) ?_
  refine gX3_21 C hd dX3_firstChange_1 ?_
  refine lv_aload_n hx hb dX3_firstChange_4 rfl (lv_at hl 0 rfl) ?_
  refine gX3_31 C hd dX3_firstChange_5 ?_
  obtain ⟨r1, er1, h⟩ := cal_e h
  refine rCallI C hd (c_X2_tipOf hE er1) kX3_79 2 rfl rfl rfl rfl hl.1 rfl (Nat.le_of_ble_eq_true rfl) ⟨(Nat.le_of_ble_eq_true rfl), (Nat.le_of_ble_eq_true rfl)⟩ ⟨Nat.le_refl _, Nat.le_refl _⟩ dX3_firstChange_8 (fun H locs hd => ?_)
  refine lv_istore_n (lv' := [(1, .int r1), (0, .ref (ga g 4))]) hx hb dX3_firstChange_11 rfl hl (Nat.le_of_ble_eq_true rfl) rfl (fun ls hl => ?_)
  refine lv_iconst (v := 1) hx hb dX3_firstChange_12 ic_1 ?_
  refine lv_istore_n (lv' := [(2, .int 1), (1, .int r1), (0, .ref (ga g 4))]) hx hb dX3_firstChange_13 rfl hl (Nat.le_of_ble_eq_true rfl) rfl (fun ls hl => ?_)
  exact w_X3_firstChange_14 C hr _ σ r1 1 h _ _ _ hd (lv_sub hl [2, 1, 0] rfl)
noncomputable def f_X3_lookAtPieces_34 (F : Nat) : Nat → St → Int32 → Int32 → Option St
  | 0, _, _, _ => none
  | n + 1, σ, x1, x2 => if x1 < x2 then (some σ) else (cal (f_X2_keeperOf F σ (σ.1 11) x2) (fun r2 => cal (f_X2_hindranceOf F σ r2 x2) (fun r3 => bnd (ss σ 18 r3) (fun t4 => if (t4.1 18) = 0 then (bnd (x2 + 1) (fun v6 => f_X3_lookAtPieces_34 F n t4 x1 v6)) else (bnd (ss t4 16 r2) (fun t7 => bnd (ss t7 17 x2) (fun t8 => bnd (ss t8 15 (mx ((t8.1 13) - 1) (x2 * (t8.1 5)))) (fun t9 => some t9))))))))
set_option maxRecDepth 100000 in
set_option maxHeartbeats 4000000 in
theorem w_X3_lookAtPieces_34 {F : Nat} {σ' : St}  (C : Cx g p s m args meth c cX3_lookAtPieces 4 RX3) (hr : meth.sig.returnType = none) :
    (∀ (n : Nat) (σ : St) (x1 : Int32) (x2 : Int32), f_X3_lookAtPieces_34 F n σ x1 x2 = some σ' → ∀ (H : Heap) (locs : List Loc) (ls : Array Slot), Dy g (wD g σ ++ X) s H locs → lv_has ls 4 [(0, .ref (ga g 4)), (1, .int x1), (2, .int x2)] → W p l e (rmD 2) s m args below meth c H locs 0 0 (QV g below args s (wD g σ' ++ X)) (F0 m 34 ls [])) := by
  have hx := C.1
  have hb := C.2.1
  have hE := C.2.2.2.2.2.2.2.2
  intro n
  induction n with
  | zero =>
    intro σ x1 x2 h
    cases h
  | succ n ih =>
    intro σ x1 x2 h H locs ls hd hl
    rw [f_X3_lookAtPieces_34] at h
    refine lv_iload_n hx hb dX3_lookAtPieces_34 rfl (lv_at hl 2 rfl) ?_
    refine lv_iload_n hx hb dX3_lookAtPieces_35 rfl (lv_at hl 1 rfl) ?_
    refine lv_icmp_gt (tgt := 111) hx hb dX3_lookAtPieces_36 (by decide) (fun c1 => ?_) (fun c1 => ?_)
    · replace h := iteT c1 h
      exact rVretS (w := wD g) C hr hd h dX3_lookAtPieces_111
    · replace h := iteF c1 h
      refine lv_aload_n hx hb dX3_lookAtPieces_39 rfl (lv_at hl 0 rfl) ?_
      refine gX3_21 C hd dX3_lookAtPieces_40 ?_
      refine lv_aload_n hx hb dX3_lookAtPieces_43 rfl (lv_at hl 0 rfl) ?_
      refine gX3_31 C hd dX3_lookAtPieces_44 ?_
      refine lv_iload_n hx hb dX3_lookAtPieces_47 rfl (lv_at hl 2 rfl) ?_
      obtain ⟨r2, er2, h⟩ := cal_e h
      refine rCallI C hd (c_X2_keeperOf hE er2) kX3_113 2 rfl rfl rfl rfl hl.1 rfl (Nat.le_of_ble_eq_true rfl) ⟨(Nat.le_of_ble_eq_true rfl), (Nat.le_of_ble_eq_true rfl)⟩ ⟨Nat.le_refl _, Nat.le_refl _⟩ dX3_lookAtPieces_48 (fun H locs hd => ?_)
      refine lv_istore_n (lv' := [(3, .int r2), (0, .ref (ga g 4)), (1, .int x1), (2, .int x2)]) hx hb dX3_lookAtPieces_51 rfl hl (Nat.le_of_ble_eq_true rfl) rfl (fun ls hl => ?_)
      refine lv_aload_n hx hb dX3_lookAtPieces_52 rfl (lv_at hl 1 rfl) ?_
      refine lv_aload_n hx hb dX3_lookAtPieces_53 rfl (lv_at hl 1 rfl) ?_
      refine gX3_21 C hd dX3_lookAtPieces_54 ?_
      refine lv_iload_n hx hb dX3_lookAtPieces_57 rfl (lv_at hl 0 rfl) ?_
      refine lv_iload_n hx hb dX3_lookAtPieces_58 rfl (lv_at hl 3 rfl) ?_
      obtain ⟨r3, er3, h⟩ := cal_e h
      refine rCallI C hd (c_X2_hindranceOf hE er3) kX3_116 2 rfl rfl rfl rfl hl.1 rfl (Nat.le_of_ble_eq_true rfl) ⟨(Nat.le_of_ble_eq_true rfl), (Nat.le_of_ble_eq_true rfl)⟩ ⟨Nat.le_refl _, Nat.le_refl _⟩ dX3_lookAtPieces_59 (fun H locs hd => ?_)
      obtain ⟨t4, et4, h⟩ := bnd_e h
      refine pX3_53 C hd et4 dX3_lookAtPieces_62 (fun H locs hd => ?_)
      refine lv_aload_n hx hb dX3_lookAtPieces_65 rfl (lv_at hl 1 rfl) ?_
      refine gX3_53 C hd dX3_lookAtPieces_66 ?_
      refine lv_if_eq (tgt := 105) hx hb dX3_lookAtPieces_69 (by decide) (fun c5 => ?_) (fun c5 => ?_)
      · replace h := iteT c5 h
        obtain ⟨v6, ev6, h⟩ := bnd_e h
        refine lv_iinc (v := v6) (lv' := [(2, .int v6), (3, .int r2), (0, .ref (ga g 4)), (1, .int x1)]) hx hb dX3_lookAtPieces_105 hl (k := 3) rfl ((ii_1 _).trans ev6.symm) (Nat.le_of_ble_eq_true rfl) rfl (fun ls hl => ?_)
        refine lv_goto (tgt := 34) hx hb dX3_lookAtPieces_108 (by decide) ?_
        exact ih t4 x1 v6 h _ _ _ hd (lv_sub hl [2, 3, 0] rfl)
      · replace h := iteF c5 h
        refine lv_aload_n hx hb dX3_lookAtPieces_72 rfl (lv_at hl 1 rfl) ?_
        refine lv_iload_n hx hb dX3_lookAtPieces_73 rfl (lv_at hl 0 rfl) ?_
        obtain ⟨t7, et7, h⟩ := bnd_e h
        refine pX3_47 C hd et7 dX3_lookAtPieces_74 (fun H locs hd => ?_)
        refine lv_aload_n hx hb dX3_lookAtPieces_77 rfl (lv_at hl 1 rfl) ?_
        refine lv_iload_n hx hb dX3_lookAtPieces_78 rfl (lv_at hl 3 rfl) ?_
        obtain ⟨t8, et8, h⟩ := bnd_e h
        refine pX3_50 C hd et8 dX3_lookAtPieces_79 (fun H locs hd => ?_)
        refine lv_aload_n hx hb dX3_lookAtPieces_82 rfl (lv_at hl 1 rfl) ?_
        refine lv_aload_n hx hb dX3_lookAtPieces_83 rfl (lv_at hl 1 rfl) ?_
        refine gX3_38 C hd dX3_lookAtPieces_84 ?_
        refine lv_iconst (v := 1) hx hb dX3_lookAtPieces_87 ic_1 ?_
        refine lv_isub hx hb dX3_lookAtPieces_88 ?_
        refine lv_iload_n hx hb dX3_lookAtPieces_89 rfl (lv_at hl 3 rfl) ?_
        refine lv_aload_n hx hb dX3_lookAtPieces_90 rfl (lv_at hl 1 rfl) ?_
        refine gX3_21 C hd dX3_lookAtPieces_91 ?_
        refine gX3_119 C hd dX3_lookAtPieces_94 ?_
        refine lv_imul hx hb dX3_lookAtPieces_97 ?_
        refine rMax C hl.1 (mT 776 (by decide +kernel)) (mT 467 (by decide +kernel)) (mT 14 (by decide +kernel)) (mT 468 (by decide +kernel)) ⟨(Nat.le_of_ble_eq_true rfl), (Nat.le_of_ble_eq_true rfl)⟩ ⟨Nat.le_refl _, Nat.le_refl _⟩ dX3_lookAtPieces_98 ?_
        obtain ⟨t9, et9, h⟩ := bnd_e h
        refine pX3_44 C hd et9 dX3_lookAtPieces_101 (fun H locs hd => ?_)
        exact rVretS (w := wD g) C hr hd h dX3_lookAtPieces_104
noncomputable def f_X3_lookAtPieces (F : Nat) (σ : St) : Option St :=
  if (σ.1 13) = (-2 : Int32) then (some σ) else (cal (f_X2_pieceHolding F σ (σ.1 15)) (fun r2 => cal (f_X2_pieceHolding F σ (σ.1 13)) (fun r3 => f_X3_lookAtPieces_34 F F σ r2 r3)))
set_option maxRecDepth 100000 in
set_option maxHeartbeats 4000000 in
theorem c_X3_lookAtPieces {l : Launch} {g : Gp} {X : va_W} (hE : E0 g) {F : Nat} {σ' : St} {σ : St} (h : f_X3_lookAtPieces F σ = some σ') : Cv l g yX3_lookAtPieces cX3_lookAtPieces 4 2 [.ref (ga g 4)] (wD g σ ++ X) (wD g σ' ++ X) := by
  refine rHead hE (by decide +kernel) (Nat.le_of_ble_eq_true rfl) (fun p e s m below meth c C hr _ hd ls hl => ?_)
  have hx := C.1
  have hb := C.2.1
  have hl : lv_has ls 4 [(0, .ref (ga g 4))] := hl
  generalize ([.ref (ga g 4)] : List Value).toArray = args at C ⊢
  have C : Cx g p s m args meth c cX3_lookAtPieces 4 RX3 := C
  rw [f_X3_lookAtPieces] at h
  refine lv_aload_n hx hb dX3_lookAtPieces_0 rfl (lv_at hl 0 rfl) ?_
  refine gX3_38 C hd dX3_lookAtPieces_1 ?_
  refine lv_bipush (v := (-2 : Int32)) hx hb dX3_lookAtPieces_4 bi_m2 ?_
  refine lv_icmp_ne (tgt := 10) hx hb dX3_lookAtPieces_6 (by decide) (fun c1 => ?_) (fun c1 => ?_)
  · replace h := iteF c1 h
    refine lv_aload_n hx hb dX3_lookAtPieces_10 rfl (lv_at hl 0 rfl) ?_
    refine gX3_21 C hd dX3_lookAtPieces_11 ?_
    refine lv_aload_n hx hb dX3_lookAtPieces_14 rfl (lv_at hl 0 rfl) ?_
    refine gX3_44 C hd dX3_lookAtPieces_15 ?_
    obtain ⟨r2, er2, h⟩ := cal_e h
    refine rCallI C hd (c_X2_pieceHolding hE er2) kX3_110 2 rfl rfl rfl rfl hl.1 rfl (Nat.le_of_ble_eq_true rfl) ⟨(Nat.le_of_ble_eq_true rfl), (Nat.le_of_ble_eq_true rfl)⟩ ⟨Nat.le_refl _, Nat.le_refl _⟩ dX3_lookAtPieces_18 (fun H locs hd => ?_)
    refine lv_istore_n (lv' := [(1, .int r2), (0, .ref (ga g 4))]) hx hb dX3_lookAtPieces_21 rfl hl (Nat.le_of_ble_eq_true rfl) rfl (fun ls hl => ?_)
    refine lv_aload_n hx hb dX3_lookAtPieces_22 rfl (lv_at hl 1 rfl) ?_
    refine gX3_21 C hd dX3_lookAtPieces_23 ?_
    refine lv_aload_n hx hb dX3_lookAtPieces_26 rfl (lv_at hl 1 rfl) ?_
    refine gX3_38 C hd dX3_lookAtPieces_27 ?_
    obtain ⟨r3, er3, h⟩ := cal_e h
    refine rCallI C hd (c_X2_pieceHolding hE er3) kX3_110 2 rfl rfl rfl rfl hl.1 rfl (Nat.le_of_ble_eq_true rfl) ⟨(Nat.le_of_ble_eq_true rfl), (Nat.le_of_ble_eq_true rfl)⟩ ⟨Nat.le_refl _, Nat.le_refl _⟩ dX3_lookAtPieces_30 (fun H locs hd => ?_)
    refine lv_istore_n (lv' := [(2, .int r3), (1, .int r2), (0, .ref (ga g 4))]) hx hb dX3_lookAtPieces_33 rfl hl (Nat.le_of_ble_eq_true rfl) rfl (fun ls hl => ?_)
    exact w_X3_lookAtPieces_34 C hr _ σ r2 r3 h _ _ _ hd (lv_sub hl [2, 1, 0] rfl)
  · replace h := iteT c1 h
    exact rVretS (w := wD g) C hr hd h dX3_lookAtPieces_9
noncomputable def f_X3_aim (F : Nat) (σ : St) (x1 : Int32) (x2 : Int32) : Option St :=
  bnd (ss σ 11 x2) (fun t1 => bnd (ss t1 13 (-2 : Int32)) (fun t2 => bnd (ss t2 14 0) (fun t3 => bnd (ss t3 15 (-1 : Int32)) (fun t4 => bnd (ss t4 12 1) (fun t5 => cal (f_X2_hasLine F t5 (t5.1 11)) (fun r6 => if r6 = 0 then (some t5) else (cal (f_X0_isFit F t5 x1 (t5.1 4)) (fun r8 => if r8 = 0 then (some t5) else (cal2 (f_X3_lookAtPages F t5 x1) (fun r10 t11 => bnd (ss t11 12 r10) (fun t12 => if (t12.1 12) = 0 then (cal (f_X3_firstChange F t12) (fun r14 => bnd (ss t12 13 r14) (fun t15 => cal (f_X2_tipOf F t15 (t15.1 11)) (fun r16 => bnd (ss t15 15 r16) (fun t17 => cal (f_X3_lookAtPieces F t17) (fun t18 => some t18)))))) else (some t12))))))))))))
set_option maxRecDepth 100000 in
set_option maxHeartbeats 4000000 in
theorem c_X3_aim {l : Launch} {g : Gp} {X : va_W} (hE : E0 g) {F : Nat} {σ' : St} {σ : St} {x1 : Int32} {x2 : Int32} (h : f_X3_aim F σ x1 x2 = some σ') : Cv l g yX3_aim cX3_aim 3 3 [.ref (ga g 4), .int x1, .int x2] (wD g σ ++ X) (wD g σ' ++ X) := by
  refine rHead hE (by decide +kernel) (Nat.le_of_ble_eq_true rfl) (fun p e s m below meth c C hr _ hd ls hl => ?_)
  have hx := C.1
  have hb := C.2.1
  have hl : lv_has ls 3 [(0, .ref (ga g 4)), (1, .int x1), (2, .int x2)] := hl
  generalize ([.ref (ga g 4), .int x1, .int x2] : List Value).toArray = args at C ⊢
  have C : Cx g p s m args meth c cX3_aim 3 RX3 := C
  rw [f_X3_aim] at h
  refine lv_aload_n hx hb dX3_aim_0 rfl (lv_at hl 0 rfl) ?_
  refine lv_iload_n hx hb dX3_aim_1 rfl (lv_at hl 2 rfl) ?_
  obtain ⟨t1, et1, h⟩ := bnd_e h
  refine pX3_31 C hd et1 dX3_aim_2 (fun H locs hd => ?_)
  refine lv_aload_n hx hb dX3_aim_5 rfl (lv_at hl 0 rfl) ?_
  refine lv_bipush (v := (-2 : Int32)) hx hb dX3_aim_6 bi_m2 ?_
  obtain ⟨t2, et2, h⟩ := bnd_e h
  refine pX3_38 C hd et2 dX3_aim_8 (fun H locs hd => ?_)
  refine lv_aload_n hx hb dX3_aim_11 rfl (lv_at hl 0 rfl) ?_
  refine lv_iconst (v := 0) hx hb dX3_aim_12 ic_0 ?_
  obtain ⟨t3, et3, h⟩ := bnd_e h
  refine pX3_41 C hd et3 dX3_aim_13 (fun H locs hd => ?_)
  refine lv_aload_n hx hb dX3_aim_16 rfl (lv_at hl 0 rfl) ?_
  refine lv_iconst (v := (-1 : Int32)) hx hb dX3_aim_17 ic_m1 ?_
  obtain ⟨t4, et4, h⟩ := bnd_e h
  refine pX3_44 C hd et4 dX3_aim_18 (fun H locs hd => ?_)
  refine lv_aload_n hx hb dX3_aim_21 rfl (lv_at hl 0 rfl) ?_
  refine lv_iconst (v := 1) hx hb dX3_aim_22 ic_1 ?_
  obtain ⟨t5, et5, h⟩ := bnd_e h
  refine pX3_35 C hd et5 dX3_aim_23 (fun H locs hd => ?_)
  refine lv_aload_n hx hb dX3_aim_26 rfl (lv_at hl 0 rfl) ?_
  refine gX3_21 C hd dX3_aim_27 ?_
  refine lv_aload_n hx hb dX3_aim_30 rfl (lv_at hl 0 rfl) ?_
  refine gX3_31 C hd dX3_aim_31 ?_
  obtain ⟨r6, er6, h⟩ := cal_e h
  refine rCallI C hd (c_X2_hasLine hE er6) kX3_56 2 rfl rfl rfl rfl hl.1 rfl (Nat.le_of_ble_eq_true rfl) ⟨(Nat.le_of_ble_eq_true rfl), (Nat.le_of_ble_eq_true rfl)⟩ ⟨Nat.le_refl _, Nat.le_refl _⟩ dX3_aim_34 (fun H locs hd => ?_)
  refine lv_if_eq (tgt := 58) hx hb dX3_aim_37 (by decide) (fun c7 => ?_) (fun c7 => ?_)
  · replace h := iteT c7 h
    exact rVretS (w := wD g) C hr hd h dX3_aim_58
  · replace h := iteF c7 h
    refine lv_aload_n hx hb dX3_aim_40 rfl (lv_at hl 0 rfl) ?_
    refine gX3_26 C hd dX3_aim_41 ?_
    refine lv_iload_n hx hb dX3_aim_44 rfl (lv_at hl 1 rfl) ?_
    refine lv_aload_n hx hb dX3_aim_45 rfl (lv_at hl 0 rfl) ?_
    refine gX3_9 C hd dX3_aim_46 ?_
    refine gX3_62 C hd dX3_aim_49 ?_
    obtain ⟨r8, er8, h⟩ := cal_e h
    refine rCallI C hd (c_X0_isFit hE er8) kX3_65 3 rfl rfl rfl rfl hl.1 rfl (Nat.le_of_ble_eq_true rfl) ⟨(Nat.le_of_ble_eq_true rfl), (Nat.le_of_ble_eq_true rfl)⟩ ⟨Nat.le_refl _, Nat.le_refl _⟩ dX3_aim_52 (fun H locs hd => ?_)
    refine lv_if_ne (tgt := 59) hx hb dX3_aim_55 (by decide) (fun c9 => ?_) (fun c9 => ?_)
    · replace h := iteF c9 h
      refine lv_aload_n hx hb dX3_aim_59 rfl (lv_at hl 0 rfl) ?_
      refine lv_aload_n hx hb dX3_aim_60 rfl (lv_at hl 0 rfl) ?_
      refine lv_iload_n hx hb dX3_aim_61 rfl (lv_at hl 1 rfl) ?_
      obtain ⟨r10, t11, et11, h⟩ := cal2_e h
      refine rCallI C hd (c_X3_lookAtPages hE et11) kX3_71 4 rfl rfl rfl rfl hl.1 rfl (Nat.le_of_ble_eq_true rfl) ⟨(Nat.le_of_ble_eq_true rfl), (Nat.le_of_ble_eq_true rfl)⟩ ⟨Nat.le_refl _, Nat.le_refl _⟩ dX3_aim_62 (fun H locs hd => ?_)
      obtain ⟨t12, et12, h⟩ := bnd_e h
      refine pX3_35 C hd et12 dX3_aim_65 (fun H locs hd => ?_)
      refine lv_aload_n hx hb dX3_aim_68 rfl (lv_at hl 0 rfl) ?_
      refine gX3_35 C hd dX3_aim_69 ?_
      refine lv_if_ne (tgt := 102) hx hb dX3_aim_72 (by decide) (fun c13 => ?_) (fun c13 => ?_)
      · replace h := iteF c13 h
        exact rVretS (w := wD g) C hr hd h dX3_aim_102
      · replace h := iteT c13 h
        refine lv_aload_n hx hb dX3_aim_75 rfl (lv_at hl 0 rfl) ?_
        refine lv_aload_n hx hb dX3_aim_76 rfl (lv_at hl 0 rfl) ?_
        obtain ⟨r14, er14, h⟩ := cal_e h
        refine rCallI C hd (c_X3_firstChange hE er14) kX3_75 4 rfl rfl rfl rfl hl.1 rfl (Nat.le_of_ble_eq_true rfl) ⟨(Nat.le_of_ble_eq_true rfl), (Nat.le_of_ble_eq_true rfl)⟩ ⟨Nat.le_refl _, Nat.le_refl _⟩ dX3_aim_77 (fun H locs hd => ?_)
        obtain ⟨t15, et15, h⟩ := bnd_e h
        refine pX3_38 C hd et15 dX3_aim_80 (fun H locs hd => ?_)
        refine lv_aload_n hx hb dX3_aim_83 rfl (lv_at hl 0 rfl) ?_
        refine lv_aload_n hx hb dX3_aim_84 rfl (lv_at hl 0 rfl) ?_
        refine gX3_21 C hd dX3_aim_85 ?_
        refine lv_aload_n hx hb dX3_aim_88 rfl (lv_at hl 0 rfl) ?_
        refine gX3_31 C hd dX3_aim_89 ?_
        obtain ⟨r16, er16, h⟩ := cal_e h
        refine rCallI C hd (c_X2_tipOf hE er16) kX3_79 2 rfl rfl rfl rfl hl.1 rfl (Nat.le_of_ble_eq_true rfl) ⟨(Nat.le_of_ble_eq_true rfl), (Nat.le_of_ble_eq_true rfl)⟩ ⟨Nat.le_refl _, Nat.le_refl _⟩ dX3_aim_92 (fun H locs hd => ?_)
        obtain ⟨t17, et17, h⟩ := bnd_e h
        refine pX3_44 C hd et17 dX3_aim_95 (fun H locs hd => ?_)
        refine lv_aload_n hx hb dX3_aim_98 rfl (lv_at hl 0 rfl) ?_
        obtain ⟨t18, et18, h⟩ := cal_e h
        refine rCallV C hd (c_X3_lookAtPieces hE et18) kX3_82 4 rfl rfl rfl rfl hl.1 rfl (Nat.le_of_ble_eq_true rfl) ⟨(Nat.le_of_ble_eq_true rfl), (Nat.le_of_ble_eq_true rfl)⟩ ⟨Nat.le_refl _, Nat.le_refl _⟩ dX3_aim_99 (fun H locs hd => ?_)
        exact rVretS (w := wD g) C hr hd h dX3_aim_102
    · replace h := iteT c9 h
      exact rVretS (w := wD g) C hr hd h dX3_aim_58
noncomputable def f_X3_changesTo_62 (F : Nat) (k_28 : St → Int32 → Int32 → Int32 → Option Int32) (σ : St) (x2 : Int32) (x4 : Int32) (y0 : Int32) (y1 : Int32) : Option Int32 :=
  bnd (y1 + y0) (fun v1 => bnd (x4 + 1) (fun v2 => k_28 σ x2 v1 v2))
set_option maxRecDepth 100000 in
set_option maxHeartbeats 4000000 in
theorem w_X3_changesTo_62 {F : Nat} {r' : Int32}  (C : Cx g p s m args meth c cX3_changesTo 5 RX3) (hr : meth.sig.returnType = some .int)
    {k_28 : St → Int32 → Int32 → Int32 → Option Int32} (hk_28 : (∀ (σ : St) (x2 : Int32) (x3 : Int32) (x4 : Int32), k_28 σ x2 x3 x4 = some r' → ∀ (H : Heap) (locs : List Loc) (ls : Array Slot), Dy g (wD g σ ++ X) s H locs → lv_has ls 5 [(0, .ref (ga g 4)), (2, .int x2), (3, .int x3), (4, .int x4)] → W p l e (rmD 2) s m args below meth c H locs 0 0 (QI g below args s (wD g σ ++ X) r') (F0 m 28 ls []))) :
    (∀ (σ : St) (x2 : Int32) (x4 : Int32) (y0 : Int32) (y1 : Int32), f_X3_changesTo_62 F k_28 σ x2 x4 y0 y1 = some r' → ∀ (H : Heap) (locs : List Loc) (ls : Array Slot), Dy g (wD g σ ++ X) s H locs → lv_has ls 5 [(0, .ref (ga g 4)), (2, .int x2), (4, .int x4)] → W p l e (rmD 2) s m args below meth c H locs 0 0 (QI g below args s (wD g σ ++ X) r') (F0 m 62 ls [.int y0, .int y1])) := by
  have hx := C.1
  have hb := C.2.1
  have hE := C.2.2.2.2.2.2.2.2
  intro σ x2 x4 y0 y1 h H locs ls hd hl
  rw [f_X3_changesTo_62] at h
  refine lv_iadd hx hb dX3_changesTo_62 ?_
  obtain ⟨v1, ev1, h⟩ := bnd_e h
  refine rTop ev1 ?_
  refine lv_istore_n (lv' := [(3, .int v1), (0, .ref (ga g 4)), (2, .int x2), (4, .int x4)]) hx hb dX3_changesTo_63 rfl hl (Nat.le_of_ble_eq_true rfl) rfl (fun ls hl => ?_)
  obtain ⟨v2, ev2, h⟩ := bnd_e h
  refine lv_iinc (v := v2) (lv' := [(4, .int v2), (3, .int v1), (0, .ref (ga g 4)), (2, .int x2)]) hx hb dX3_changesTo_64 hl (k := 3) rfl ((ii_1 _).trans ev2.symm) (Nat.le_of_ble_eq_true rfl) rfl (fun ls hl => ?_)
  refine lv_goto (tgt := 28) hx hb dX3_changesTo_67 (by decide) ?_
  exact hk_28 σ x2 v1 v2 h _ _ _ hd (lv_sub hl [2, 3, 1, 0] rfl)
noncomputable def f_X3_changesTo_28 (F : Nat) : Nat → St → Int32 → Int32 → Int32 → Option Int32
  | 0, _, _, _, _ => none
  | n + 1, σ, x2, x3, x4 => if x2 < x4 then (some x3) else (cal (f_X2_changedAt F σ (σ.1 11) x4) (fun r2 => cal (f_X3_isBehind F σ r2 x4) (fun r3 => if r3 = 0 then (f_X3_changesTo_62 F (f_X3_changesTo_28 F n) σ x2 x4 0 x3) else (f_X3_changesTo_62 F (f_X3_changesTo_28 F n) σ x2 x4 1 x3))))
set_option maxRecDepth 100000 in
set_option maxHeartbeats 4000000 in
theorem w_X3_changesTo_28 {F : Nat} {r' : Int32}  (C : Cx g p s m args meth c cX3_changesTo 5 RX3) (hr : meth.sig.returnType = some .int) :
    (∀ (n : Nat) (σ : St) (x2 : Int32) (x3 : Int32) (x4 : Int32), f_X3_changesTo_28 F n σ x2 x3 x4 = some r' → ∀ (H : Heap) (locs : List Loc) (ls : Array Slot), Dy g (wD g σ ++ X) s H locs → lv_has ls 5 [(0, .ref (ga g 4)), (2, .int x2), (3, .int x3), (4, .int x4)] → W p l e (rmD 2) s m args below meth c H locs 0 0 (QI g below args s (wD g σ ++ X) r') (F0 m 28 ls [])) := by
  have hx := C.1
  have hb := C.2.1
  have hE := C.2.2.2.2.2.2.2.2
  intro n
  induction n with
  | zero =>
    intro σ x2 x3 x4 h
    cases h
  | succ n ih =>
    intro σ x2 x3 x4 h H locs ls hd hl
    rw [f_X3_changesTo_28] at h
    refine lv_iload hx hb dX3_changesTo_28 (lv_at hl 3 rfl) ?_
    refine lv_iload_n hx hb dX3_changesTo_30 rfl (lv_at hl 1 rfl) ?_
    refine lv_icmp_gt (tgt := 70) hx hb dX3_changesTo_31 (by decide) (fun c1 => ?_) (fun c1 => ?_)
    · replace h := iteT c1 h
      refine lv_iload_n hx hb dX3_changesTo_70 rfl (lv_at hl 2 rfl) ?_
      exact rIretP C hr hd h dX3_changesTo_71
    · replace h := iteF c1 h
      refine lv_iload_n hx hb dX3_changesTo_34 rfl (lv_at hl 2 rfl) ?_
      refine lv_aload_n hx hb dX3_changesTo_35 rfl (lv_at hl 0 rfl) ?_
      refine lv_aload_n hx hb dX3_changesTo_36 rfl (lv_at hl 0 rfl) ?_
      refine gX3_21 C hd dX3_changesTo_37 ?_
      refine lv_aload_n hx hb dX3_changesTo_40 rfl (lv_at hl 0 rfl) ?_
      refine gX3_31 C hd dX3_changesTo_41 ?_
      refine lv_iload hx hb dX3_changesTo_44 (lv_at hl 3 rfl) ?_
      obtain ⟨r2, er2, h⟩ := cal_e h
      refine rCallI C hd (c_X2_changedAt hE er2) kX3_104 2 rfl rfl rfl rfl hl.1 rfl (Nat.le_of_ble_eq_true rfl) ⟨(Nat.le_of_ble_eq_true rfl), (Nat.le_of_ble_eq_true rfl)⟩ ⟨Nat.le_refl _, Nat.le_refl _⟩ dX3_changesTo_46 (fun H locs hd => ?_)
      refine lv_iload hx hb dX3_changesTo_49 (lv_at hl 3 rfl) ?_
      obtain ⟨r3, er3, h⟩ := cal_e h
      refine rCallI C hd (c_X3_isBehind hE er3) kX3_107 4 rfl rfl rfl rfl hl.1 rfl (Nat.le_of_ble_eq_true rfl) ⟨(Nat.le_of_ble_eq_true rfl), (Nat.le_of_ble_eq_true rfl)⟩ ⟨Nat.le_refl _, Nat.le_refl _⟩ dX3_changesTo_51 (fun H locs hd => ?_)
      refine lv_if_eq (tgt := 61) hx hb dX3_changesTo_54 (by decide) (fun c4 => ?_) (fun c4 => ?_)
      · replace h := iteT c4 h
        refine lv_iconst (v := 0) hx hb dX3_changesTo_61 ic_0 ?_
        exact w_X3_changesTo_62 C hr ih σ x2 x4 0 x3 h _ _ _ hd (lv_sub hl [0, 1, 3] rfl)
      · replace h := iteF c4 h
        refine lv_iconst (v := 1) hx hb dX3_changesTo_57 ic_1 ?_
        refine lv_goto (tgt := 62) hx hb dX3_changesTo_58 (by decide) ?_
        exact w_X3_changesTo_62 C hr ih σ x2 x4 1 x3 h _ _ _ hd (lv_sub hl [0, 1, 3] rfl)
noncomputable def f_X3_changesTo (F : Nat) (σ : St) (x1 : Int32) : Option Int32 :=
  cal (f_X2_tipOf F σ (σ.1 11)) (fun r1 => bnd (mn x1 r1) (fun v2 => bnd (mx (σ.1 13) 1) (fun v3 => f_X3_changesTo_28 F F σ v2 0 v3)))
set_option maxRecDepth 100000 in
set_option maxHeartbeats 4000000 in
theorem c_X3_changesTo {l : Launch} {g : Gp} {X : va_W} (hE : E0 g) {F : Nat} {r' : Int32} {σ : St} {x1 : Int32} (h : f_X3_changesTo F σ x1 = some r') : Ci l g yX3_changesTo cX3_changesTo 5 (some .int) 2 [.ref (ga g 4), .int x1] (wD g σ ++ X) r' (wD g σ ++ X) := by
  refine rHead hE (by decide +kernel) (Nat.le_of_ble_eq_true rfl) (fun p e s m below meth c C hr _ hd ls hl => ?_)
  have hx := C.1
  have hb := C.2.1
  have hl : lv_has ls 5 [(0, .ref (ga g 4)), (1, .int x1)] := hl
  generalize ([.ref (ga g 4), .int x1] : List Value).toArray = args at C ⊢
  have C : Cx g p s m args meth c cX3_changesTo 5 RX3 := C
  rw [f_X3_changesTo] at h
  refine lv_iload_n hx hb dX3_changesTo_0 rfl (lv_at hl 1 rfl) ?_
  refine lv_aload_n hx hb dX3_changesTo_1 rfl (lv_at hl 0 rfl) ?_
  refine gX3_21 C hd dX3_changesTo_2 ?_
  refine lv_aload_n hx hb dX3_changesTo_5 rfl (lv_at hl 0 rfl) ?_
  refine gX3_31 C hd dX3_changesTo_6 ?_
  obtain ⟨r1, er1, h⟩ := cal_e h
  refine rCallI C hd (c_X2_tipOf hE er1) kX3_79 2 rfl rfl rfl rfl hl.1 rfl (Nat.le_of_ble_eq_true rfl) ⟨(Nat.le_of_ble_eq_true rfl), (Nat.le_of_ble_eq_true rfl)⟩ ⟨Nat.le_refl _, Nat.le_refl _⟩ dX3_changesTo_9 (fun H locs hd => ?_)
  refine rMin C hl.1 (mT 1238 (by decide +kernel)) (mT 380 (by decide +kernel)) (mT 14 (by decide +kernel)) (mT 381 (by decide +kernel)) ⟨(Nat.le_of_ble_eq_true rfl), (Nat.le_of_ble_eq_true rfl)⟩ ⟨Nat.le_refl _, Nat.le_refl _⟩ dX3_changesTo_12 ?_
  obtain ⟨v2, ev2, h⟩ := bnd_e h
  refine rTop ev2 ?_
  refine lv_istore_n (lv' := [(2, .int v2), (0, .ref (ga g 4)), (1, .int x1)]) hx hb dX3_changesTo_15 rfl hl (Nat.le_of_ble_eq_true rfl) rfl (fun ls hl => ?_)
  refine lv_iconst (v := 0) hx hb dX3_changesTo_16 ic_0 ?_
  refine lv_istore_n (lv' := [(3, .int 0), (2, .int v2), (0, .ref (ga g 4)), (1, .int x1)]) hx hb dX3_changesTo_17 rfl hl (Nat.le_of_ble_eq_true rfl) rfl (fun ls hl => ?_)
  refine lv_aload_n hx hb dX3_changesTo_18 rfl (lv_at hl 2 rfl) ?_
  refine gX3_38 C hd dX3_changesTo_19 ?_
  refine lv_iconst (v := 1) hx hb dX3_changesTo_22 ic_1 ?_
  refine rMax C hl.1 (mT 776 (by decide +kernel)) (mT 467 (by decide +kernel)) (mT 14 (by decide +kernel)) (mT 468 (by decide +kernel)) ⟨(Nat.le_of_ble_eq_true rfl), (Nat.le_of_ble_eq_true rfl)⟩ ⟨Nat.le_refl _, Nat.le_refl _⟩ dX3_changesTo_23 ?_
  obtain ⟨v3, ev3, h⟩ := bnd_e h
  refine rTop ev3 ?_
  refine lv_istore (lv' := [(4, .int v3), (3, .int 0), (2, .int v2), (0, .ref (ga g 4)), (1, .int x1)]) hx hb dX3_changesTo_26 hl (Nat.le_of_ble_eq_true rfl) rfl (fun ls hl => ?_)
  exact w_X3_changesTo_28 C hr _ σ v2 0 v3 h _ _ _ hd (lv_sub hl [3, 2, 1, 0] rfl)
noncomputable def f_X3_outcomeAt (F : Nat) (σ : St) (x1 : Int32) : Option Int32 :=
  cal (f_X2_hasPlace F σ (σ.1 11) x1) (fun r1 => if r1 = 0 then (some 1) else (if (σ.1 12) = 0 then (if (σ.1 14) ≤ x1 then (if (σ.1 15) < x1 then (some (σ.1 18)) else (some 0)) else (some 3)) else (some (σ.1 12))))
set_option maxRecDepth 100000 in
set_option maxHeartbeats 4000000 in
theorem c_X3_outcomeAt {l : Launch} {g : Gp} {X : va_W} (hE : E0 g) {F : Nat} {r' : Int32} {σ : St} {x1 : Int32} (h : f_X3_outcomeAt F σ x1 = some r') : Ci l g yX3_outcomeAt cX3_outcomeAt 2 (some .int) 2 [.ref (ga g 4), .int x1] (wD g σ ++ X) r' (wD g σ ++ X) := by
  refine rHead hE (by decide +kernel) (Nat.le_of_ble_eq_true rfl) (fun p e s m below meth c C hr _ hd ls hl => ?_)
  have hx := C.1
  have hb := C.2.1
  have hl : lv_has ls 2 [(0, .ref (ga g 4)), (1, .int x1)] := hl
  generalize ([.ref (ga g 4), .int x1] : List Value).toArray = args at C ⊢
  have C : Cx g p s m args meth c cX3_outcomeAt 2 RX3 := C
  rw [f_X3_outcomeAt] at h
  refine lv_aload_n hx hb dX3_outcomeAt_0 rfl (lv_at hl 0 rfl) ?_
  refine gX3_21 C hd dX3_outcomeAt_1 ?_
  refine lv_aload_n hx hb dX3_outcomeAt_4 rfl (lv_at hl 0 rfl) ?_
  refine gX3_31 C hd dX3_outcomeAt_5 ?_
  refine lv_iload_n hx hb dX3_outcomeAt_8 rfl (lv_at hl 1 rfl) ?_
  obtain ⟨r1, er1, h⟩ := cal_e h
  refine rCallI C hd (c_X2_hasPlace hE er1) kX3_122 2 rfl rfl rfl rfl hl.1 rfl (Nat.le_of_ble_eq_true rfl) ⟨(Nat.le_of_ble_eq_true rfl), (Nat.le_of_ble_eq_true rfl)⟩ ⟨Nat.le_refl _, Nat.le_refl _⟩ dX3_outcomeAt_9 (fun H locs hd => ?_)
  refine lv_if_ne (tgt := 17) hx hb dX3_outcomeAt_12 (by decide) (fun c2 => ?_) (fun c2 => ?_)
  · replace h := iteF c2 h
    refine lv_aload_n hx hb dX3_outcomeAt_17 rfl (lv_at hl 0 rfl) ?_
    refine gX3_35 C hd dX3_outcomeAt_18 ?_
    refine lv_if_eq (tgt := 29) hx hb dX3_outcomeAt_21 (by decide) (fun c3 => ?_) (fun c3 => ?_)
    · replace h := iteT c3 h
      refine lv_iload_n hx hb dX3_outcomeAt_29 rfl (lv_at hl 1 rfl) ?_
      refine lv_aload_n hx hb dX3_outcomeAt_30 rfl (lv_at hl 0 rfl) ?_
      refine gX3_41 C hd dX3_outcomeAt_31 ?_
      refine lv_icmp_ge (tgt := 39) hx hb dX3_outcomeAt_34 (by decide) (fun c4 => ?_) (fun c4 => ?_)
      · replace h := iteT c4 h
        refine lv_iload_n hx hb dX3_outcomeAt_39 rfl (lv_at hl 1 rfl) ?_
        refine lv_aload_n hx hb dX3_outcomeAt_40 rfl (lv_at hl 0 rfl) ?_
        refine gX3_44 C hd dX3_outcomeAt_41 ?_
        refine lv_icmp_gt (tgt := 51) hx hb dX3_outcomeAt_44 (by decide) (fun c5 => ?_) (fun c5 => ?_)
        · replace h := iteT c5 h
          refine lv_aload_n hx hb dX3_outcomeAt_51 rfl (lv_at hl 0 rfl) ?_
          refine gX3_53 C hd dX3_outcomeAt_52 ?_
          exact rIretP C hr hd h dX3_outcomeAt_55
        · replace h := iteF c5 h
          refine lv_iconst (v := 0) hx hb dX3_outcomeAt_47 ic_0 ?_
          refine lv_goto (tgt := 55) hx hb dX3_outcomeAt_48 (by decide) ?_
          exact rIretP C hr hd h dX3_outcomeAt_55
      · replace h := iteF c4 h
        refine lv_iconst (v := 3) hx hb dX3_outcomeAt_37 ic_3 ?_
        exact rIretP C hr hd h dX3_outcomeAt_38
    · replace h := iteF c3 h
      refine lv_aload_n hx hb dX3_outcomeAt_24 rfl (lv_at hl 0 rfl) ?_
      refine gX3_35 C hd dX3_outcomeAt_25 ?_
      exact rIretP C hr hd h dX3_outcomeAt_28
  · replace h := iteT c2 h
    refine lv_iconst (v := 1) hx hb dX3_outcomeAt_15 ic_1 ?_
    exact rIretP C hr hd h dX3_outcomeAt_16
noncomputable def f_X3_isOnTheWay (F : Nat) (σ : St) (x1 : Int32) : Option Int32 :=
  cal (f_X3_outcomeAt F σ x1) (fun r1 => if r1 = 0 then (some 1) else (if r1 = 4 then (some 1) else (if r1 = 5 then (some 1) else (some 0))))
set_option maxRecDepth 100000 in
set_option maxHeartbeats 4000000 in
theorem c_X3_isOnTheWay {l : Launch} {g : Gp} {X : va_W} (hE : E0 g) {F : Nat} {r' : Int32} {σ : St} {x1 : Int32} (h : f_X3_isOnTheWay F σ x1 = some r') : Ci l g yX3_isOnTheWay cX3_isOnTheWay 3 (some .boolean) 3 [.ref (ga g 4), .int x1] (wD g σ ++ X) r' (wD g σ ++ X) := by
  refine rHead hE (by decide +kernel) (Nat.le_of_ble_eq_true rfl) (fun p e s m below meth c C hr _ hd ls hl => ?_)
  have hx := C.1
  have hb := C.2.1
  have hl : lv_has ls 3 [(0, .ref (ga g 4)), (1, .int x1)] := hl
  generalize ([.ref (ga g 4), .int x1] : List Value).toArray = args at C ⊢
  have C : Cx g p s m args meth c cX3_isOnTheWay 3 RX3 := C
  rw [f_X3_isOnTheWay] at h
  refine lv_aload_n hx hb dX3_isOnTheWay_0 rfl (lv_at hl 0 rfl) ?_
  refine lv_iload_n hx hb dX3_isOnTheWay_1 rfl (lv_at hl 1 rfl) ?_
  obtain ⟨r1, er1, h⟩ := cal_e h
  refine rCallI C hd (c_X3_outcomeAt hE er1) kX3_125 4 rfl rfl rfl rfl hl.1 rfl (Nat.le_of_ble_eq_true rfl) ⟨(Nat.le_of_ble_eq_true rfl), (Nat.le_of_ble_eq_true rfl)⟩ ⟨Nat.le_refl _, Nat.le_refl _⟩ dX3_isOnTheWay_2 (fun H locs hd => ?_)
  refine lv_istore_n (lv' := [(2, .int r1), (0, .ref (ga g 4)), (1, .int x1)]) hx hb dX3_isOnTheWay_5 rfl hl (Nat.le_of_ble_eq_true rfl) rfl (fun ls hl => ?_)
  refine lv_iload_n hx hb dX3_isOnTheWay_6 rfl (lv_at hl 0 rfl) ?_
  refine lv_if_eq (tgt := 20) hx hb dX3_isOnTheWay_7 (by decide) (fun c2 => ?_) (fun c2 => ?_)
  · replace h := iteT c2 h
    refine lv_iconst (v := 1) hx hb dX3_isOnTheWay_20 ic_1 ?_
    refine lv_goto (tgt := 25) hx hb dX3_isOnTheWay_21 (by decide) ?_
    exact rZretP C hr hd h (by decide) dX3_isOnTheWay_25
  · replace h := iteF c2 h
    refine lv_iload_n hx hb dX3_isOnTheWay_10 rfl (lv_at hl 0 rfl) ?_
    refine lv_iconst (v := 4) hx hb dX3_isOnTheWay_11 ic_4 ?_
    refine lv_icmp_eq (tgt := 20) hx hb dX3_isOnTheWay_12 (by decide) (fun c3 => ?_) (fun c3 => ?_)
    · replace h := iteT c3 h
      refine lv_iconst (v := 1) hx hb dX3_isOnTheWay_20 ic_1 ?_
      refine lv_goto (tgt := 25) hx hb dX3_isOnTheWay_21 (by decide) ?_
      exact rZretP C hr hd h (by decide) dX3_isOnTheWay_25
    · replace h := iteF c3 h
      refine lv_iload_n hx hb dX3_isOnTheWay_15 rfl (lv_at hl 0 rfl) ?_
      refine lv_iconst (v := 5) hx hb dX3_isOnTheWay_16 ic_5 ?_
      refine lv_icmp_ne (tgt := 24) hx hb dX3_isOnTheWay_17 (by decide) (fun c4 => ?_) (fun c4 => ?_)
      · replace h := iteF c4 h
        refine lv_iconst (v := 0) hx hb dX3_isOnTheWay_24 ic_0 ?_
        exact rZretP C hr hd h (by decide) dX3_isOnTheWay_25
      · replace h := iteT c4 h
        refine lv_iconst (v := 1) hx hb dX3_isOnTheWay_20 ic_1 ?_
        refine lv_goto (tgt := 25) hx hb dX3_isOnTheWay_21 (by decide) ?_
        exact rZretP C hr hd h (by decide) dX3_isOnTheWay_25
noncomputable def f_X3_neededTo (F : Nat) (σ : St) (x1 : Int32) : Option Int32 :=
  if (σ.1 13) = (-2 : Int32) then (some 0) else (if (σ.1 13) ≤ x1 then (some ((x1 - (σ.1 13)) + 1)) else (some 0))
set_option maxRecDepth 100000 in
set_option maxHeartbeats 4000000 in
theorem c_X3_neededTo {l : Launch} {g : Gp} {X : va_W} (hE : E0 g) {F : Nat} {r' : Int32} {σ : St} {x1 : Int32} (h : f_X3_neededTo F σ x1 = some r') : Ci l g yX3_neededTo cX3_neededTo 2 (some .int) 0 [.ref (ga g 4), .int x1] (wD g σ ++ X) r' (wD g σ ++ X) := by
  refine rHead hE (by decide +kernel) (Nat.le_of_ble_eq_true rfl) (fun p e s m below meth c C hr _ hd ls hl => ?_)
  have hx := C.1
  have hb := C.2.1
  have hl : lv_has ls 2 [(0, .ref (ga g 4)), (1, .int x1)] := hl
  generalize ([.ref (ga g 4), .int x1] : List Value).toArray = args at C ⊢
  have C : Cx g p s m args meth c cX3_neededTo 2 RX3 := C
  rw [f_X3_neededTo] at h
  refine lv_aload_n hx hb dX3_neededTo_0 rfl (lv_at hl 0 rfl) ?_
  refine gX3_38 C hd dX3_neededTo_1 ?_
  refine lv_bipush (v := (-2 : Int32)) hx hb dX3_neededTo_4 bi_m2 ?_
  refine lv_icmp_eq (tgt := 17) hx hb dX3_neededTo_6 (by decide) (fun c1 => ?_) (fun c1 => ?_)
  · replace h := iteT c1 h
    refine lv_iconst (v := 0) hx hb dX3_neededTo_17 ic_0 ?_
    refine lv_goto (tgt := 29) hx hb dX3_neededTo_18 (by decide) ?_
    exact rIretP C hr hd h dX3_neededTo_29
  · replace h := iteF c1 h
    refine lv_iload_n hx hb dX3_neededTo_9 rfl (lv_at hl 1 rfl) ?_
    refine lv_aload_n hx hb dX3_neededTo_10 rfl (lv_at hl 0 rfl) ?_
    refine gX3_38 C hd dX3_neededTo_11 ?_
    refine lv_icmp_ge (tgt := 21) hx hb dX3_neededTo_14 (by decide) (fun c2 => ?_) (fun c2 => ?_)
    · replace h := iteT c2 h
      refine lv_iload_n hx hb dX3_neededTo_21 rfl (lv_at hl 1 rfl) ?_
      refine lv_aload_n hx hb dX3_neededTo_22 rfl (lv_at hl 0 rfl) ?_
      refine gX3_38 C hd dX3_neededTo_23 ?_
      refine lv_isub hx hb dX3_neededTo_26 ?_
      refine lv_iconst (v := 1) hx hb dX3_neededTo_27 ic_1 ?_
      refine lv_iadd hx hb dX3_neededTo_28 ?_
      exact rIretP C hr hd h dX3_neededTo_29
    · replace h := iteF c2 h
      refine lv_iconst (v := 0) hx hb dX3_neededTo_17 ic_0 ?_
      refine lv_goto (tgt := 29) hx hb dX3_neededTo_18 (by decide) ?_
      exact rIretP C hr hd h dX3_neededTo_29
noncomputable def f_X3_placesReached (F : Nat) (σ : St) : Option Int32 :=
  some (mx 0 (((σ.1 15) - (σ.1 14)) + 1))
set_option maxRecDepth 100000 in
set_option maxHeartbeats 4000000 in
theorem c_X3_placesReached {l : Launch} {g : Gp} {X : va_W} (hE : E0 g) {F : Nat} {r' : Int32} {σ : St} (h : f_X3_placesReached F σ = some r') : Ci l g yX3_placesReached cX3_placesReached 1 (some .int) 1 [.ref (ga g 4)] (wD g σ ++ X) r' (wD g σ ++ X) := by
  refine rHead hE (by decide +kernel) (Nat.le_of_ble_eq_true rfl) (fun p e s m below meth c C hr _ hd ls hl => ?_)
  have hx := C.1
  have hb := C.2.1
  have hl : lv_has ls 1 [(0, .ref (ga g 4))] := hl
  generalize ([.ref (ga g 4)] : List Value).toArray = args at C ⊢
  have C : Cx g p s m args meth c cX3_placesReached 1 RX3 := C
  rw [f_X3_placesReached] at h
  refine lv_iconst (v := 0) hx hb dX3_placesReached_0 ic_0 ?_
  refine lv_aload_n hx hb dX3_placesReached_1 rfl (lv_at hl 0 rfl) ?_
  refine gX3_44 C hd dX3_placesReached_2 ?_
  refine lv_aload_n hx hb dX3_placesReached_5 rfl (lv_at hl 0 rfl) ?_
  refine gX3_41 C hd dX3_placesReached_6 ?_
  refine lv_isub hx hb dX3_placesReached_9 ?_
  refine lv_iconst (v := 1) hx hb dX3_placesReached_10 ic_1 ?_
  refine lv_iadd hx hb dX3_placesReached_11 ?_
  refine rMax C hl.1 (mT 776 (by decide +kernel)) (mT 467 (by decide +kernel)) (mT 14 (by decide +kernel)) (mT 468 (by decide +kernel)) ⟨(Nat.le_of_ble_eq_true rfl), (Nat.le_of_ble_eq_true rfl)⟩ ⟨Nat.le_refl _, Nat.le_refl _⟩ dX3_placesReached_12 ?_
  exact rIretP C hr hd h dX3_placesReached_15
end S
