section S
variable {p : Program} {l : Launch} {e : Env} {s : State} {m : MethodId} {args : Array Value} {below : List Frame} {meth : Method} {c : Code} {g : Gp} {X : va_W}
noncomputable def f_X2_hasRow (F : Nat) (σ : St) (x1 : Int32) : Option Int32 :=
  if x1 < 0 then (some 0) else (if (σ.1 7) ≤ x1 then (some 0) else (some 1))
set_option maxRecDepth 100000 in
set_option maxHeartbeats 4000000 in
theorem c_X2_hasRow {l : Launch} {g : Gp} {X : va_W} (hE : E0 g) {F : Nat} {r' : Int32} {σ : St} {x1 : Int32} (h : f_X2_hasRow F σ x1 = some r') : Ci l g yX2_hasRow cX2_hasRow 2 (some .boolean) 0 [.ref (ga g 2), .int x1] (wD g σ ++ X) r' (wD g σ ++ X) := by
  refine rHead hE (by decide +kernel) (Nat.le_of_ble_eq_true rfl) (fun p e s m below meth c C hr _ hd ls hl => ?_)
  have hx := C.1
  have hb := C.2.1
  have hl : lv_has ls 2 [(0, .ref (ga g 2)), (1, .int x1)] := hl
  generalize ([.ref (ga g 2), .int x1] : List Value).toArray = args at C ⊢
  have C : Cx g p s m args meth c cX2_hasRow 2 RX2 := C
  rw [f_X2_hasRow] at h
  refine lv_iload_n hx hb dX2_hasRow_0 rfl (lv_at hl 1 rfl) ?_
  refine lv_if_lt (tgt := 16) hx hb dX2_hasRow_1 (by decide) (fun c1 => ?_) (fun c1 => ?_)
  · replace h := iteT c1 h
    refine lv_iconst (v := 0) hx hb dX2_hasRow_16 ic_0 ?_
    exact rZretP C hr hd h (by decide) dX2_hasRow_17
  · replace h := iteF c1 h
    refine lv_iload_n hx hb dX2_hasRow_4 rfl (lv_at hl 1 rfl) ?_
    refine lv_aload_n hx hb dX2_hasRow_5 rfl (lv_at hl 0 rfl) ?_
    refine gX2_18 C hd dX2_hasRow_6 ?_
    refine lv_icmp_ge (tgt := 16) hx hb dX2_hasRow_9 (by decide) (fun c2 => ?_) (fun c2 => ?_)
    · replace h := iteT c2 h
      refine lv_iconst (v := 0) hx hb dX2_hasRow_16 ic_0 ?_
      exact rZretP C hr hd h (by decide) dX2_hasRow_17
    · replace h := iteF c2 h
      refine lv_iconst (v := 1) hx hb dX2_hasRow_12 ic_1 ?_
      refine lv_goto (tgt := 17) hx hb dX2_hasRow_13 (by decide) ?_
      exact rZretP C hr hd h (by decide) dX2_hasRow_17
noncomputable def f_X2_amountIn (F : Nat) (σ : St) (x1 : Int32) : Option Int32 :=
  cal (f_X2_hasRow F σ x1) (fun r1 => if r1 = 0 then (some 0) else (if inb x1 600 = true then some (σ.2.1 17 x1.toNatClampNeg) else none))
set_option maxRecDepth 100000 in
set_option maxHeartbeats 4000000 in
theorem c_X2_amountIn {l : Launch} {g : Gp} {X : va_W} (hE : E0 g) {F : Nat} {r' : Int32} {σ : St} {x1 : Int32} (h : f_X2_amountIn F σ x1 = some r') : Ci l g yX2_amountIn cX2_amountIn 2 (some .int) 1 [.ref (ga g 2), .int x1] (wD g σ ++ X) r' (wD g σ ++ X) := by
  refine rHead hE (by decide +kernel) (Nat.le_of_ble_eq_true rfl) (fun p e s m below meth c C hr _ hd ls hl => ?_)
  have hx := C.1
  have hb := C.2.1
  have hl : lv_has ls 2 [(0, .ref (ga g 2)), (1, .int x1)] := hl
  generalize ([.ref (ga g 2), .int x1] : List Value).toArray = args at C ⊢
  have C : Cx g p s m args meth c cX2_amountIn 2 RX2 := C
  rw [f_X2_amountIn] at h
  refine lv_aload_n hx hb dX2_amountIn_0 rfl (lv_at hl 0 rfl) ?_
  refine lv_iload_n hx hb dX2_amountIn_1 rfl (lv_at hl 1 rfl) ?_
  obtain ⟨r1, er1, h⟩ := cal_e h
  refine rCallI C hd (c_X2_hasRow hE er1) kX2_79 2 rfl rfl rfl rfl hl.1 rfl (Nat.le_of_ble_eq_true rfl) ⟨(Nat.le_of_ble_eq_true rfl), (Nat.le_of_ble_eq_true rfl)⟩ ⟨Nat.le_refl _, Nat.le_refl _⟩ dX2_amountIn_2 (fun H locs hd => ?_)
  refine lv_if_eq (tgt := 17) hx hb dX2_amountIn_5 (by decide) (fun c2 => ?_) (fun c2 => ?_)
  · replace h := iteT c2 h
    refine lv_iconst (v := 0) hx hb dX2_amountIn_17 ic_0 ?_
    exact rIretP C hr hd h dX2_amountIn_18
  · replace h := iteF c2 h
    refine lv_aload_n hx hb dX2_amountIn_8 rfl (lv_at hl 0 rfl) ?_
    refine gX2_41 C hd dX2_amountIn_9 ?_
    refine lv_iload_n hx hb dX2_amountIn_12 rfl (lv_at hl 1 rfl) ?_
    obtain ⟨n3, h⟩ := chk h
    refine ld_wD_17 C hd (inb_i n3) dX2_amountIn_13 ?_
    refine lv_goto (tgt := 18) hx hb dX2_amountIn_14 (by decide) ?_
    exact rIretP C hr hd h dX2_amountIn_18
noncomputable def f_X2_branch_66 (F : Nat) : Nat → St → Int32 → Int32 → Option St
  | 0, _, _, _ => none
  | n + 1, σ, x3, x4 => if 120 ≤ x4 then (some σ) else (if inb ((x3 * 120) + x4) 960 = true then bnd (sr σ 18 ((x3 * 120) + x4).toNatClampNeg (vp_nar .byte 0)) (fun t3 => bnd (x4 + 1) (fun v4 => f_X2_branch_66 F n t3 x3 v4)) else none)
set_option maxRecDepth 100000 in
set_option maxHeartbeats 4000000 in
theorem w_X2_branch_66 {F : Nat} {σ' : St}  (C : Cx g p s m args meth c cX2_branch 5 RX2) (hr : meth.sig.returnType = none) :
    (∀ (n : Nat) (σ : St) (x3 : Int32) (x4 : Int32), f_X2_branch_66 F n σ x3 x4 = some σ' → ∀ (H : Heap) (locs : List Loc) (ls : Array Slot), Dy g (wD g σ ++ X) s H locs → lv_has ls 5 [(0, .ref (ga g 2)), (3, .int x3), (4, .int x4)] → W p l e (rmD 0) s m args below meth c H locs 0 0 (QV g below args s (wD g σ' ++ X)) (F0 m 66 ls [])) := by
  have hx := C.1
  have hb := C.2.1
  have hE := C.2.2.2.2.2.2.2.2
  intro n
  induction n with
  | zero =>
    intro σ x3 x4 h
    cases h
  | succ n ih =>
    intro σ x3 x4 h H locs ls hd hl
    rw [f_X2_branch_66] at h
    refine lv_iload hx hb dX2_branch_66 (lv_at hl 2 rfl) ?_
    refine lv_bipush (v := 120) hx hb dX2_branch_68 bi_120 ?_
    refine lv_icmp_ge (tgt := 92) hx hb dX2_branch_70 (by decide) (fun c1 => ?_) (fun c1 => ?_)
    · replace h := iteT c1 h
      exact rVretS (w := wD g) C hr hd h dX2_branch_92
    · replace h := iteF c1 h
      refine lv_aload_n hx hb dX2_branch_73 rfl (lv_at hl 0 rfl) ?_
      refine gX2_44 C hd dX2_branch_74 ?_
      refine lv_iload_n hx hb dX2_branch_77 rfl (lv_at hl 1 rfl) ?_
      refine lv_bipush (v := 120) hx hb dX2_branch_78 bi_120 ?_
      refine lv_imul hx hb dX2_branch_80 ?_
      refine lv_iload hx hb dX2_branch_81 (lv_at hl 2 rfl) ?_
      refine lv_iadd hx hb dX2_branch_83 ?_
      refine lv_iconst (v := 0) hx hb dX2_branch_84 ic_0 ?_
      obtain ⟨n2, h⟩ := chk h
      obtain ⟨t3, et3, h⟩ := bnd_e h
      refine st_wD_18 C hd (inb_i n2) et3 dX2_branch_85 (fun H locs hd => ?_)
      obtain ⟨v4, ev4, h⟩ := bnd_e h
      refine lv_iinc (v := v4) (lv' := [(4, .int v4), (0, .ref (ga g 2)), (3, .int x3)]) hx hb dX2_branch_86 hl (k := 2) rfl ((ii_1 _).trans ev4.symm) (Nat.le_of_ble_eq_true rfl) rfl (fun ls hl => ?_)
      refine lv_goto (tgt := 66) hx hb dX2_branch_89 (by decide) ?_
      exact ih t3 x3 v4 h _ _ _ hd (lv_sub hl [1, 2, 0] rfl)
noncomputable def f_X2_branch (F : Nat) (σ : St) (x1 : Int32) (x2 : Int32) : Option St :=
  if (σ.1 6) < 0 then (some σ) else (if (σ.1 6) < 8 then (bnd (σ.1 6) (fun v3 => bnd (ss σ 6 ((σ.1 6) + 1)) (fun t4 => if inb v3 8 = true then bnd (sr t4 11 v3.toNatClampNeg x1) (fun t6 => if inb v3 8 = true then bnd (sr t6 12 v3.toNatClampNeg x2) (fun t8 => if inb v3 8 = true then bnd (sr t8 13 v3.toNatClampNeg x2) (fun t10 => if inb v3 8 = true then bnd (sr t10 14 v3.toNatClampNeg (t10.1 7)) (fun t12 => f_X2_branch_66 F F t12 v3 0) else none) else none) else none) else none))) else (some σ))
set_option maxRecDepth 100000 in
set_option maxHeartbeats 4000000 in
theorem c_X2_branch {l : Launch} {g : Gp} {X : va_W} (hE : E0 g) {F : Nat} {σ' : St} {σ : St} {x1 : Int32} {x2 : Int32} (h : f_X2_branch F σ x1 x2 = some σ') : Cv l g yX2_branch cX2_branch 5 0 [.ref (ga g 2), .int x1, .int x2] (wD g σ ++ X) (wD g σ' ++ X) := by
  refine rHead hE (by decide +kernel) (Nat.le_of_ble_eq_true rfl) (fun p e s m below meth c C hr _ hd ls hl => ?_)
  have hx := C.1
  have hb := C.2.1
  have hl : lv_has ls 5 [(0, .ref (ga g 2)), (1, .int x1), (2, .int x2)] := hl
  generalize ([.ref (ga g 2), .int x1, .int x2] : List Value).toArray = args at C ⊢
  have C : Cx g p s m args meth c cX2_branch 5 RX2 := C
  rw [f_X2_branch] at h
  refine lv_aload_n hx hb dX2_branch_0 rfl (lv_at hl 0 rfl) ?_
  refine gX2_15 C hd dX2_branch_1 ?_
  refine lv_if_lt (tgt := 16) hx hb dX2_branch_4 (by decide) (fun c1 => ?_) (fun c1 => ?_)
  · replace h := iteT c1 h
    exact rVretS (w := wD g) C hr hd h dX2_branch_16
  · replace h := iteF c1 h
    refine lv_aload_n hx hb dX2_branch_7 rfl (lv_at hl 0 rfl) ?_
    refine gX2_15 C hd dX2_branch_8 ?_
    refine lv_bipush (v := 8) hx hb dX2_branch_11 bi_8 ?_
    refine lv_icmp_lt (tgt := 17) hx hb dX2_branch_13 (by decide) (fun c2 => ?_) (fun c2 => ?_)
    · replace h := iteT c2 h
      refine lv_aload_n hx hb dX2_branch_17 rfl (lv_at hl 0 rfl) ?_
      refine gX2_15 C hd dX2_branch_18 ?_
      obtain ⟨v3, ev3, h⟩ := bnd_e h
      refine rTop ev3 ?_
      refine lv_istore_n (lv' := [(3, .int v3), (0, .ref (ga g 2)), (1, .int x1), (2, .int x2)]) hx hb dX2_branch_21 rfl hl (Nat.le_of_ble_eq_true rfl) rfl (fun ls hl => ?_)
      refine lv_aload_n hx hb dX2_branch_22 rfl (lv_at hl 1 rfl) ?_
      refine lv_dup hx hb dX2_branch_23 rfl ?_
      refine gX2_15 C hd dX2_branch_24 ?_
      refine lv_iconst (v := 1) hx hb dX2_branch_27 ic_1 ?_
      refine lv_iadd hx hb dX2_branch_28 ?_
      obtain ⟨t4, et4, h⟩ := bnd_e h
      refine pX2_15 C hd et4 dX2_branch_29 (fun H locs hd => ?_)
      refine lv_aload_n hx hb dX2_branch_32 rfl (lv_at hl 1 rfl) ?_
      refine gX2_21 C hd dX2_branch_33 ?_
      refine lv_iload_n hx hb dX2_branch_36 rfl (lv_at hl 0 rfl) ?_
      refine lv_iload_n hx hb dX2_branch_37 rfl (lv_at hl 2 rfl) ?_
      obtain ⟨n5, h⟩ := chk h
      obtain ⟨t6, et6, h⟩ := bnd_e h
      refine st_wD_11 C hd (inb_i n5) et6 dX2_branch_38 (fun H locs hd => ?_)
      refine lv_aload_n hx hb dX2_branch_39 rfl (lv_at hl 1 rfl) ?_
      refine gX2_25 C hd dX2_branch_40 ?_
      refine lv_iload_n hx hb dX2_branch_43 rfl (lv_at hl 0 rfl) ?_
      refine lv_iload_n hx hb dX2_branch_44 rfl (lv_at hl 3 rfl) ?_
      obtain ⟨n7, h⟩ := chk h
      obtain ⟨t8, et8, h⟩ := bnd_e h
      refine st_wD_12 C hd (inb_i n7) et8 dX2_branch_45 (fun H locs hd => ?_)
      refine lv_aload_n hx hb dX2_branch_46 rfl (lv_at hl 1 rfl) ?_
      refine gX2_28 C hd dX2_branch_47 ?_
      refine lv_iload_n hx hb dX2_branch_50 rfl (lv_at hl 0 rfl) ?_
      refine lv_iload_n hx hb dX2_branch_51 rfl (lv_at hl 3 rfl) ?_
      obtain ⟨n9, h⟩ := chk h
      obtain ⟨t10, et10, h⟩ := bnd_e h
      refine st_wD_13 C hd (inb_i n9) et10 dX2_branch_52 (fun H locs hd => ?_)
      refine lv_aload_n hx hb dX2_branch_53 rfl (lv_at hl 1 rfl) ?_
      refine gX2_31 C hd dX2_branch_54 ?_
      refine lv_iload_n hx hb dX2_branch_57 rfl (lv_at hl 0 rfl) ?_
      refine lv_aload_n hx hb dX2_branch_58 rfl (lv_at hl 1 rfl) ?_
      refine gX2_18 C hd dX2_branch_59 ?_
      obtain ⟨n11, h⟩ := chk h
      obtain ⟨t12, et12, h⟩ := bnd_e h
      refine st_wD_14 C hd (inb_i n11) et12 dX2_branch_62 (fun H locs hd => ?_)
      refine lv_iconst (v := 0) hx hb dX2_branch_63 ic_0 ?_
      refine lv_istore (lv' := [(4, .int 0), (3, .int v3), (0, .ref (ga g 2)), (1, .int x1), (2, .int x2)]) hx hb dX2_branch_64 hl (Nat.le_of_ble_eq_true rfl) rfl (fun ls hl => ?_)
      exact w_X2_branch_66 C hr _ t12 v3 0 h _ _ _ hd (lv_sub hl [2, 1, 0] rfl)
    · replace h := iteF c2 h
      exact rVretS (w := wD g) C hr hd h dX2_branch_16
noncomputable def f_X2_begin (F : Nat) (σ : St) (x1 : Int32) : Option St :=
  bnd (ss σ 5 x1) (fun t1 => bnd (ss t1 6 0) (fun t2 => bnd (ss t2 7 0) (fun t3 => cal (f_X2_branch F t3 (-2 : Int32) 0) (fun t4 => some t4))))
set_option maxRecDepth 100000 in
set_option maxHeartbeats 4000000 in
theorem c_X2_begin {l : Launch} {g : Gp} {X : va_W} (hE : E0 g) {F : Nat} {σ' : St} {σ : St} {x1 : Int32} (h : f_X2_begin F σ x1 = some σ') : Cv l g yX2_begin cX2_begin 2 1 [.ref (ga g 2), .int x1] (wD g σ ++ X) (wD g σ' ++ X) := by
  refine rHead hE (by decide +kernel) (Nat.le_of_ble_eq_true rfl) (fun p e s m below meth c C hr _ hd ls hl => ?_)
  have hx := C.1
  have hb := C.2.1
  have hl : lv_has ls 2 [(0, .ref (ga g 2)), (1, .int x1)] := hl
  generalize ([.ref (ga g 2), .int x1] : List Value).toArray = args at C ⊢
  have C : Cx g p s m args meth c cX2_begin 2 RX2 := C
  rw [f_X2_begin] at h
  refine lv_aload_n hx hb dX2_begin_0 rfl (lv_at hl 0 rfl) ?_
  refine lv_iload_n hx hb dX2_begin_1 rfl (lv_at hl 1 rfl) ?_
  obtain ⟨t1, et1, h⟩ := bnd_e h
  refine pX2_9 C hd et1 dX2_begin_2 (fun H locs hd => ?_)
  refine lv_aload_n hx hb dX2_begin_5 rfl (lv_at hl 0 rfl) ?_
  refine lv_iconst (v := 0) hx hb dX2_begin_6 ic_0 ?_
  obtain ⟨t2, et2, h⟩ := bnd_e h
  refine pX2_15 C hd et2 dX2_begin_7 (fun H locs hd => ?_)
  refine lv_aload_n hx hb dX2_begin_10 rfl (lv_at hl 0 rfl) ?_
  refine lv_iconst (v := 0) hx hb dX2_begin_11 ic_0 ?_
  obtain ⟨t3, et3, h⟩ := bnd_e h
  refine pX2_18 C hd et3 dX2_begin_12 (fun H locs hd => ?_)
  refine lv_aload_n hx hb dX2_begin_15 rfl (lv_at hl 0 rfl) ?_
  refine lv_bipush (v := (-2 : Int32)) hx hb dX2_begin_16 bi_m2 ?_
  refine lv_iconst (v := 0) hx hb dX2_begin_18 ic_0 ?_
  obtain ⟨t4, et4, h⟩ := cal_e h
  refine rCallV C hd (c_X2_branch hE et4) kX2_47 2 rfl rfl rfl rfl hl.1 rfl (Nat.le_of_ble_eq_true rfl) ⟨(Nat.le_of_ble_eq_true rfl), (Nat.le_of_ble_eq_true rfl)⟩ ⟨Nat.le_refl _, Nat.le_refl _⟩ dX2_begin_19 (fun H locs hd => ?_)
  exact rVretS (w := wD g) C hr hd h dX2_begin_22
noncomputable def f_X2_rowOf_68 (F : Nat) (σ : St) (x2 : Int32) (x3 : Int32) : Option Int32 :=
  if 0 ≤ x3 then (if inb x3 8 = true then if inb x3 8 = true then some ((((σ.2.1 14 x3.toNatClampNeg) + x2) - (σ.2.1 12 x3.toNatClampNeg)) - 1) else none else none) else (some (-1 : Int32))
set_option maxRecDepth 100000 in
set_option maxHeartbeats 4000000 in
theorem w_X2_rowOf_68 {F : Nat} {r' : Int32}  (C : Cx g p s m args meth c cX2_rowOf 5 RX2) (hr : meth.sig.returnType = some .int) :
    (∀ (σ : St) (x2 : Int32) (x3 : Int32), f_X2_rowOf_68 F σ x2 x3 = some r' → ∀ (H : Heap) (locs : List Loc) (ls : Array Slot), Dy g (wD g σ ++ X) s H locs → lv_has ls 5 [(0, .ref (ga g 2)), (2, .int x2), (3, .int x3)] → W p l e (rmD 0) s m args below meth c H locs 0 0 (QI g below args s (wD g σ ++ X) r') (F0 m 68 ls [])) := by
  have hx := C.1
  have hb := C.2.1
  have hE := C.2.2.2.2.2.2.2.2
  intro σ x2 x3 h H locs ls hd hl
  rw [f_X2_rowOf_68] at h
  refine lv_iload_n hx hb dX2_rowOf_68 rfl (lv_at hl 2 rfl) ?_
  refine lv_if_ge (tgt := 76) hx hb dX2_rowOf_69 (by decide) (fun c1 => ?_) (fun c1 => ?_)
  · replace h := iteT c1 h
    refine lv_aload_n hx hb dX2_rowOf_76 rfl (lv_at hl 0 rfl) ?_
    refine gX2_31 C hd dX2_rowOf_77 ?_
    refine lv_iload_n hx hb dX2_rowOf_80 rfl (lv_at hl 2 rfl) ?_
    obtain ⟨n2, h⟩ := chk h
    refine ld_wD_14 C hd (inb_i n2) dX2_rowOf_81 ?_
    refine lv_iload_n hx hb dX2_rowOf_82 rfl (lv_at hl 1 rfl) ?_
    refine lv_iadd hx hb dX2_rowOf_83 ?_
    refine lv_aload_n hx hb dX2_rowOf_84 rfl (lv_at hl 0 rfl) ?_
    refine gX2_25 C hd dX2_rowOf_85 ?_
    refine lv_iload_n hx hb dX2_rowOf_88 rfl (lv_at hl 2 rfl) ?_
    obtain ⟨n3, h⟩ := chk h
    refine ld_wD_12 C hd (inb_i n3) dX2_rowOf_89 ?_
    refine lv_isub hx hb dX2_rowOf_90 ?_
    refine lv_iconst (v := 1) hx hb dX2_rowOf_91 ic_1 ?_
    refine lv_isub hx hb dX2_rowOf_92 ?_
    exact rIretP C hr hd h dX2_rowOf_93
  · replace h := iteF c1 h
    refine lv_iconst (v := (-1 : Int32)) hx hb dX2_rowOf_72 ic_m1 ?_
    refine lv_goto (tgt := 93) hx hb dX2_rowOf_73 (by decide) ?_
    exact rIretP C hr hd h dX2_rowOf_93
noncomputable def f_X2_rowOf_34 (F : Nat) : Nat → St → Int32 → Int32 → Int32 → Option Int32
  | 0, _, _, _, _ => none
  | n + 1, σ, x2, x3, x4 => if 8 ≤ x4 then (f_X2_rowOf_68 F σ x2 x3) else (if x3 ≤ 0 then (f_X2_rowOf_68 F σ x2 x3) else (if inb x3 8 = true then if (σ.2.1 12 x3.toNatClampNeg) < x2 then (f_X2_rowOf_68 F σ x2 x3) else (if inb x3 8 = true then bnd (σ.2.1 11 x3.toNatClampNeg) (fun v6 => bnd (x4 + 1) (fun v7 => f_X2_rowOf_34 F n σ x2 v6 v7)) else none) else none))
set_option maxRecDepth 100000 in
set_option maxHeartbeats 4000000 in
theorem w_X2_rowOf_34 {F : Nat} {r' : Int32}  (C : Cx g p s m args meth c cX2_rowOf 5 RX2) (hr : meth.sig.returnType = some .int) :
    (∀ (n : Nat) (σ : St) (x2 : Int32) (x3 : Int32) (x4 : Int32), f_X2_rowOf_34 F n σ x2 x3 x4 = some r' → ∀ (H : Heap) (locs : List Loc) (ls : Array Slot), Dy g (wD g σ ++ X) s H locs → lv_has ls 5 [(0, .ref (ga g 2)), (2, .int x2), (3, .int x3), (4, .int x4)] → W p l e (rmD 0) s m args below meth c H locs 0 0 (QI g below args s (wD g σ ++ X) r') (F0 m 34 ls [])) := by
  have hx := C.1
  have hb := C.2.1
  have hE := C.2.2.2.2.2.2.2.2
  intro n
  induction n with
  | zero =>
    intro σ x2 x3 x4 h
    cases h
  | succ n ih =>
    intro σ x2 x3 x4 h H locs ls hd hl
    rw [f_X2_rowOf_34] at h
    refine lv_iload hx hb dX2_rowOf_34 (lv_at hl 3 rfl) ?_
    refine lv_bipush (v := 8) hx hb dX2_rowOf_36 bi_8 ?_
    refine lv_icmp_ge (tgt := 68) hx hb dX2_rowOf_38 (by decide) (fun c1 => ?_) (fun c1 => ?_)
    · replace h := iteT c1 h
      exact w_X2_rowOf_68 C hr σ x2 x3 h _ _ _ hd (lv_sub hl [0, 1, 2] rfl)
    · replace h := iteF c1 h
      refine lv_iload_n hx hb dX2_rowOf_41 rfl (lv_at hl 2 rfl) ?_
      refine lv_if_le (tgt := 68) hx hb dX2_rowOf_42 (by decide) (fun c2 => ?_) (fun c2 => ?_)
      · replace h := iteT c2 h
        exact w_X2_rowOf_68 C hr σ x2 x3 h _ _ _ hd (lv_sub hl [0, 1, 2] rfl)
      · replace h := iteF c2 h
        refine lv_iload_n hx hb dX2_rowOf_45 rfl (lv_at hl 1 rfl) ?_
        refine lv_aload_n hx hb dX2_rowOf_46 rfl (lv_at hl 0 rfl) ?_
        refine gX2_25 C hd dX2_rowOf_47 ?_
        refine lv_iload_n hx hb dX2_rowOf_50 rfl (lv_at hl 2 rfl) ?_
        obtain ⟨n3, h⟩ := chk h
        refine ld_wD_12 C hd (inb_i n3) dX2_rowOf_51 ?_
        refine lv_icmp_gt (tgt := 68) hx hb dX2_rowOf_52 (by decide) (fun c4 => ?_) (fun c4 => ?_)
        · replace h := iteT c4 h
          exact w_X2_rowOf_68 C hr σ x2 x3 h _ _ _ hd (lv_sub hl [0, 1, 2] rfl)
        · replace h := iteF c4 h
          refine lv_aload_n hx hb dX2_rowOf_55 rfl (lv_at hl 0 rfl) ?_
          refine gX2_21 C hd dX2_rowOf_56 ?_
          refine lv_iload_n hx hb dX2_rowOf_59 rfl (lv_at hl 2 rfl) ?_
          obtain ⟨n5, h⟩ := chk h
          refine ld_wD_11 C hd (inb_i n5) dX2_rowOf_60 ?_
          obtain ⟨v6, ev6, h⟩ := bnd_e h
          refine rTop ev6 ?_
          refine lv_istore_n (lv' := [(3, .int v6), (0, .ref (ga g 2)), (2, .int x2), (4, .int x4)]) hx hb dX2_rowOf_61 rfl hl (Nat.le_of_ble_eq_true rfl) rfl (fun ls hl => ?_)
          obtain ⟨v7, ev7, h⟩ := bnd_e h
          refine lv_iinc (v := v7) (lv' := [(4, .int v7), (3, .int v6), (0, .ref (ga g 2)), (2, .int x2)]) hx hb dX2_rowOf_62 hl (k := 3) rfl ((ii_1 _).trans ev7.symm) (Nat.le_of_ble_eq_true rfl) rfl (fun ls hl => ?_)
          refine lv_goto (tgt := 34) hx hb dX2_rowOf_65 (by decide) ?_
          exact ih σ x2 v6 v7 h _ _ _ hd (lv_sub hl [2, 3, 1, 0] rfl)
noncomputable def f_X2_rowOf (F : Nat) (σ : St) (x1 : Int32) (x2 : Int32) : Option Int32 :=
  if x1 < 0 then (some (-1 : Int32)) else (if (σ.1 6) ≤ x1 then (some (-1 : Int32)) else (if x2 < 1 then (some (-1 : Int32)) else (if inb x1 8 = true then if x2 ≤ (σ.2.1 13 x1.toNatClampNeg) then (f_X2_rowOf_34 F F σ x2 x1 0) else (some (-1 : Int32)) else none)))
set_option maxRecDepth 100000 in
set_option maxHeartbeats 4000000 in
theorem c_X2_rowOf {l : Launch} {g : Gp} {X : va_W} (hE : E0 g) {F : Nat} {r' : Int32} {σ : St} {x1 : Int32} {x2 : Int32} (h : f_X2_rowOf F σ x1 x2 = some r') : Ci l g yX2_rowOf cX2_rowOf 5 (some .int) 0 [.ref (ga g 2), .int x1, .int x2] (wD g σ ++ X) r' (wD g σ ++ X) := by
  refine rHead hE (by decide +kernel) (Nat.le_of_ble_eq_true rfl) (fun p e s m below meth c C hr _ hd ls hl => ?_)
  have hx := C.1
  have hb := C.2.1
  have hl : lv_has ls 5 [(0, .ref (ga g 2)), (1, .int x1), (2, .int x2)] := hl
  generalize ([.ref (ga g 2), .int x1, .int x2] : List Value).toArray = args at C ⊢
  have C : Cx g p s m args meth c cX2_rowOf 5 RX2 := C
  rw [f_X2_rowOf] at h
  refine lv_iload_n hx hb dX2_rowOf_0 rfl (lv_at hl 1 rfl) ?_
  refine lv_if_lt (tgt := 27) hx hb dX2_rowOf_1 (by decide) (fun c1 => ?_) (fun c1 => ?_)
  · replace h := iteT c1 h
    refine lv_iconst (v := (-1 : Int32)) hx hb dX2_rowOf_27 ic_m1 ?_
    exact rIretP C hr hd h dX2_rowOf_28
  · replace h := iteF c1 h
    refine lv_iload_n hx hb dX2_rowOf_4 rfl (lv_at hl 1 rfl) ?_
    refine lv_aload_n hx hb dX2_rowOf_5 rfl (lv_at hl 0 rfl) ?_
    refine gX2_15 C hd dX2_rowOf_6 ?_
    refine lv_icmp_ge (tgt := 27) hx hb dX2_rowOf_9 (by decide) (fun c2 => ?_) (fun c2 => ?_)
    · replace h := iteT c2 h
      refine lv_iconst (v := (-1 : Int32)) hx hb dX2_rowOf_27 ic_m1 ?_
      exact rIretP C hr hd h dX2_rowOf_28
    · replace h := iteF c2 h
      refine lv_iload_n hx hb dX2_rowOf_12 rfl (lv_at hl 2 rfl) ?_
      refine lv_iconst (v := 1) hx hb dX2_rowOf_13 ic_1 ?_
      refine lv_icmp_lt (tgt := 27) hx hb dX2_rowOf_14 (by decide) (fun c3 => ?_) (fun c3 => ?_)
      · replace h := iteT c3 h
        refine lv_iconst (v := (-1 : Int32)) hx hb dX2_rowOf_27 ic_m1 ?_
        exact rIretP C hr hd h dX2_rowOf_28
      · replace h := iteF c3 h
        refine lv_iload_n hx hb dX2_rowOf_17 rfl (lv_at hl 2 rfl) ?_
        refine lv_aload_n hx hb dX2_rowOf_18 rfl (lv_at hl 0 rfl) ?_
        refine gX2_28 C hd dX2_rowOf_19 ?_
        refine lv_iload_n hx hb dX2_rowOf_22 rfl (lv_at hl 1 rfl) ?_
        obtain ⟨n4, h⟩ := chk h
        refine ld_wD_13 C hd (inb_i n4) dX2_rowOf_23 ?_
        refine lv_icmp_le (tgt := 29) hx hb dX2_rowOf_24 (by decide) (fun c5 => ?_) (fun c5 => ?_)
        · replace h := iteT c5 h
          refine lv_iload_n hx hb dX2_rowOf_29 rfl (lv_at hl 1 rfl) ?_
          refine lv_istore_n (lv' := [(3, .int x1), (0, .ref (ga g 2)), (1, .int x1), (2, .int x2)]) hx hb dX2_rowOf_30 rfl hl (Nat.le_of_ble_eq_true rfl) rfl (fun ls hl => ?_)
          refine lv_iconst (v := 0) hx hb dX2_rowOf_31 ic_0 ?_
          refine lv_istore (lv' := [(4, .int 0), (3, .int x1), (0, .ref (ga g 2)), (1, .int x1), (2, .int x2)]) hx hb dX2_rowOf_32 hl (Nat.le_of_ble_eq_true rfl) rfl (fun ls hl => ?_)
          exact w_X2_rowOf_34 C hr _ σ x2 x1 0 h _ _ _ hd (lv_sub hl [2, 4, 1, 0] rfl)
        · replace h := iteF c5 h
          refine lv_iconst (v := (-1 : Int32)) hx hb dX2_rowOf_27 ic_m1 ?_
          exact rIretP C hr hd h dX2_rowOf_28
noncomputable def f_X2_changedAt (F : Nat) (σ : St) (x1 : Int32) (x2 : Int32) : Option Int32 :=
  cal (f_X2_rowOf F σ x1 x2) (fun r1 => cal (f_X2_hasRow F σ r1) (fun r2 => if r2 = 0 then (some (-1 : Int32)) else (if inb r1 600 = true then if 1 < (σ.2.1 15 r1.toNatClampNeg) then (some (-1 : Int32)) else (if inb r1 600 = true then some (σ.2.1 16 r1.toNatClampNeg) else none) else none)))
set_option maxRecDepth 100000 in
set_option maxHeartbeats 4000000 in
theorem c_X2_changedAt {l : Launch} {g : Gp} {X : va_W} (hE : E0 g) {F : Nat} {r' : Int32} {σ : St} {x1 : Int32} {x2 : Int32} (h : f_X2_changedAt F σ x1 x2 = some r') : Ci l g yX2_changedAt cX2_changedAt 4 (some .int) 1 [.ref (ga g 2), .int x1, .int x2] (wD g σ ++ X) r' (wD g σ ++ X) := by
  refine rHead hE (by decide +kernel) (Nat.le_of_ble_eq_true rfl) (fun p e s m below meth c C hr _ hd ls hl => ?_)
  have hx := C.1
  have hb := C.2.1
  have hl : lv_has ls 4 [(0, .ref (ga g 2)), (1, .int x1), (2, .int x2)] := hl
  generalize ([.ref (ga g 2), .int x1, .int x2] : List Value).toArray = args at C ⊢
  have C : Cx g p s m args meth c cX2_changedAt 4 RX2 := C
  rw [f_X2_changedAt] at h
  refine lv_aload_n hx hb dX2_changedAt_0 rfl (lv_at hl 0 rfl) ?_
  refine lv_iload_n hx hb dX2_changedAt_1 rfl (lv_at hl 1 rfl) ?_
  refine lv_iload_n hx hb dX2_changedAt_2 rfl (lv_at hl 2 rfl) ?_
  obtain ⟨r1, er1, h⟩ := cal_e h
  refine rCallI C hd (c_X2_rowOf hE er1) kX2_82 2 rfl rfl rfl rfl hl.1 rfl (Nat.le_of_ble_eq_true rfl) ⟨(Nat.le_of_ble_eq_true rfl), (Nat.le_of_ble_eq_true rfl)⟩ ⟨Nat.le_refl _, Nat.le_refl _⟩ dX2_changedAt_3 (fun H locs hd => ?_)
  refine lv_istore_n (lv' := [(3, .int r1), (0, .ref (ga g 2)), (1, .int x1), (2, .int x2)]) hx hb dX2_changedAt_6 rfl hl (Nat.le_of_ble_eq_true rfl) rfl (fun ls hl => ?_)
  refine lv_aload_n hx hb dX2_changedAt_7 rfl (lv_at hl 1 rfl) ?_
  refine lv_iload_n hx hb dX2_changedAt_8 rfl (lv_at hl 0 rfl) ?_
  obtain ⟨r2, er2, h⟩ := cal_e h
  refine rCallI C hd (c_X2_hasRow hE er2) kX2_79 2 rfl rfl rfl rfl hl.1 rfl (Nat.le_of_ble_eq_true rfl) ⟨(Nat.le_of_ble_eq_true rfl), (Nat.le_of_ble_eq_true rfl)⟩ ⟨Nat.le_refl _, Nat.le_refl _⟩ dX2_changedAt_9 (fun H locs hd => ?_)
  refine lv_if_eq (tgt := 34) hx hb dX2_changedAt_12 (by decide) (fun c3 => ?_) (fun c3 => ?_)
  · replace h := iteT c3 h
    refine lv_iconst (v := (-1 : Int32)) hx hb dX2_changedAt_34 ic_m1 ?_
    exact rIretP C hr hd h dX2_changedAt_35
  · replace h := iteF c3 h
    refine lv_aload_n hx hb dX2_changedAt_15 rfl (lv_at hl 1 rfl) ?_
    refine gX2_34 C hd dX2_changedAt_16 ?_
    refine lv_iload_n hx hb dX2_changedAt_19 rfl (lv_at hl 0 rfl) ?_
    obtain ⟨n4, h⟩ := chk h
    refine ld_wD_15 C hd (inb_i n4) dX2_changedAt_20 ?_
    refine lv_iconst (v := 1) hx hb dX2_changedAt_21 ic_1 ?_
    refine lv_icmp_gt (tgt := 34) hx hb dX2_changedAt_22 (by decide) (fun c5 => ?_) (fun c5 => ?_)
    · replace h := iteT c5 h
      refine lv_iconst (v := (-1 : Int32)) hx hb dX2_changedAt_34 ic_m1 ?_
      exact rIretP C hr hd h dX2_changedAt_35
    · replace h := iteF c5 h
      refine lv_aload_n hx hb dX2_changedAt_25 rfl (lv_at hl 1 rfl) ?_
      refine gX2_38 C hd dX2_changedAt_26 ?_
      refine lv_iload_n hx hb dX2_changedAt_29 rfl (lv_at hl 0 rfl) ?_
      obtain ⟨n6, h⟩ := chk h
      refine ld_wD_16 C hd (inb_i n6) dX2_changedAt_30 ?_
      refine lv_goto (tgt := 35) hx hb dX2_changedAt_31 (by decide) ?_
      exact rIretP C hr hd h dX2_changedAt_35
noncomputable def f_X2_hasLine (F : Nat) (σ : St) (x1 : Int32) : Option Int32 :=
  if x1 < 0 then (some 0) else (if (σ.1 6) ≤ x1 then (some 0) else (some 1))
set_option maxRecDepth 100000 in
set_option maxHeartbeats 4000000 in
theorem c_X2_hasLine {l : Launch} {g : Gp} {X : va_W} (hE : E0 g) {F : Nat} {r' : Int32} {σ : St} {x1 : Int32} (h : f_X2_hasLine F σ x1 = some r') : Ci l g yX2_hasLine cX2_hasLine 2 (some .boolean) 0 [.ref (ga g 2), .int x1] (wD g σ ++ X) r' (wD g σ ++ X) := by
  refine rHead hE (by decide +kernel) (Nat.le_of_ble_eq_true rfl) (fun p e s m below meth c C hr _ hd ls hl => ?_)
  have hx := C.1
  have hb := C.2.1
  have hl : lv_has ls 2 [(0, .ref (ga g 2)), (1, .int x1)] := hl
  generalize ([.ref (ga g 2), .int x1] : List Value).toArray = args at C ⊢
  have C : Cx g p s m args meth c cX2_hasLine 2 RX2 := C
  rw [f_X2_hasLine] at h
  refine lv_iload_n hx hb dX2_hasLine_0 rfl (lv_at hl 1 rfl) ?_
  refine lv_if_lt (tgt := 16) hx hb dX2_hasLine_1 (by decide) (fun c1 => ?_) (fun c1 => ?_)
  · replace h := iteT c1 h
    refine lv_iconst (v := 0) hx hb dX2_hasLine_16 ic_0 ?_
    exact rZretP C hr hd h (by decide) dX2_hasLine_17
  · replace h := iteF c1 h
    refine lv_iload_n hx hb dX2_hasLine_4 rfl (lv_at hl 1 rfl) ?_
    refine lv_aload_n hx hb dX2_hasLine_5 rfl (lv_at hl 0 rfl) ?_
    refine gX2_15 C hd dX2_hasLine_6 ?_
    refine lv_icmp_ge (tgt := 16) hx hb dX2_hasLine_9 (by decide) (fun c2 => ?_) (fun c2 => ?_)
    · replace h := iteT c2 h
      refine lv_iconst (v := 0) hx hb dX2_hasLine_16 ic_0 ?_
      exact rZretP C hr hd h (by decide) dX2_hasLine_17
    · replace h := iteF c2 h
      refine lv_iconst (v := 1) hx hb dX2_hasLine_12 ic_1 ?_
      refine lv_goto (tgt := 17) hx hb dX2_hasLine_13 (by decide) ?_
      exact rZretP C hr hd h (by decide) dX2_hasLine_17
noncomputable def f_X2_tipOf (F : Nat) (σ : St) (x1 : Int32) : Option Int32 :=
  cal (f_X2_hasLine F σ x1) (fun r1 => if r1 = 0 then (some 0) else (if inb x1 8 = true then some (σ.2.1 13 x1.toNatClampNeg) else none))
set_option maxRecDepth 100000 in
set_option maxHeartbeats 4000000 in
theorem c_X2_tipOf {l : Launch} {g : Gp} {X : va_W} (hE : E0 g) {F : Nat} {r' : Int32} {σ : St} {x1 : Int32} (h : f_X2_tipOf F σ x1 = some r') : Ci l g yX2_tipOf cX2_tipOf 2 (some .int) 1 [.ref (ga g 2), .int x1] (wD g σ ++ X) r' (wD g σ ++ X) := by
  refine rHead hE (by decide +kernel) (Nat.le_of_ble_eq_true rfl) (fun p e s m below meth c C hr _ hd ls hl => ?_)
  have hx := C.1
  have hb := C.2.1
  have hl : lv_has ls 2 [(0, .ref (ga g 2)), (1, .int x1)] := hl
  generalize ([.ref (ga g 2), .int x1] : List Value).toArray = args at C ⊢
  have C : Cx g p s m args meth c cX2_tipOf 2 RX2 := C
  rw [f_X2_tipOf] at h
  refine lv_aload_n hx hb dX2_tipOf_0 rfl (lv_at hl 0 rfl) ?_
  refine lv_iload_n hx hb dX2_tipOf_1 rfl (lv_at hl 1 rfl) ?_
  obtain ⟨r1, er1, h⟩ := cal_e h
  refine rCallI C hd (c_X2_hasLine hE er1) kX2_57 2 rfl rfl rfl rfl hl.1 rfl (Nat.le_of_ble_eq_true rfl) ⟨(Nat.le_of_ble_eq_true rfl), (Nat.le_of_ble_eq_true rfl)⟩ ⟨Nat.le_refl _, Nat.le_refl _⟩ dX2_tipOf_2 (fun H locs hd => ?_)
  refine lv_if_eq (tgt := 17) hx hb dX2_tipOf_5 (by decide) (fun c2 => ?_) (fun c2 => ?_)
  · replace h := iteT c2 h
    refine lv_iconst (v := 0) hx hb dX2_tipOf_17 ic_0 ?_
    exact rIretP C hr hd h dX2_tipOf_18
  · replace h := iteF c2 h
    refine lv_aload_n hx hb dX2_tipOf_8 rfl (lv_at hl 0 rfl) ?_
    refine gX2_28 C hd dX2_tipOf_9 ?_
    refine lv_iload_n hx hb dX2_tipOf_12 rfl (lv_at hl 1 rfl) ?_
    obtain ⟨n3, h⟩ := chk h
    refine ld_wD_13 C hd (inb_i n3) dX2_tipOf_13 ?_
    refine lv_goto (tgt := 18) hx hb dX2_tipOf_14 (by decide) ?_
    exact rIretP C hr hd h dX2_tipOf_18
noncomputable def f_X2_changesOf_36 (F : Nat) (k_12 : St → Int32 → Int32 → Int32 → Int32 → Int32 → Option Int32) (σ : St) (x1 : Int32) (x2 : Int32) (x3 : Int32) (x5 : Int32) (y0 : Int32) (y1 : Int32) : Option Int32 :=
  bnd (y1 + y0) (fun v1 => bnd (x5 + 1) (fun v2 => k_12 σ x1 x2 x3 v1 v2))
set_option maxRecDepth 100000 in
set_option maxHeartbeats 4000000 in
theorem w_X2_changesOf_36 {F : Nat} {r' : Int32}  (C : Cx g p s m args meth c cX2_changesOf 6 RX2) (hr : meth.sig.returnType = some .int)
    {k_12 : St → Int32 → Int32 → Int32 → Int32 → Int32 → Option Int32} (hk_12 : (∀ (σ : St) (x1 : Int32) (x2 : Int32) (x3 : Int32) (x4 : Int32) (x5 : Int32), k_12 σ x1 x2 x3 x4 x5 = some r' → ∀ (H : Heap) (locs : List Loc) (ls : Array Slot), Dy g (wD g σ ++ X) s H locs → lv_has ls 6 [(0, .ref (ga g 2)), (1, .int x1), (2, .int x2), (3, .int x3), (4, .int x4), (5, .int x5)] → W p l e (rmD 2) s m args below meth c H locs 0 0 (QI g below args s (wD g σ ++ X) r') (F0 m 12 ls []))) :
    (∀ (σ : St) (x1 : Int32) (x2 : Int32) (x3 : Int32) (x5 : Int32) (y0 : Int32) (y1 : Int32), f_X2_changesOf_36 F k_12 σ x1 x2 x3 x5 y0 y1 = some r' → ∀ (H : Heap) (locs : List Loc) (ls : Array Slot), Dy g (wD g σ ++ X) s H locs → lv_has ls 6 [(0, .ref (ga g 2)), (1, .int x1), (2, .int x2), (3, .int x3), (5, .int x5)] → W p l e (rmD 2) s m args below meth c H locs 0 0 (QI g below args s (wD g σ ++ X) r') (F0 m 36 ls [.int y0, .int y1])) := by
  have hx := C.1
  have hb := C.2.1
  have hE := C.2.2.2.2.2.2.2.2
  intro σ x1 x2 x3 x5 y0 y1 h H locs ls hd hl
  rw [f_X2_changesOf_36] at h
  refine lv_iadd hx hb dX2_changesOf_36 ?_
  obtain ⟨v1, ev1, h⟩ := bnd_e h
  refine rTop ev1 ?_
  refine lv_istore (lv' := [(4, .int v1), (0, .ref (ga g 2)), (1, .int x1), (2, .int x2), (3, .int x3), (5, .int x5)]) hx hb dX2_changesOf_37 hl (Nat.le_of_ble_eq_true rfl) rfl (fun ls hl => ?_)
  obtain ⟨v2, ev2, h⟩ := bnd_e h
  refine lv_iinc (v := v2) (lv' := [(5, .int v2), (4, .int v1), (0, .ref (ga g 2)), (1, .int x1), (2, .int x2), (3, .int x3)]) hx hb dX2_changesOf_39 hl (k := 5) rfl ((ii_1 _).trans ev2.symm) (Nat.le_of_ble_eq_true rfl) rfl (fun ls hl => ?_)
  refine lv_goto (tgt := 12) hx hb dX2_changesOf_42 (by decide) ?_
  exact hk_12 σ x1 x2 x3 v1 v2 h _ _ _ hd (lv_sub hl [2, 3, 4, 5, 1, 0] rfl)
noncomputable def f_X2_changesOf_12 (F : Nat) : Nat → St → Int32 → Int32 → Int32 → Int32 → Int32 → Option Int32
  | 0, _, _, _, _, _, _ => none
  | n + 1, σ, x1, x2, x3, x4, x5 => if x3 < x5 then (some x4) else (cal (f_X2_changedAt F σ x2 x5) (fun r2 => if r2 = x1 then (f_X2_changesOf_36 F (f_X2_changesOf_12 F n) σ x1 x2 x3 x5 1 x4) else (f_X2_changesOf_36 F (f_X2_changesOf_12 F n) σ x1 x2 x3 x5 0 x4)))
set_option maxRecDepth 100000 in
set_option maxHeartbeats 4000000 in
theorem w_X2_changesOf_12 {F : Nat} {r' : Int32}  (C : Cx g p s m args meth c cX2_changesOf 6 RX2) (hr : meth.sig.returnType = some .int) :
    (∀ (n : Nat) (σ : St) (x1 : Int32) (x2 : Int32) (x3 : Int32) (x4 : Int32) (x5 : Int32), f_X2_changesOf_12 F n σ x1 x2 x3 x4 x5 = some r' → ∀ (H : Heap) (locs : List Loc) (ls : Array Slot), Dy g (wD g σ ++ X) s H locs → lv_has ls 6 [(0, .ref (ga g 2)), (1, .int x1), (2, .int x2), (3, .int x3), (4, .int x4), (5, .int x5)] → W p l e (rmD 2) s m args below meth c H locs 0 0 (QI g below args s (wD g σ ++ X) r') (F0 m 12 ls [])) := by
  have hx := C.1
  have hb := C.2.1
  have hE := C.2.2.2.2.2.2.2.2
  intro n
  induction n with
  | zero =>
    intro σ x1 x2 x3 x4 x5 h
    cases h
  | succ n ih =>
    intro σ x1 x2 x3 x4 x5 h H locs ls hd hl
    rw [f_X2_changesOf_12] at h
    refine lv_iload hx hb dX2_changesOf_12 (lv_at hl 5 rfl) ?_
    refine lv_iload_n hx hb dX2_changesOf_14 rfl (lv_at hl 3 rfl) ?_
    refine lv_icmp_gt (tgt := 45) hx hb dX2_changesOf_15 (by decide) (fun c1 => ?_) (fun c1 => ?_)
    · replace h := iteT c1 h
      refine lv_iload hx hb dX2_changesOf_45 (lv_at hl 4 rfl) ?_
      exact rIretP C hr hd h dX2_changesOf_47
    · replace h := iteF c1 h
      refine lv_iload hx hb dX2_changesOf_18 (lv_at hl 4 rfl) ?_
      refine lv_aload_n hx hb dX2_changesOf_20 rfl (lv_at hl 0 rfl) ?_
      refine lv_iload_n hx hb dX2_changesOf_21 rfl (lv_at hl 2 rfl) ?_
      refine lv_iload hx hb dX2_changesOf_22 (lv_at hl 5 rfl) ?_
      obtain ⟨r2, er2, h⟩ := cal_e h
      refine rCallI C hd (c_X2_changedAt hE er2) kX2_94 2 rfl rfl rfl rfl hl.1 rfl (Nat.le_of_ble_eq_true rfl) ⟨(Nat.le_of_ble_eq_true rfl), (Nat.le_of_ble_eq_true rfl)⟩ ⟨Nat.le_refl _, Nat.le_refl _⟩ dX2_changesOf_24 (fun H locs hd => ?_)
      refine lv_iload_n hx hb dX2_changesOf_27 rfl (lv_at hl 1 rfl) ?_
      refine lv_icmp_ne (tgt := 35) hx hb dX2_changesOf_28 (by decide) (fun c3 => ?_) (fun c3 => ?_)
      · replace h := iteF c3 h
        refine lv_iconst (v := 0) hx hb dX2_changesOf_35 ic_0 ?_
        exact w_X2_changesOf_36 C hr ih σ x1 x2 x3 x5 0 x4 h _ _ _ hd (lv_sub hl [0, 1, 2, 3, 5] rfl)
      · replace h := iteT c3 h
        refine lv_iconst (v := 1) hx hb dX2_changesOf_31 ic_1 ?_
        refine lv_goto (tgt := 36) hx hb dX2_changesOf_32 (by decide) ?_
        exact w_X2_changesOf_36 C hr ih σ x1 x2 x3 x5 1 x4 h _ _ _ hd (lv_sub hl [0, 1, 2, 3, 5] rfl)
noncomputable def f_X2_changesOf (F : Nat) (σ : St) (x1 : Int32) (x2 : Int32) : Option Int32 :=
  cal (f_X2_tipOf F σ x2) (fun r1 => f_X2_changesOf_12 F F σ x1 x2 r1 0 1)
set_option maxRecDepth 100000 in
set_option maxHeartbeats 4000000 in
theorem c_X2_changesOf {l : Launch} {g : Gp} {X : va_W} (hE : E0 g) {F : Nat} {r' : Int32} {σ : St} {x1 : Int32} {x2 : Int32} (h : f_X2_changesOf F σ x1 x2 = some r') : Ci l g yX2_changesOf cX2_changesOf 6 (some .int) 2 [.ref (ga g 2), .int x1, .int x2] (wD g σ ++ X) r' (wD g σ ++ X) := by
  refine rHead hE (by decide +kernel) (Nat.le_of_ble_eq_true rfl) (fun p e s m below meth c C hr _ hd ls hl => ?_)
  have hx := C.1
  have hb := C.2.1
  have hl : lv_has ls 6 [(0, .ref (ga g 2)), (1, .int x1), (2, .int x2)] := hl
  generalize ([.ref (ga g 2), .int x1, .int x2] : List Value).toArray = args at C ⊢
  have C : Cx g p s m args meth c cX2_changesOf 6 RX2 := C
  rw [f_X2_changesOf] at h
  refine lv_aload_n hx hb dX2_changesOf_0 rfl (lv_at hl 0 rfl) ?_
  refine lv_iload_n hx hb dX2_changesOf_1 rfl (lv_at hl 2 rfl) ?_
  obtain ⟨r1, er1, h⟩ := cal_e h
  refine rCallI C hd (c_X2_tipOf hE er1) kX2_86 2 rfl rfl rfl rfl hl.1 rfl (Nat.le_of_ble_eq_true rfl) ⟨(Nat.le_of_ble_eq_true rfl), (Nat.le_of_ble_eq_true rfl)⟩ ⟨Nat.le_refl _, Nat.le_refl _⟩ dX2_changesOf_2 (fun H locs hd => ?_)
  refine lv_istore_n (lv' := [(3, .int r1), (0, .ref (ga g 2)), (1, .int x1), (2, .int x2)]) hx hb dX2_changesOf_5 rfl hl (Nat.le_of_ble_eq_true rfl) rfl (fun ls hl => ?_)
  refine lv_iconst (v := 0) hx hb dX2_changesOf_6 ic_0 ?_
  refine lv_istore (lv' := [(4, .int 0), (3, .int r1), (0, .ref (ga g 2)), (1, .int x1), (2, .int x2)]) hx hb dX2_changesOf_7 hl (Nat.le_of_ble_eq_true rfl) rfl (fun ls hl => ?_)
  refine lv_iconst (v := 1) hx hb dX2_changesOf_9 ic_1 ?_
  refine lv_istore (lv' := [(5, .int 1), (4, .int 0), (3, .int r1), (0, .ref (ga g 2)), (1, .int x1), (2, .int x2)]) hx hb dX2_changesOf_10 hl (Nat.le_of_ble_eq_true rfl) rfl (fun ls hl => ?_)
  exact w_X2_changesOf_12 C hr _ σ x1 x2 r1 0 1 h _ _ _ hd (lv_sub hl [3, 4, 5, 2, 1, 0] rfl)
noncomputable def f_X2_now (F : Nat) (σ : St) : Option Int32 :=
  if (σ.1 6) ≤ 0 then (some 0) else (if inb ((σ.1 6) - 1) 8 = true then some (σ.2.1 13 ((σ.1 6) - 1).toNatClampNeg) else none)
set_option maxRecDepth 100000 in
set_option maxHeartbeats 4000000 in
theorem c_X2_now {l : Launch} {g : Gp} {X : va_W} (hE : E0 g) {F : Nat} {r' : Int32} {σ : St} (h : f_X2_now F σ = some r') : Ci l g yX2_now cX2_now 1 (some .int) 0 [.ref (ga g 2)] (wD g σ ++ X) r' (wD g σ ++ X) := by
  refine rHead hE (by decide +kernel) (Nat.le_of_ble_eq_true rfl) (fun p e s m below meth c C hr _ hd ls hl => ?_)
  have hx := C.1
  have hb := C.2.1
  have hl : lv_has ls 1 [(0, .ref (ga g 2))] := hl
  generalize ([.ref (ga g 2)] : List Value).toArray = args at C ⊢
  have C : Cx g p s m args meth c cX2_now 1 RX2 := C
  rw [f_X2_now] at h
  refine lv_aload_n hx hb dX2_now_0 rfl (lv_at hl 0 rfl) ?_
  refine gX2_15 C hd dX2_now_1 ?_
  refine lv_if_le (tgt := 21) hx hb dX2_now_4 (by decide) (fun c1 => ?_) (fun c1 => ?_)
  · replace h := iteT c1 h
    refine lv_iconst (v := 0) hx hb dX2_now_21 ic_0 ?_
    exact rIretP C hr hd h dX2_now_22
  · replace h := iteF c1 h
    refine lv_aload_n hx hb dX2_now_7 rfl (lv_at hl 0 rfl) ?_
    refine gX2_28 C hd dX2_now_8 ?_
    refine lv_aload_n hx hb dX2_now_11 rfl (lv_at hl 0 rfl) ?_
    refine gX2_15 C hd dX2_now_12 ?_
    refine lv_iconst (v := 1) hx hb dX2_now_15 ic_1 ?_
    refine lv_isub hx hb dX2_now_16 ?_
    obtain ⟨n2, h⟩ := chk h
    refine ld_wD_13 C hd (inb_i n2) dX2_now_17 ?_
    refine lv_goto (tgt := 22) hx hb dX2_now_18 (by decide) ?_
    exact rIretP C hr hd h dX2_now_22
noncomputable def f_X2_hasRoomFor (F : Nat) (σ : St) (x1 : Int32) : Option Int32 :=
  if 600 < ((σ.1 7) + x1) then (some 0) else (cal (f_X2_now F σ) (fun r2 => if 240 < (r2 + x1) then (some 0) else (some 1)))
set_option maxRecDepth 100000 in
set_option maxHeartbeats 4000000 in
theorem c_X2_hasRoomFor {l : Launch} {g : Gp} {X : va_W} (hE : E0 g) {F : Nat} {r' : Int32} {σ : St} {x1 : Int32} (h : f_X2_hasRoomFor F σ x1 = some r') : Ci l g yX2_hasRoomFor cX2_hasRoomFor 2 (some .boolean) 1 [.ref (ga g 2), .int x1] (wD g σ ++ X) r' (wD g σ ++ X) := by
  refine rHead hE (by decide +kernel) (Nat.le_of_ble_eq_true rfl) (fun p e s m below meth c C hr _ hd ls hl => ?_)
  have hx := C.1
  have hb := C.2.1
  have hl : lv_has ls 2 [(0, .ref (ga g 2)), (1, .int x1)] := hl
  generalize ([.ref (ga g 2), .int x1] : List Value).toArray = args at C ⊢
  have C : Cx g p s m args meth c cX2_hasRoomFor 2 RX2 := C
  rw [f_X2_hasRoomFor] at h
  refine lv_aload_n hx hb dX2_hasRoomFor_0 rfl (lv_at hl 0 rfl) ?_
  refine gX2_18 C hd dX2_hasRoomFor_1 ?_
  refine lv_iload_n hx hb dX2_hasRoomFor_4 rfl (lv_at hl 1 rfl) ?_
  refine lv_iadd hx hb dX2_hasRoomFor_5 ?_
  refine lv_sipush (v := 600) hx hb dX2_hasRoomFor_6 si_600 ?_
  refine lv_icmp_gt (tgt := 28) hx hb dX2_hasRoomFor_9 (by decide) (fun c1 => ?_) (fun c1 => ?_)
  · replace h := iteT c1 h
    refine lv_iconst (v := 0) hx hb dX2_hasRoomFor_28 ic_0 ?_
    exact rZretP C hr hd h (by decide) dX2_hasRoomFor_29
  · replace h := iteF c1 h
    refine lv_aload_n hx hb dX2_hasRoomFor_12 rfl (lv_at hl 0 rfl) ?_
    obtain ⟨r2, er2, h⟩ := cal_e h
    refine rCallI C hd (c_X2_now hE er2) kX2_76 2 rfl rfl rfl rfl hl.1 rfl (Nat.le_of_ble_eq_true rfl) ⟨(Nat.le_of_ble_eq_true rfl), (Nat.le_of_ble_eq_true rfl)⟩ ⟨Nat.le_refl _, Nat.le_refl _⟩ dX2_hasRoomFor_13 (fun H locs hd => ?_)
    refine lv_iload_n hx hb dX2_hasRoomFor_16 rfl (lv_at hl 1 rfl) ?_
    refine lv_iadd hx hb dX2_hasRoomFor_17 ?_
    refine lv_sipush (v := 240) hx hb dX2_hasRoomFor_18 si_240 ?_
    refine lv_icmp_gt (tgt := 28) hx hb dX2_hasRoomFor_21 (by decide) (fun c3 => ?_) (fun c3 => ?_)
    · replace h := iteT c3 h
      refine lv_iconst (v := 0) hx hb dX2_hasRoomFor_28 ic_0 ?_
      exact rZretP C hr hd h (by decide) dX2_hasRoomFor_29
    · replace h := iteF c3 h
      refine lv_iconst (v := 1) hx hb dX2_hasRoomFor_24 ic_1 ?_
      refine lv_goto (tgt := 29) hx hb dX2_hasRoomFor_25 (by decide) ?_
      exact rZretP C hr hd h (by decide) dX2_hasRoomFor_29
noncomputable def f_X2_missingToFull_21 (F : Nat) (σ : St) (y0 : Int32) : Option Int32 :=
  if y0 = 0 then (some 0) else (some ((σ.1 5) - y0))
set_option maxRecDepth 100000 in
set_option maxHeartbeats 4000000 in
theorem w_X2_missingToFull_21 {F : Nat} {r' : Int32}  (C : Cx g p s m args meth c cX2_missingToFull 2 RX2) (hr : meth.sig.returnType = some .int) :
    (∀ (σ : St) (y0 : Int32), f_X2_missingToFull_21 F σ y0 = some r' → ∀ (H : Heap) (locs : List Loc) (ls : Array Slot), Dy g (wD g σ ++ X) s H locs → lv_has ls 2 [(0, .ref (ga g 2))] → W p l e (rmD 1) s m args below meth c H locs 0 0 (QI g below args s (wD g σ ++ X) r') (F0 m 21 ls [.int y0])) := by
  have hx := C.1
  have hb := C.2.1
  have hE := C.2.2.2.2.2.2.2.2
  intro σ y0 h H locs ls hd hl
  rw [f_X2_missingToFull_21] at h
  refine lv_istore_n (lv' := [(1, .int y0), (0, .ref (ga g 2))]) hx hb dX2_missingToFull_21 rfl hl (Nat.le_of_ble_eq_true rfl) rfl (fun ls hl => ?_)
  refine lv_iload_n hx hb dX2_missingToFull_22 rfl (lv_at hl 0 rfl) ?_
  refine lv_if_ne (tgt := 30) hx hb dX2_missingToFull_23 (by decide) (fun c1 => ?_) (fun c1 => ?_)
  · replace h := iteF c1 h
    refine lv_aload_n hx hb dX2_missingToFull_30 rfl (lv_at hl 1 rfl) ?_
    refine gX2_9 C hd dX2_missingToFull_31 ?_
    refine lv_iload_n hx hb dX2_missingToFull_34 rfl (lv_at hl 0 rfl) ?_
    refine lv_isub hx hb dX2_missingToFull_35 ?_
    exact rIretP C hr hd h dX2_missingToFull_36
  · replace h := iteT c1 h
    refine lv_iconst (v := 0) hx hb dX2_missingToFull_26 ic_0 ?_
    refine lv_goto (tgt := 36) hx hb dX2_missingToFull_27 (by decide) ?_
    exact rIretP C hr hd h dX2_missingToFull_36
noncomputable def f_X2_missingToFull (F : Nat) (σ : St) : Option Int32 :=
  if 1 ≤ (σ.1 5) then (cal (f_X2_now F σ) (fun r2 => if ¬ (σ.1 5) = 0 then f_X2_missingToFull_21 F σ (r2 - r2 / (σ.1 5) * (σ.1 5)) else none)) else (f_X2_missingToFull_21 F σ 0)
set_option maxRecDepth 100000 in
set_option maxHeartbeats 4000000 in
theorem c_X2_missingToFull {l : Launch} {g : Gp} {X : va_W} (hE : E0 g) {F : Nat} {r' : Int32} {σ : St} (h : f_X2_missingToFull F σ = some r') : Ci l g yX2_missingToFull cX2_missingToFull 2 (some .int) 1 [.ref (ga g 2)] (wD g σ ++ X) r' (wD g σ ++ X) := by
  refine rHead hE (by decide +kernel) (Nat.le_of_ble_eq_true rfl) (fun p e s m below meth c C hr _ hd ls hl => ?_)
  have hx := C.1
  have hb := C.2.1
  have hl : lv_has ls 2 [(0, .ref (ga g 2))] := hl
  generalize ([.ref (ga g 2)] : List Value).toArray = args at C ⊢
  have C : Cx g p s m args meth c cX2_missingToFull 2 RX2 := C
  rw [f_X2_missingToFull] at h
  refine lv_aload_n hx hb dX2_missingToFull_0 rfl (lv_at hl 0 rfl) ?_
  refine gX2_9 C hd dX2_missingToFull_1 ?_
  refine lv_iconst (v := 1) hx hb dX2_missingToFull_4 ic_1 ?_
  refine lv_icmp_ge (tgt := 12) hx hb dX2_missingToFull_5 (by decide) (fun c1 => ?_) (fun c1 => ?_)
  · replace h := iteT c1 h
    refine lv_aload_n hx hb dX2_missingToFull_12 rfl (lv_at hl 0 rfl) ?_
    obtain ⟨r2, er2, h⟩ := cal_e h
    refine rCallI C hd (c_X2_now hE er2) kX2_76 2 rfl rfl rfl rfl hl.1 rfl (Nat.le_of_ble_eq_true rfl) ⟨(Nat.le_of_ble_eq_true rfl), (Nat.le_of_ble_eq_true rfl)⟩ ⟨Nat.le_refl _, Nat.le_refl _⟩ dX2_missingToFull_13 (fun H locs hd => ?_)
    refine lv_aload_n hx hb dX2_missingToFull_16 rfl (lv_at hl 0 rfl) ?_
    refine gX2_9 C hd dX2_missingToFull_17 ?_
    obtain ⟨n3, h⟩ := chk h
    refine lv_irem hx hb dX2_missingToFull_20 n3 ?_
    exact w_X2_missingToFull_21 C hr σ (r2 - r2 / (σ.1 5) * (σ.1 5)) h _ _ _ hd (lv_sub hl [0] rfl)
  · replace h := iteF c1 h
    refine lv_iconst (v := 0) hx hb dX2_missingToFull_8 ic_0 ?_
    refine lv_goto (tgt := 21) hx hb dX2_missingToFull_9 (by decide) ?_
    exact w_X2_missingToFull_21 C hr σ 0 h _ _ _ hd (lv_sub hl [0] rfl)
noncomputable def f_X2_pieceHolding (F : Nat) (σ : St) (x1 : Int32) : Option Int32 :=
  if x1 < 1 then (some (-1 : Int32)) else (if 1 ≤ (σ.1 5) then (if ¬ (σ.1 5) = 0 then some ((x1 - 1) / (σ.1 5)) else none) else (some (-1 : Int32)))
set_option maxRecDepth 100000 in
set_option maxHeartbeats 4000000 in
theorem c_X2_pieceHolding {l : Launch} {g : Gp} {X : va_W} (hE : E0 g) {F : Nat} {r' : Int32} {σ : St} {x1 : Int32} (h : f_X2_pieceHolding F σ x1 = some r') : Ci l g yX2_pieceHolding cX2_pieceHolding 2 (some .int) 0 [.ref (ga g 2), .int x1] (wD g σ ++ X) r' (wD g σ ++ X) := by
  refine rHead hE (by decide +kernel) (Nat.le_of_ble_eq_true rfl) (fun p e s m below meth c C hr _ hd ls hl => ?_)
  have hx := C.1
  have hb := C.2.1
  have hl : lv_has ls 2 [(0, .ref (ga g 2)), (1, .int x1)] := hl
  generalize ([.ref (ga g 2), .int x1] : List Value).toArray = args at C ⊢
  have C : Cx g p s m args meth c cX2_pieceHolding 2 RX2 := C
  rw [f_X2_pieceHolding] at h
  refine lv_iload_n hx hb dX2_pieceHolding_0 rfl (lv_at hl 1 rfl) ?_
  refine lv_iconst (v := 1) hx hb dX2_pieceHolding_1 ic_1 ?_
  refine lv_icmp_lt (tgt := 13) hx hb dX2_pieceHolding_2 (by decide) (fun c1 => ?_) (fun c1 => ?_)
  · replace h := iteT c1 h
    refine lv_iconst (v := (-1 : Int32)) hx hb dX2_pieceHolding_13 ic_m1 ?_
    refine lv_goto (tgt := 25) hx hb dX2_pieceHolding_14 (by decide) ?_
    exact rIretP C hr hd h dX2_pieceHolding_25
  · replace h := iteF c1 h
    refine lv_aload_n hx hb dX2_pieceHolding_5 rfl (lv_at hl 0 rfl) ?_
    refine gX2_9 C hd dX2_pieceHolding_6 ?_
    refine lv_iconst (v := 1) hx hb dX2_pieceHolding_9 ic_1 ?_
    refine lv_icmp_ge (tgt := 17) hx hb dX2_pieceHolding_10 (by decide) (fun c2 => ?_) (fun c2 => ?_)
    · replace h := iteT c2 h
      refine lv_iload_n hx hb dX2_pieceHolding_17 rfl (lv_at hl 1 rfl) ?_
      refine lv_iconst (v := 1) hx hb dX2_pieceHolding_18 ic_1 ?_
      refine lv_isub hx hb dX2_pieceHolding_19 ?_
      refine lv_aload_n hx hb dX2_pieceHolding_20 rfl (lv_at hl 0 rfl) ?_
      refine gX2_9 C hd dX2_pieceHolding_21 ?_
      obtain ⟨n3, h⟩ := chk h
      refine lv_idiv hx hb dX2_pieceHolding_24 n3 ?_
      exact rIretP C hr hd h dX2_pieceHolding_25
    · replace h := iteF c2 h
      refine lv_iconst (v := (-1 : Int32)) hx hb dX2_pieceHolding_13 ic_m1 ?_
      refine lv_goto (tgt := 25) hx hb dX2_pieceHolding_14 (by decide) ?_
      exact rIretP C hr hd h dX2_pieceHolding_25
noncomputable def f_X2_hasPiece (F : Nat) (σ : St) (x1 : Int32) (x2 : Int32) : Option Int32 :=
  if x1 < 0 then (some 0) else (if (σ.1 6) ≤ x1 then (some 0) else (if x2 < 0 then (some 0) else (if 120 ≤ x2 then (some 0) else (if inb x1 8 = true then if ((x2 + 1) * (σ.1 5)) ≤ (σ.2.1 12 x1.toNatClampNeg) then (some 0) else (if inb x1 8 = true then if (σ.2.1 13 x1.toNatClampNeg) ≤ (x2 * (σ.1 5)) then (some 0) else (some 1) else none) else none))))
set_option maxRecDepth 100000 in
set_option maxHeartbeats 4000000 in
theorem c_X2_hasPiece {l : Launch} {g : Gp} {X : va_W} (hE : E0 g) {F : Nat} {r' : Int32} {σ : St} {x1 : Int32} {x2 : Int32} (h : f_X2_hasPiece F σ x1 x2 = some r') : Ci l g yX2_hasPiece cX2_hasPiece 3 (some .boolean) 0 [.ref (ga g 2), .int x1, .int x2] (wD g σ ++ X) r' (wD g σ ++ X) := by
  refine rHead hE (by decide +kernel) (Nat.le_of_ble_eq_true rfl) (fun p e s m below meth c C hr _ hd ls hl => ?_)
  have hx := C.1
  have hb := C.2.1
  have hl : lv_has ls 3 [(0, .ref (ga g 2)), (1, .int x1), (2, .int x2)] := hl
  generalize ([.ref (ga g 2), .int x1, .int x2] : List Value).toArray = args at C ⊢
  have C : Cx g p s m args meth c cX2_hasPiece 3 RX2 := C
  rw [f_X2_hasPiece] at h
  refine lv_iload_n hx hb dX2_hasPiece_0 rfl (lv_at hl 1 rfl) ?_
  refine lv_if_lt (tgt := 58) hx hb dX2_hasPiece_1 (by decide) (fun c1 => ?_) (fun c1 => ?_)
  · replace h := iteT c1 h
    refine lv_iconst (v := 0) hx hb dX2_hasPiece_58 ic_0 ?_
    exact rZretP C hr hd h (by decide) dX2_hasPiece_59
  · replace h := iteF c1 h
    refine lv_iload_n hx hb dX2_hasPiece_4 rfl (lv_at hl 1 rfl) ?_
    refine lv_aload_n hx hb dX2_hasPiece_5 rfl (lv_at hl 0 rfl) ?_
    refine gX2_15 C hd dX2_hasPiece_6 ?_
    refine lv_icmp_ge (tgt := 58) hx hb dX2_hasPiece_9 (by decide) (fun c2 => ?_) (fun c2 => ?_)
    · replace h := iteT c2 h
      refine lv_iconst (v := 0) hx hb dX2_hasPiece_58 ic_0 ?_
      exact rZretP C hr hd h (by decide) dX2_hasPiece_59
    · replace h := iteF c2 h
      refine lv_iload_n hx hb dX2_hasPiece_12 rfl (lv_at hl 2 rfl) ?_
      refine lv_if_lt (tgt := 58) hx hb dX2_hasPiece_13 (by decide) (fun c3 => ?_) (fun c3 => ?_)
      · replace h := iteT c3 h
        refine lv_iconst (v := 0) hx hb dX2_hasPiece_58 ic_0 ?_
        exact rZretP C hr hd h (by decide) dX2_hasPiece_59
      · replace h := iteF c3 h
        refine lv_iload_n hx hb dX2_hasPiece_16 rfl (lv_at hl 2 rfl) ?_
        refine lv_bipush (v := 120) hx hb dX2_hasPiece_17 bi_120 ?_
        refine lv_icmp_ge (tgt := 58) hx hb dX2_hasPiece_19 (by decide) (fun c4 => ?_) (fun c4 => ?_)
        · replace h := iteT c4 h
          refine lv_iconst (v := 0) hx hb dX2_hasPiece_58 ic_0 ?_
          exact rZretP C hr hd h (by decide) dX2_hasPiece_59
        · replace h := iteF c4 h
          refine lv_iload_n hx hb dX2_hasPiece_22 rfl (lv_at hl 2 rfl) ?_
          refine lv_iconst (v := 1) hx hb dX2_hasPiece_23 ic_1 ?_
          refine lv_iadd hx hb dX2_hasPiece_24 ?_
          refine lv_aload_n hx hb dX2_hasPiece_25 rfl (lv_at hl 0 rfl) ?_
          refine gX2_9 C hd dX2_hasPiece_26 ?_
          refine lv_imul hx hb dX2_hasPiece_29 ?_
          refine lv_aload_n hx hb dX2_hasPiece_30 rfl (lv_at hl 0 rfl) ?_
          refine gX2_25 C hd dX2_hasPiece_31 ?_
          refine lv_iload_n hx hb dX2_hasPiece_34 rfl (lv_at hl 1 rfl) ?_
          obtain ⟨n5, h⟩ := chk h
          refine ld_wD_12 C hd (inb_i n5) dX2_hasPiece_35 ?_
          refine lv_icmp_le (tgt := 58) hx hb dX2_hasPiece_36 (by decide) (fun c6 => ?_) (fun c6 => ?_)
          · replace h := iteT c6 h
            refine lv_iconst (v := 0) hx hb dX2_hasPiece_58 ic_0 ?_
            exact rZretP C hr hd h (by decide) dX2_hasPiece_59
          · replace h := iteF c6 h
            refine lv_iload_n hx hb dX2_hasPiece_39 rfl (lv_at hl 2 rfl) ?_
            refine lv_aload_n hx hb dX2_hasPiece_40 rfl (lv_at hl 0 rfl) ?_
            refine gX2_9 C hd dX2_hasPiece_41 ?_
            refine lv_imul hx hb dX2_hasPiece_44 ?_
            refine lv_aload_n hx hb dX2_hasPiece_45 rfl (lv_at hl 0 rfl) ?_
            refine gX2_28 C hd dX2_hasPiece_46 ?_
            refine lv_iload_n hx hb dX2_hasPiece_49 rfl (lv_at hl 1 rfl) ?_
            obtain ⟨n7, h⟩ := chk h
            refine ld_wD_13 C hd (inb_i n7) dX2_hasPiece_50 ?_
            refine lv_icmp_ge (tgt := 58) hx hb dX2_hasPiece_51 (by decide) (fun c8 => ?_) (fun c8 => ?_)
            · replace h := iteT c8 h
              refine lv_iconst (v := 0) hx hb dX2_hasPiece_58 ic_0 ?_
              exact rZretP C hr hd h (by decide) dX2_hasPiece_59
            · replace h := iteF c8 h
              refine lv_iconst (v := 1) hx hb dX2_hasPiece_54 ic_1 ?_
              refine lv_goto (tgt := 59) hx hb dX2_hasPiece_55 (by decide) ?_
              exact rZretP C hr hd h (by decide) dX2_hasPiece_59
noncomputable def f_X2_setCondition (F : Nat) (σ : St) (x1 : Int32) (x2 : Int32) (x3 : Int32) : Option St :=
  cal (f_X2_hasPiece F σ x1 x2) (fun r1 => if r1 = 0 then (some σ) else (if inb ((x1 * 120) + x2) 960 = true then bnd (sr σ 18 ((x1 * 120) + x2).toNatClampNeg (vp_nar .byte (Int8.toInt32 (Int32.toInt8 x3)))) (fun t4 => some t4) else none))
set_option maxRecDepth 100000 in
set_option maxHeartbeats 4000000 in
theorem c_X2_setCondition {l : Launch} {g : Gp} {X : va_W} (hE : E0 g) {F : Nat} {σ' : St} {σ : St} {x1 : Int32} {x2 : Int32} {x3 : Int32} (h : f_X2_setCondition F σ x1 x2 x3 = some σ') : Cv l g yX2_setCondition cX2_setCondition 4 1 [.ref (ga g 2), .int x1, .int x2, .int x3] (wD g σ ++ X) (wD g σ' ++ X) := by
  refine rHead hE (by decide +kernel) (Nat.le_of_ble_eq_true rfl) (fun p e s m below meth c C hr _ hd ls hl => ?_)
  have hx := C.1
  have hb := C.2.1
  have hl : lv_has ls 4 [(0, .ref (ga g 2)), (1, .int x1), (2, .int x2), (3, .int x3)] := hl
  generalize ([.ref (ga g 2), .int x1, .int x2, .int x3] : List Value).toArray = args at C ⊢
  have C : Cx g p s m args meth c cX2_setCondition 4 RX2 := C
  rw [f_X2_setCondition] at h
  refine lv_aload_n hx hb dX2_setCondition_0 rfl (lv_at hl 0 rfl) ?_
  refine lv_iload_n hx hb dX2_setCondition_1 rfl (lv_at hl 1 rfl) ?_
  refine lv_iload_n hx hb dX2_setCondition_2 rfl (lv_at hl 2 rfl) ?_
  obtain ⟨r1, er1, h⟩ := cal_e h
  refine rCallI C hd (c_X2_hasPiece hE er1) kX2_100 2 rfl rfl rfl rfl hl.1 rfl (Nat.le_of_ble_eq_true rfl) ⟨(Nat.le_of_ble_eq_true rfl), (Nat.le_of_ble_eq_true rfl)⟩ ⟨Nat.le_refl _, Nat.le_refl _⟩ dX2_setCondition_3 (fun H locs hd => ?_)
  refine lv_if_eq (tgt := 22) hx hb dX2_setCondition_6 (by decide) (fun c2 => ?_) (fun c2 => ?_)
  · replace h := iteT c2 h
    exact rVretS (w := wD g) C hr hd h dX2_setCondition_22
  · replace h := iteF c2 h
    refine lv_aload_n hx hb dX2_setCondition_9 rfl (lv_at hl 0 rfl) ?_
    refine gX2_44 C hd dX2_setCondition_10 ?_
    refine lv_iload_n hx hb dX2_setCondition_13 rfl (lv_at hl 1 rfl) ?_
    refine lv_bipush (v := 120) hx hb dX2_setCondition_14 bi_120 ?_
    refine lv_imul hx hb dX2_setCondition_16 ?_
    refine lv_iload_n hx hb dX2_setCondition_17 rfl (lv_at hl 2 rfl) ?_
    refine lv_iadd hx hb dX2_setCondition_18 ?_
    refine lv_iload_n hx hb dX2_setCondition_19 rfl (lv_at hl 3 rfl) ?_
    refine lv_i2b hx hb dX2_setCondition_20 rfl ?_
    obtain ⟨n3, h⟩ := chk h
    obtain ⟨t4, et4, h⟩ := bnd_e h
    refine st_wD_18 C hd (inb_i n3) et4 dX2_setCondition_21 (fun H locs hd => ?_)
    exact rVretS (w := wD g) C hr hd h dX2_setCondition_22
noncomputable def f_X2_come (F : Nat) (σ : St) (x1 : Int32) (x2 : Int32) (x3 : Int32) : Option (Int32 × St) :=
  bnd ((σ.1 6) - 1) (fun v1 => if v1 < 0 then (some ((-1 : Int32), σ)) else (cal (f_X2_hasRoomFor F σ 1) (fun r3 => if r3 = 0 then (some ((-1 : Int32), σ)) else (if inb (σ.1 7) 600 = true then bnd (sr σ 15 (σ.1 7).toNatClampNeg (vp_nar .byte (Int8.toInt32 (Int32.toInt8 x1)))) (fun t6 => if inb (t6.1 7) 600 = true then bnd (sr t6 16 (t6.1 7).toNatClampNeg x2) (fun t8 => if inb (t8.1 7) 600 = true then bnd (sr t8 17 (t8.1 7).toNatClampNeg x3) (fun t10 => bnd (ss t10 7 ((t10.1 7) + 1)) (fun t11 => if inb v1 8 = true then if inb v1 8 = true then bnd (sr t11 13 v1.toNatClampNeg ((t11.2.1 13 v1.toNatClampNeg) + 1)) (fun t14 => cal (f_X2_missingToFull F t14) (fun r15 => if r15 = 0 then (if inb v1 8 = true then cal (f_X2_pieceHolding F t14 (t14.2.1 13 v1.toNatClampNeg)) (fun r19 => cal (f_X2_setCondition F t14 v1 r19 1) (fun t20 => if inb v1 8 = true then some ((t20.2.1 13 v1.toNatClampNeg), t20) else none)) else none) else (if inb v1 8 = true then some ((t14.2.1 13 v1.toNatClampNeg), t14) else none))) else none else none)) else none) else none) else none))))
set_option maxRecDepth 100000 in
set_option maxHeartbeats 4000000 in
theorem c_X2_come {l : Launch} {g : Gp} {X : va_W} (hE : E0 g) {F : Nat} {r' : Int32} {σ' : St} {σ : St} {x1 : Int32} {x2 : Int32} {x3 : Int32} (h : f_X2_come F σ x1 x2 x3 = some (r', σ')) : Ci l g yX2_come cX2_come 5 (some .int) 2 [.ref (ga g 2), .int x1, .int x2, .int x3] (wD g σ ++ X) r' (wD g σ' ++ X) := by
  refine rHead hE (by decide +kernel) (Nat.le_of_ble_eq_true rfl) (fun p e s m below meth c C hr _ hd ls hl => ?_)
  have hx := C.1
  have hb := C.2.1
  have hl : lv_has ls 5 [(0, .ref (ga g 2)), (1, .int x1), (2, .int x2), (3, .int x3)] := hl
  generalize ([.ref (ga g 2), .int x1, .int x2, .int x3] : List Value).toArray = args at C ⊢
  have C : Cx g p s m args meth c cX2_come 5 RX2 := C
  rw [f_X2_come] at h
  refine lv_aload_n hx hb dX2_come_0 rfl (lv_at hl 0 rfl) ?_
  refine gX2_15 C hd dX2_come_1 ?_
  refine lv_iconst (v := 1) hx hb dX2_come_4 ic_1 ?_
  refine lv_isub hx hb dX2_come_5 ?_
  obtain ⟨v1, ev1, h⟩ := bnd_e h
  refine rTop ev1 ?_
  refine lv_istore (lv' := [(4, .int v1), (0, .ref (ga g 2)), (1, .int x1), (2, .int x2), (3, .int x3)]) hx hb dX2_come_6 hl (Nat.le_of_ble_eq_true rfl) rfl (fun ls hl => ?_)
  refine lv_iload hx hb dX2_come_8 (lv_at hl 0 rfl) ?_
  refine lv_if_lt (tgt := 21) hx hb dX2_come_10 (by decide) (fun c2 => ?_) (fun c2 => ?_)
  · replace h := iteT c2 h
    refine lv_iconst (v := (-1 : Int32)) hx hb dX2_come_21 ic_m1 ?_
    exact rIretS (w := wD g) C hr hd h dX2_come_22
  · replace h := iteF c2 h
    refine lv_aload_n hx hb dX2_come_13 rfl (lv_at hl 1 rfl) ?_
    refine lv_iconst (v := 1) hx hb dX2_come_14 ic_1 ?_
    obtain ⟨r3, er3, h⟩ := cal_e h
    refine rCallI C hd (c_X2_hasRoomFor hE er3) kX2_61 2 rfl rfl rfl rfl hl.1 rfl (Nat.le_of_ble_eq_true rfl) ⟨(Nat.le_of_ble_eq_true rfl), (Nat.le_of_ble_eq_true rfl)⟩ ⟨Nat.le_refl _, Nat.le_refl _⟩ dX2_come_15 (fun H locs hd => ?_)
    refine lv_if_ne (tgt := 23) hx hb dX2_come_18 (by decide) (fun c4 => ?_) (fun c4 => ?_)
    · replace h := iteF c4 h
      refine lv_aload_n hx hb dX2_come_23 rfl (lv_at hl 1 rfl) ?_
      refine gX2_34 C hd dX2_come_24 ?_
      refine lv_aload_n hx hb dX2_come_27 rfl (lv_at hl 1 rfl) ?_
      refine gX2_18 C hd dX2_come_28 ?_
      refine lv_iload_n hx hb dX2_come_31 rfl (lv_at hl 2 rfl) ?_
      refine lv_i2b hx hb dX2_come_32 rfl ?_
      obtain ⟨n5, h⟩ := chk h
      obtain ⟨t6, et6, h⟩ := bnd_e h
      refine st_wD_15 C hd (inb_i n5) et6 dX2_come_33 (fun H locs hd => ?_)
      refine lv_aload_n hx hb dX2_come_34 rfl (lv_at hl 1 rfl) ?_
      refine gX2_38 C hd dX2_come_35 ?_
      refine lv_aload_n hx hb dX2_come_38 rfl (lv_at hl 1 rfl) ?_
      refine gX2_18 C hd dX2_come_39 ?_
      refine lv_iload_n hx hb dX2_come_42 rfl (lv_at hl 3 rfl) ?_
      obtain ⟨n7, h⟩ := chk h
      obtain ⟨t8, et8, h⟩ := bnd_e h
      refine st_wD_16 C hd (inb_i n7) et8 dX2_come_43 (fun H locs hd => ?_)
      refine lv_aload_n hx hb dX2_come_44 rfl (lv_at hl 1 rfl) ?_
      refine gX2_41 C hd dX2_come_45 ?_
      refine lv_aload_n hx hb dX2_come_48 rfl (lv_at hl 1 rfl) ?_
      refine gX2_18 C hd dX2_come_49 ?_
      refine lv_iload_n hx hb dX2_come_52 rfl (lv_at hl 4 rfl) ?_
      obtain ⟨n9, h⟩ := chk h
      obtain ⟨t10, et10, h⟩ := bnd_e h
      refine st_wD_17 C hd (inb_i n9) et10 dX2_come_53 (fun H locs hd => ?_)
      refine lv_aload_n hx hb dX2_come_54 rfl (lv_at hl 1 rfl) ?_
      refine lv_dup hx hb dX2_come_55 rfl ?_
      refine gX2_18 C hd dX2_come_56 ?_
      refine lv_iconst (v := 1) hx hb dX2_come_59 ic_1 ?_
      refine lv_iadd hx hb dX2_come_60 ?_
      obtain ⟨t11, et11, h⟩ := bnd_e h
      refine pX2_18 C hd et11 dX2_come_61 (fun H locs hd => ?_)
      refine lv_aload_n hx hb dX2_come_64 rfl (lv_at hl 1 rfl) ?_
      refine gX2_28 C hd dX2_come_65 ?_
      refine lv_iload hx hb dX2_come_68 (lv_at hl 0 rfl) ?_
      refine lv_dup2_11 hx hb dX2_come_70 rfl rfl ?_
      obtain ⟨n12, h⟩ := chk h
      refine ld_wD_13 C hd (inb_i n12) dX2_come_71 ?_
      refine lv_iconst (v := 1) hx hb dX2_come_72 ic_1 ?_
      refine lv_iadd hx hb dX2_come_73 ?_
      obtain ⟨n13, h⟩ := chk h
      obtain ⟨t14, et14, h⟩ := bnd_e h
      refine st_wD_13 C hd (inb_i n13) et14 dX2_come_74 (fun H locs hd => ?_)
      refine lv_aload_n hx hb dX2_come_75 rfl (lv_at hl 1 rfl) ?_
      obtain ⟨r15, er15, h⟩ := cal_e h
      refine rCallI C hd (c_X2_missingToFull hE er15) kX2_64 2 rfl rfl rfl rfl hl.1 rfl (Nat.le_of_ble_eq_true rfl) ⟨(Nat.le_of_ble_eq_true rfl), (Nat.le_of_ble_eq_true rfl)⟩ ⟨Nat.le_refl _, Nat.le_refl _⟩ dX2_come_76 (fun H locs hd => ?_)
      refine lv_if_ne (tgt := 100) hx hb dX2_come_79 (by decide) (fun c16 => ?_) (fun c16 => ?_)
      · replace h := iteF c16 h
        refine lv_aload_n hx hb dX2_come_100 rfl (lv_at hl 1 rfl) ?_
        refine gX2_28 C hd dX2_come_101 ?_
        refine lv_iload hx hb dX2_come_104 (lv_at hl 0 rfl) ?_
        obtain ⟨n17, h⟩ := chk h
        refine ld_wD_13 C hd (inb_i n17) dX2_come_106 ?_
        exact rIretS (w := wD g) C hr hd h dX2_come_107
      · replace h := iteT c16 h
        refine lv_aload_n hx hb dX2_come_82 rfl (lv_at hl 1 rfl) ?_
        refine lv_iload hx hb dX2_come_83 (lv_at hl 0 rfl) ?_
        refine lv_aload_n hx hb dX2_come_85 rfl (lv_at hl 1 rfl) ?_
        refine lv_aload_n hx hb dX2_come_86 rfl (lv_at hl 1 rfl) ?_
        refine gX2_28 C hd dX2_come_87 ?_
        refine lv_iload hx hb dX2_come_90 (lv_at hl 0 rfl) ?_
        obtain ⟨n18, h⟩ := chk h
        refine ld_wD_13 C hd (inb_i n18) dX2_come_92 ?_
        obtain ⟨r19, er19, h⟩ := cal_e h
        refine rCallI C hd (c_X2_pieceHolding hE er19) kX2_68 2 rfl rfl rfl rfl hl.1 rfl (Nat.le_of_ble_eq_true rfl) ⟨(Nat.le_of_ble_eq_true rfl), (Nat.le_of_ble_eq_true rfl)⟩ ⟨Nat.le_refl _, Nat.le_refl _⟩ dX2_come_93 (fun H locs hd => ?_)
        refine lv_iconst (v := 1) hx hb dX2_come_96 ic_1 ?_
        obtain ⟨t20, et20, h⟩ := cal_e h
        refine rCallV C hd (c_X2_setCondition hE et20) kX2_72 2 rfl rfl rfl rfl hl.1 rfl (Nat.le_of_ble_eq_true rfl) ⟨(Nat.le_of_ble_eq_true rfl), (Nat.le_of_ble_eq_true rfl)⟩ ⟨Nat.le_refl _, Nat.le_refl _⟩ dX2_come_97 (fun H locs hd => ?_)
        refine lv_aload_n hx hb dX2_come_100 rfl (lv_at hl 1 rfl) ?_
        refine gX2_28 C hd dX2_come_101 ?_
        refine lv_iload hx hb dX2_come_104 (lv_at hl 0 rfl) ?_
        obtain ⟨n21, h⟩ := chk h
        refine ld_wD_13 C hd (inb_i n21) dX2_come_106 ?_
        exact rIretS (w := wD g) C hr hd h dX2_come_107
    · replace h := iteT c4 h
      refine lv_iconst (v := (-1 : Int32)) hx hb dX2_come_21 ic_m1 ?_
      exact rIretS (w := wD g) C hr hd h dX2_come_22
noncomputable def f_X2_conditionOf (F : Nat) (σ : St) (x1 : Int32) (x2 : Int32) : Option Int32 :=
  cal (f_X2_hasPiece F σ x1 x2) (fun r1 => if r1 = 0 then (some (-1 : Int32)) else (if inb ((x1 * 120) + x2) 960 = true then some (σ.2.1 18 ((x1 * 120) + x2).toNatClampNeg) else none))
set_option maxRecDepth 100000 in
set_option maxHeartbeats 4000000 in
theorem c_X2_conditionOf {l : Launch} {g : Gp} {X : va_W} (hE : E0 g) {F : Nat} {r' : Int32} {σ : St} {x1 : Int32} {x2 : Int32} (h : f_X2_conditionOf F σ x1 x2 = some r') : Ci l g yX2_conditionOf cX2_conditionOf 3 (some .int) 1 [.ref (ga g 2), .int x1, .int x2] (wD g σ ++ X) r' (wD g σ ++ X) := by
  refine rHead hE (by decide +kernel) (Nat.le_of_ble_eq_true rfl) (fun p e s m below meth c C hr _ hd ls hl => ?_)
  have hx := C.1
  have hb := C.2.1
  have hl : lv_has ls 3 [(0, .ref (ga g 2)), (1, .int x1), (2, .int x2)] := hl
  generalize ([.ref (ga g 2), .int x1, .int x2] : List Value).toArray = args at C ⊢
  have C : Cx g p s m args meth c cX2_conditionOf 3 RX2 := C
  rw [f_X2_conditionOf] at h
  refine lv_aload_n hx hb dX2_conditionOf_0 rfl (lv_at hl 0 rfl) ?_
  refine lv_iload_n hx hb dX2_conditionOf_1 rfl (lv_at hl 1 rfl) ?_
  refine lv_iload_n hx hb dX2_conditionOf_2 rfl (lv_at hl 2 rfl) ?_
  obtain ⟨r1, er1, h⟩ := cal_e h
  refine rCallI C hd (c_X2_hasPiece hE er1) kX2_100 2 rfl rfl rfl rfl hl.1 rfl (Nat.le_of_ble_eq_true rfl) ⟨(Nat.le_of_ble_eq_true rfl), (Nat.le_of_ble_eq_true rfl)⟩ ⟨Nat.le_refl _, Nat.le_refl _⟩ dX2_conditionOf_3 (fun H locs hd => ?_)
  refine lv_if_eq (tgt := 23) hx hb dX2_conditionOf_6 (by decide) (fun c2 => ?_) (fun c2 => ?_)
  · replace h := iteT c2 h
    refine lv_iconst (v := (-1 : Int32)) hx hb dX2_conditionOf_23 ic_m1 ?_
    exact rIretP C hr hd h dX2_conditionOf_24
  · replace h := iteF c2 h
    refine lv_aload_n hx hb dX2_conditionOf_9 rfl (lv_at hl 0 rfl) ?_
    refine gX2_44 C hd dX2_conditionOf_10 ?_
    refine lv_iload_n hx hb dX2_conditionOf_13 rfl (lv_at hl 1 rfl) ?_
    refine lv_bipush (v := 120) hx hb dX2_conditionOf_14 bi_120 ?_
    refine lv_imul hx hb dX2_conditionOf_16 ?_
    refine lv_iload_n hx hb dX2_conditionOf_17 rfl (lv_at hl 2 rfl) ?_
    refine lv_iadd hx hb dX2_conditionOf_18 ?_
    obtain ⟨n3, h⟩ := chk h
    refine ld_wD_18 C hd (inb_i n3) dX2_conditionOf_19 ?_
    refine lv_goto (tgt := 24) hx hb dX2_conditionOf_20 (by decide) ?_
    exact rIretP C hr hd h dX2_conditionOf_24
noncomputable def f_X2_forkOf (F : Nat) (σ : St) (x1 : Int32) : Option Int32 :=
  cal (f_X2_hasLine F σ x1) (fun r1 => if r1 = 0 then (some 0) else (if inb x1 8 = true then some (σ.2.1 12 x1.toNatClampNeg) else none))
set_option maxRecDepth 100000 in
set_option maxHeartbeats 4000000 in
theorem c_X2_forkOf {l : Launch} {g : Gp} {X : va_W} (hE : E0 g) {F : Nat} {r' : Int32} {σ : St} {x1 : Int32} (h : f_X2_forkOf F σ x1 = some r') : Ci l g yX2_forkOf cX2_forkOf 2 (some .int) 1 [.ref (ga g 2), .int x1] (wD g σ ++ X) r' (wD g σ ++ X) := by
  refine rHead hE (by decide +kernel) (Nat.le_of_ble_eq_true rfl) (fun p e s m below meth c C hr _ hd ls hl => ?_)
  have hx := C.1
  have hb := C.2.1
  have hl : lv_has ls 2 [(0, .ref (ga g 2)), (1, .int x1)] := hl
  generalize ([.ref (ga g 2), .int x1] : List Value).toArray = args at C ⊢
  have C : Cx g p s m args meth c cX2_forkOf 2 RX2 := C
  rw [f_X2_forkOf] at h
  refine lv_aload_n hx hb dX2_forkOf_0 rfl (lv_at hl 0 rfl) ?_
  refine lv_iload_n hx hb dX2_forkOf_1 rfl (lv_at hl 1 rfl) ?_
  obtain ⟨r1, er1, h⟩ := cal_e h
  refine rCallI C hd (c_X2_hasLine hE er1) kX2_57 2 rfl rfl rfl rfl hl.1 rfl (Nat.le_of_ble_eq_true rfl) ⟨(Nat.le_of_ble_eq_true rfl), (Nat.le_of_ble_eq_true rfl)⟩ ⟨Nat.le_refl _, Nat.le_refl _⟩ dX2_forkOf_2 (fun H locs hd => ?_)
  refine lv_if_eq (tgt := 17) hx hb dX2_forkOf_5 (by decide) (fun c2 => ?_) (fun c2 => ?_)
  · replace h := iteT c2 h
    refine lv_iconst (v := 0) hx hb dX2_forkOf_17 ic_0 ?_
    exact rIretP C hr hd h dX2_forkOf_18
  · replace h := iteF c2 h
    refine lv_aload_n hx hb dX2_forkOf_8 rfl (lv_at hl 0 rfl) ?_
    refine gX2_25 C hd dX2_forkOf_9 ?_
    refine lv_iload_n hx hb dX2_forkOf_12 rfl (lv_at hl 1 rfl) ?_
    obtain ⟨n3, h⟩ := chk h
    refine ld_wD_12 C hd (inb_i n3) dX2_forkOf_13 ?_
    refine lv_goto (tgt := 18) hx hb dX2_forkOf_14 (by decide) ?_
    exact rIretP C hr hd h dX2_forkOf_18
noncomputable def f_X2_going (F : Nat) (σ : St) : Option Int32 :=
  some ((σ.1 6) - 1)
set_option maxRecDepth 100000 in
set_option maxHeartbeats 4000000 in
theorem c_X2_going {l : Launch} {g : Gp} {X : va_W} (hE : E0 g) {F : Nat} {r' : Int32} {σ : St} (h : f_X2_going F σ = some r') : Ci l g yX2_going cX2_going 1 (some .int) 0 [.ref (ga g 2)] (wD g σ ++ X) r' (wD g σ ++ X) := by
  refine rHead hE (by decide +kernel) (Nat.le_of_ble_eq_true rfl) (fun p e s m below meth c C hr _ hd ls hl => ?_)
  have hx := C.1
  have hb := C.2.1
  have hl : lv_has ls 1 [(0, .ref (ga g 2))] := hl
  generalize ([.ref (ga g 2)] : List Value).toArray = args at C ⊢
  have C : Cx g p s m args meth c cX2_going 1 RX2 := C
  rw [f_X2_going] at h
  refine lv_aload_n hx hb dX2_going_0 rfl (lv_at hl 0 rfl) ?_
  refine gX2_15 C hd dX2_going_1 ?_
  refine lv_iconst (v := 1) hx hb dX2_going_4 ic_1 ?_
  refine lv_isub hx hb dX2_going_5 ?_
  exact rIretP C hr hd h dX2_going_6
noncomputable def f_X2_hasPlace (F : Nat) (σ : St) (x1 : Int32) (x2 : Int32) : Option Int32 :=
  cal (f_X2_hasLine F σ x1) (fun r1 => if r1 = 0 then (some 0) else (if x2 < 0 then (some 0) else (if inb x1 8 = true then if (σ.2.1 13 x1.toNatClampNeg) < x2 then (some 0) else (some 1) else none)))
set_option maxRecDepth 100000 in
set_option maxHeartbeats 4000000 in
theorem c_X2_hasPlace {l : Launch} {g : Gp} {X : va_W} (hE : E0 g) {F : Nat} {r' : Int32} {σ : St} {x1 : Int32} {x2 : Int32} (h : f_X2_hasPlace F σ x1 x2 = some r') : Ci l g yX2_hasPlace cX2_hasPlace 3 (some .boolean) 1 [.ref (ga g 2), .int x1, .int x2] (wD g σ ++ X) r' (wD g σ ++ X) := by
  refine rHead hE (by decide +kernel) (Nat.le_of_ble_eq_true rfl) (fun p e s m below meth c C hr _ hd ls hl => ?_)
  have hx := C.1
  have hb := C.2.1
  have hl : lv_has ls 3 [(0, .ref (ga g 2)), (1, .int x1), (2, .int x2)] := hl
  generalize ([.ref (ga g 2), .int x1, .int x2] : List Value).toArray = args at C ⊢
  have C : Cx g p s m args meth c cX2_hasPlace 3 RX2 := C
  rw [f_X2_hasPlace] at h
  refine lv_aload_n hx hb dX2_hasPlace_0 rfl (lv_at hl 0 rfl) ?_
  refine lv_iload_n hx hb dX2_hasPlace_1 rfl (lv_at hl 1 rfl) ?_
  obtain ⟨r1, er1, h⟩ := cal_e h
  refine rCallI C hd (c_X2_hasLine hE er1) kX2_57 2 rfl rfl rfl rfl hl.1 rfl (Nat.le_of_ble_eq_true rfl) ⟨(Nat.le_of_ble_eq_true rfl), (Nat.le_of_ble_eq_true rfl)⟩ ⟨Nat.le_refl _, Nat.le_refl _⟩ dX2_hasPlace_2 (fun H locs hd => ?_)
  refine lv_if_eq (tgt := 26) hx hb dX2_hasPlace_5 (by decide) (fun c2 => ?_) (fun c2 => ?_)
  · replace h := iteT c2 h
    refine lv_iconst (v := 0) hx hb dX2_hasPlace_26 ic_0 ?_
    exact rZretP C hr hd h (by decide) dX2_hasPlace_27
  · replace h := iteF c2 h
    refine lv_iload_n hx hb dX2_hasPlace_8 rfl (lv_at hl 2 rfl) ?_
    refine lv_if_lt (tgt := 26) hx hb dX2_hasPlace_9 (by decide) (fun c3 => ?_) (fun c3 => ?_)
    · replace h := iteT c3 h
      refine lv_iconst (v := 0) hx hb dX2_hasPlace_26 ic_0 ?_
      exact rZretP C hr hd h (by decide) dX2_hasPlace_27
    · replace h := iteF c3 h
      refine lv_iload_n hx hb dX2_hasPlace_12 rfl (lv_at hl 2 rfl) ?_
      refine lv_aload_n hx hb dX2_hasPlace_13 rfl (lv_at hl 0 rfl) ?_
      refine gX2_28 C hd dX2_hasPlace_14 ?_
      refine lv_iload_n hx hb dX2_hasPlace_17 rfl (lv_at hl 1 rfl) ?_
      obtain ⟨n4, h⟩ := chk h
      refine ld_wD_13 C hd (inb_i n4) dX2_hasPlace_18 ?_
      refine lv_icmp_gt (tgt := 26) hx hb dX2_hasPlace_19 (by decide) (fun c5 => ?_) (fun c5 => ?_)
      · replace h := iteT c5 h
        refine lv_iconst (v := 0) hx hb dX2_hasPlace_26 ic_0 ?_
        exact rZretP C hr hd h (by decide) dX2_hasPlace_27
      · replace h := iteF c5 h
        refine lv_iconst (v := 1) hx hb dX2_hasPlace_22 ic_1 ?_
        refine lv_goto (tgt := 27) hx hb dX2_hasPlace_23 (by decide) ?_
        exact rZretP C hr hd h (by decide) dX2_hasPlace_27
noncomputable def f_X2_hindranceOf_62 (F : Nat) (σ : St) (x3 : Int32) (y0 : Int32) : Option Int32 :=
  if 1 ≤ x3 then (some 0) else (if y0 = 0 then (some 4) else (some 0))
set_option maxRecDepth 100000 in
set_option maxHeartbeats 4000000 in
theorem w_X2_hindranceOf_62 {F : Nat} {r' : Int32}  (C : Cx g p s m args meth c cX2_hindranceOf 5 RX2) (hr : meth.sig.returnType = some .int) :
    (∀ (σ : St) (x3 : Int32) (y0 : Int32), f_X2_hindranceOf_62 F σ x3 y0 = some r' → ∀ (H : Heap) (locs : List Loc) (ls : Array Slot), Dy g (wD g σ ++ X) s H locs → lv_has ls 5 [(3, .int x3)] → W p l e (rmD 1) s m args below meth c H locs 0 0 (QI g below args s (wD g σ ++ X) r') (F0 m 62 ls [.int y0])) := by
  have hx := C.1
  have hb := C.2.1
  have hE := C.2.2.2.2.2.2.2.2
  intro σ x3 y0 h H locs ls hd hl
  rw [f_X2_hindranceOf_62] at h
  refine lv_istore (lv' := [(4, .int y0), (3, .int x3)]) hx hb dX2_hindranceOf_62 hl (Nat.le_of_ble_eq_true rfl) rfl (fun ls hl => ?_)
  refine lv_iload_n hx hb dX2_hindranceOf_64 rfl (lv_at hl 1 rfl) ?_
  refine lv_iconst (v := 1) hx hb dX2_hindranceOf_65 ic_1 ?_
  refine lv_icmp_ge (tgt := 74) hx hb dX2_hindranceOf_66 (by decide) (fun c1 => ?_) (fun c1 => ?_)
  · replace h := iteT c1 h
    refine lv_iconst (v := 0) hx hb dX2_hindranceOf_74 ic_0 ?_
    refine lv_goto (tgt := 79) hx hb dX2_hindranceOf_75 (by decide) ?_
    exact rIretP C hr hd h dX2_hindranceOf_79
  · replace h := iteF c1 h
    refine lv_iload hx hb dX2_hindranceOf_69 (lv_at hl 0 rfl) ?_
    refine lv_if_eq (tgt := 78) hx hb dX2_hindranceOf_71 (by decide) (fun c2 => ?_) (fun c2 => ?_)
    · replace h := iteT c2 h
      refine lv_iconst (v := 4) hx hb dX2_hindranceOf_78 ic_4 ?_
      exact rIretP C hr hd h dX2_hindranceOf_79
    · replace h := iteF c2 h
      refine lv_iconst (v := 0) hx hb dX2_hindranceOf_74 ic_0 ?_
      refine lv_goto (tgt := 79) hx hb dX2_hindranceOf_75 (by decide) ?_
      exact rIretP C hr hd h dX2_hindranceOf_79
noncomputable def f_X2_hindranceOf_61 (F : Nat) (σ : St) (x3 : Int32) : Option Int32 :=
  f_X2_hindranceOf_62 F σ x3 0
set_option maxRecDepth 100000 in
set_option maxHeartbeats 4000000 in
theorem w_X2_hindranceOf_61 {F : Nat} {r' : Int32}  (C : Cx g p s m args meth c cX2_hindranceOf 5 RX2) (hr : meth.sig.returnType = some .int) :
    (∀ (σ : St) (x3 : Int32), f_X2_hindranceOf_61 F σ x3 = some r' → ∀ (H : Heap) (locs : List Loc) (ls : Array Slot), Dy g (wD g σ ++ X) s H locs → lv_has ls 5 [(3, .int x3)] → W p l e (rmD 1) s m args below meth c H locs 0 0 (QI g below args s (wD g σ ++ X) r') (F0 m 61 ls [])) := by
  have hx := C.1
  have hb := C.2.1
  have hE := C.2.2.2.2.2.2.2.2
  intro σ x3 h H locs ls hd hl
  rw [f_X2_hindranceOf_61] at h
  refine lv_iconst (v := 0) hx hb dX2_hindranceOf_61 ic_0 ?_
  exact w_X2_hindranceOf_62 C hr σ x3 0 h _ _ _ hd (lv_sub hl [0] rfl)
noncomputable def f_X2_hindranceOf (F : Nat) (σ : St) (x1 : Int32) (x2 : Int32) : Option Int32 :=
  cal (f_X2_hasPiece F σ x1 x2) (fun r1 => if r1 = 0 then (some 4) else (if inb ((x1 * 120) + x2) 960 = true then bnd (σ.2.1 18 ((x1 * 120) + x2).toNatClampNeg) (fun v4 => if v4 = 3 then (some 5) else (if x1 = ((σ.1 6) - 1) then (if inb x1 8 = true then if ((x2 + 1) * (σ.1 5)) ≤ (σ.2.1 13 x1.toNatClampNeg) then (f_X2_hindranceOf_61 F σ v4) else (f_X2_hindranceOf_62 F σ v4 1) else none) else (f_X2_hindranceOf_61 F σ v4))) else none))
set_option maxRecDepth 100000 in
set_option maxHeartbeats 4000000 in
theorem c_X2_hindranceOf {l : Launch} {g : Gp} {X : va_W} (hE : E0 g) {F : Nat} {r' : Int32} {σ : St} {x1 : Int32} {x2 : Int32} (h : f_X2_hindranceOf F σ x1 x2 = some r') : Ci l g yX2_hindranceOf cX2_hindranceOf 5 (some .int) 1 [.ref (ga g 2), .int x1, .int x2] (wD g σ ++ X) r' (wD g σ ++ X) := by
  refine rHead hE (by decide +kernel) (Nat.le_of_ble_eq_true rfl) (fun p e s m below meth c C hr _ hd ls hl => ?_)
  have hx := C.1
  have hb := C.2.1
  have hl : lv_has ls 5 [(0, .ref (ga g 2)), (1, .int x1), (2, .int x2)] := hl
  generalize ([.ref (ga g 2), .int x1, .int x2] : List Value).toArray = args at C ⊢
  have C : Cx g p s m args meth c cX2_hindranceOf 5 RX2 := C
  rw [f_X2_hindranceOf] at h
  refine lv_aload_n hx hb dX2_hindranceOf_0 rfl (lv_at hl 0 rfl) ?_
  refine lv_iload_n hx hb dX2_hindranceOf_1 rfl (lv_at hl 1 rfl) ?_
  refine lv_iload_n hx hb dX2_hindranceOf_2 rfl (lv_at hl 2 rfl) ?_
  obtain ⟨r1, er1, h⟩ := cal_e h
  refine rCallI C hd (c_X2_hasPiece hE er1) kX2_100 2 rfl rfl rfl rfl hl.1 rfl (Nat.le_of_ble_eq_true rfl) ⟨(Nat.le_of_ble_eq_true rfl), (Nat.le_of_ble_eq_true rfl)⟩ ⟨Nat.le_refl _, Nat.le_refl _⟩ dX2_hindranceOf_3 (fun H locs hd => ?_)
  refine lv_if_ne (tgt := 11) hx hb dX2_hindranceOf_6 (by decide) (fun c2 => ?_) (fun c2 => ?_)
  · replace h := iteF c2 h
    refine lv_aload_n hx hb dX2_hindranceOf_11 rfl (lv_at hl 0 rfl) ?_
    refine gX2_44 C hd dX2_hindranceOf_12 ?_
    refine lv_iload_n hx hb dX2_hindranceOf_15 rfl (lv_at hl 1 rfl) ?_
    refine lv_bipush (v := 120) hx hb dX2_hindranceOf_16 bi_120 ?_
    refine lv_imul hx hb dX2_hindranceOf_18 ?_
    refine lv_iload_n hx hb dX2_hindranceOf_19 rfl (lv_at hl 2 rfl) ?_
    refine lv_iadd hx hb dX2_hindranceOf_20 ?_
    obtain ⟨n3, h⟩ := chk h
    refine ld_wD_18 C hd (inb_i n3) dX2_hindranceOf_21 ?_
    obtain ⟨v4, ev4, h⟩ := bnd_e h
    refine rTop ev4 ?_
    refine lv_istore_n (lv' := [(3, .int v4), (0, .ref (ga g 2)), (1, .int x1), (2, .int x2)]) hx hb dX2_hindranceOf_22 rfl hl (Nat.le_of_ble_eq_true rfl) rfl (fun ls hl => ?_)
    refine lv_iload_n hx hb dX2_hindranceOf_23 rfl (lv_at hl 0 rfl) ?_
    refine lv_iconst (v := 3) hx hb dX2_hindranceOf_24 ic_3 ?_
    refine lv_icmp_ne (tgt := 30) hx hb dX2_hindranceOf_25 (by decide) (fun c5 => ?_) (fun c5 => ?_)
    · replace h := iteF c5 h
      refine lv_iload_n hx hb dX2_hindranceOf_30 rfl (lv_at hl 2 rfl) ?_
      refine lv_aload_n hx hb dX2_hindranceOf_31 rfl (lv_at hl 1 rfl) ?_
      refine gX2_15 C hd dX2_hindranceOf_32 ?_
      refine lv_iconst (v := 1) hx hb dX2_hindranceOf_35 ic_1 ?_
      refine lv_isub hx hb dX2_hindranceOf_36 ?_
      refine lv_icmp_ne (tgt := 61) hx hb dX2_hindranceOf_37 (by decide) (fun c6 => ?_) (fun c6 => ?_)
      · replace h := iteF c6 h
        exact w_X2_hindranceOf_61 C hr σ v4 h _ _ _ hd (lv_sub hl [0] rfl)
      · replace h := iteT c6 h
        refine lv_aload_n hx hb dX2_hindranceOf_40 rfl (lv_at hl 1 rfl) ?_
        refine gX2_28 C hd dX2_hindranceOf_41 ?_
        refine lv_iload_n hx hb dX2_hindranceOf_44 rfl (lv_at hl 2 rfl) ?_
        obtain ⟨n7, h⟩ := chk h
        refine ld_wD_13 C hd (inb_i n7) dX2_hindranceOf_45 ?_
        refine lv_iload_n hx hb dX2_hindranceOf_46 rfl (lv_at hl 3 rfl) ?_
        refine lv_iconst (v := 1) hx hb dX2_hindranceOf_47 ic_1 ?_
        refine lv_iadd hx hb dX2_hindranceOf_48 ?_
        refine lv_aload_n hx hb dX2_hindranceOf_49 rfl (lv_at hl 1 rfl) ?_
        refine gX2_9 C hd dX2_hindranceOf_50 ?_
        refine lv_imul hx hb dX2_hindranceOf_53 ?_
        refine lv_icmp_ge (tgt := 61) hx hb dX2_hindranceOf_54 (by decide) (fun c8 => ?_) (fun c8 => ?_)
        · replace h := iteT c8 h
          exact w_X2_hindranceOf_61 C hr σ v4 h _ _ _ hd (lv_sub hl [0] rfl)
        · replace h := iteF c8 h
          refine lv_iconst (v := 1) hx hb dX2_hindranceOf_57 ic_1 ?_
          refine lv_goto (tgt := 62) hx hb dX2_hindranceOf_58 (by decide) ?_
          exact w_X2_hindranceOf_62 C hr σ v4 1 h _ _ _ hd (lv_sub hl [0] rfl)
    · replace h := iteT c5 h
      refine lv_iconst (v := 5) hx hb dX2_hindranceOf_28 ic_5 ?_
      exact rIretP C hr hd h dX2_hindranceOf_29
  · replace h := iteT c2 h
    refine lv_iconst (v := 4) hx hb dX2_hindranceOf_9 ic_4 ?_
    exact rIretP C hr hd h dX2_hindranceOf_10
noncomputable def f_X2_isMark (F : Nat) (σ : St) (x1 : Int32) (x2 : Int32) : Option Int32 :=
  cal (f_X2_hasRow F σ x1) (fun r1 => if r1 = 0 then (some 0) else (if inb x1 600 = true then if (σ.2.1 15 x1.toNatClampNeg) = 2 then (if inb x1 600 = true then if (σ.2.1 16 x1.toNatClampNeg) = x2 then (some 1) else (some 0) else none) else (some 0) else none))
set_option maxRecDepth 100000 in
set_option maxHeartbeats 4000000 in
theorem c_X2_isMark {l : Launch} {g : Gp} {X : va_W} (hE : E0 g) {F : Nat} {r' : Int32} {σ : St} {x1 : Int32} {x2 : Int32} (h : f_X2_isMark F σ x1 x2 = some r') : Ci l g yX2_isMark cX2_isMark 3 (some .boolean) 1 [.ref (ga g 2), .int x1, .int x2] (wD g σ ++ X) r' (wD g σ ++ X) := by
  refine rHead hE (by decide +kernel) (Nat.le_of_ble_eq_true rfl) (fun p e s m below meth c C hr _ hd ls hl => ?_)
  have hx := C.1
  have hb := C.2.1
  have hl : lv_has ls 3 [(0, .ref (ga g 2)), (1, .int x1), (2, .int x2)] := hl
  generalize ([.ref (ga g 2), .int x1, .int x2] : List Value).toArray = args at C ⊢
  have C : Cx g p s m args meth c cX2_isMark 3 RX2 := C
  rw [f_X2_isMark] at h
  refine lv_aload_n hx hb dX2_isMark_0 rfl (lv_at hl 0 rfl) ?_
  refine lv_iload_n hx hb dX2_isMark_1 rfl (lv_at hl 1 rfl) ?_
  obtain ⟨r1, er1, h⟩ := cal_e h
  refine rCallI C hd (c_X2_hasRow hE er1) kX2_79 2 rfl rfl rfl rfl hl.1 rfl (Nat.le_of_ble_eq_true rfl) ⟨(Nat.le_of_ble_eq_true rfl), (Nat.le_of_ble_eq_true rfl)⟩ ⟨Nat.le_refl _, Nat.le_refl _⟩ dX2_isMark_2 (fun H locs hd => ?_)
  refine lv_if_eq (tgt := 32) hx hb dX2_isMark_5 (by decide) (fun c2 => ?_) (fun c2 => ?_)
  · replace h := iteT c2 h
    refine lv_iconst (v := 0) hx hb dX2_isMark_32 ic_0 ?_
    exact rZretP C hr hd h (by decide) dX2_isMark_33
  · replace h := iteF c2 h
    refine lv_aload_n hx hb dX2_isMark_8 rfl (lv_at hl 0 rfl) ?_
    refine gX2_34 C hd dX2_isMark_9 ?_
    refine lv_iload_n hx hb dX2_isMark_12 rfl (lv_at hl 1 rfl) ?_
    obtain ⟨n3, h⟩ := chk h
    refine ld_wD_15 C hd (inb_i n3) dX2_isMark_13 ?_
    refine lv_iconst (v := 2) hx hb dX2_isMark_14 ic_2 ?_
    refine lv_icmp_ne (tgt := 32) hx hb dX2_isMark_15 (by decide) (fun c4 => ?_) (fun c4 => ?_)
    · replace h := iteF c4 h
      refine lv_iconst (v := 0) hx hb dX2_isMark_32 ic_0 ?_
      exact rZretP C hr hd h (by decide) dX2_isMark_33
    · replace h := iteT c4 h
      refine lv_aload_n hx hb dX2_isMark_18 rfl (lv_at hl 0 rfl) ?_
      refine gX2_38 C hd dX2_isMark_19 ?_
      refine lv_iload_n hx hb dX2_isMark_22 rfl (lv_at hl 1 rfl) ?_
      obtain ⟨n5, h⟩ := chk h
      refine ld_wD_16 C hd (inb_i n5) dX2_isMark_23 ?_
      refine lv_iload_n hx hb dX2_isMark_24 rfl (lv_at hl 2 rfl) ?_
      refine lv_icmp_ne (tgt := 32) hx hb dX2_isMark_25 (by decide) (fun c6 => ?_) (fun c6 => ?_)
      · replace h := iteF c6 h
        refine lv_iconst (v := 0) hx hb dX2_isMark_32 ic_0 ?_
        exact rZretP C hr hd h (by decide) dX2_isMark_33
      · replace h := iteT c6 h
        refine lv_iconst (v := 1) hx hb dX2_isMark_28 ic_1 ?_
        refine lv_goto (tgt := 33) hx hb dX2_isMark_29 (by decide) ?_
        exact rZretP C hr hd h (by decide) dX2_isMark_33
noncomputable def f_X2_keeperOf_5 (F : Nat) : Nat → St → Int32 → Int32 → Int32 → Option Int32
  | 0, _, _, _, _ => none
  | n + 1, σ, x2, x3, x4 => if 8 ≤ x4 then (some x3) else (cal (f_X2_hasLine F σ x3) (fun r2 => if r2 = 0 then (some x3) else (if inb x3 8 = true then if (σ.2.1 12 x3.toNatClampNeg) < ((x2 + 1) * (σ.1 5)) then (some x3) else (if inb x3 8 = true then bnd (σ.2.1 11 x3.toNatClampNeg) (fun v7 => bnd (x4 + 1) (fun v8 => f_X2_keeperOf_5 F n σ x2 v7 v8)) else none) else none)))
set_option maxRecDepth 100000 in
set_option maxHeartbeats 4000000 in
theorem w_X2_keeperOf_5 {F : Nat} {r' : Int32}  (C : Cx g p s m args meth c cX2_keeperOf 5 RX2) (hr : meth.sig.returnType = some .int) :
    (∀ (n : Nat) (σ : St) (x2 : Int32) (x3 : Int32) (x4 : Int32), f_X2_keeperOf_5 F n σ x2 x3 x4 = some r' → ∀ (H : Heap) (locs : List Loc) (ls : Array Slot), Dy g (wD g σ ++ X) s H locs → lv_has ls 5 [(0, .ref (ga g 2)), (2, .int x2), (3, .int x3), (4, .int x4)] → W p l e (rmD 1) s m args below meth c H locs 0 0 (QI g below args s (wD g σ ++ X) r') (F0 m 5 ls [])) := by
  have hx := C.1
  have hb := C.2.1
  have hE := C.2.2.2.2.2.2.2.2
  intro n
  induction n with
  | zero =>
    intro σ x2 x3 x4 h
    cases h
  | succ n ih =>
    intro σ x2 x3 x4 h H locs ls hd hl
    rw [f_X2_keeperOf_5] at h
    refine lv_iload hx hb dX2_keeperOf_5 (lv_at hl 3 rfl) ?_
    refine lv_bipush (v := 8) hx hb dX2_keeperOf_7 bi_8 ?_
    refine lv_icmp_ge (tgt := 50) hx hb dX2_keeperOf_9 (by decide) (fun c1 => ?_) (fun c1 => ?_)
    · replace h := iteT c1 h
      refine lv_iload_n hx hb dX2_keeperOf_50 rfl (lv_at hl 2 rfl) ?_
      exact rIretP C hr hd h dX2_keeperOf_51
    · replace h := iteF c1 h
      refine lv_aload_n hx hb dX2_keeperOf_12 rfl (lv_at hl 0 rfl) ?_
      refine lv_iload_n hx hb dX2_keeperOf_13 rfl (lv_at hl 2 rfl) ?_
      obtain ⟨r2, er2, h⟩ := cal_e h
      refine rCallI C hd (c_X2_hasLine hE er2) kX2_57 2 rfl rfl rfl rfl hl.1 rfl (Nat.le_of_ble_eq_true rfl) ⟨(Nat.le_of_ble_eq_true rfl), (Nat.le_of_ble_eq_true rfl)⟩ ⟨Nat.le_refl _, Nat.le_refl _⟩ dX2_keeperOf_14 (fun H locs hd => ?_)
      refine lv_if_eq (tgt := 50) hx hb dX2_keeperOf_17 (by decide) (fun c3 => ?_) (fun c3 => ?_)
      · replace h := iteT c3 h
        refine lv_iload_n hx hb dX2_keeperOf_50 rfl (lv_at hl 2 rfl) ?_
        exact rIretP C hr hd h dX2_keeperOf_51
      · replace h := iteF c3 h
        refine lv_iload_n hx hb dX2_keeperOf_20 rfl (lv_at hl 1 rfl) ?_
        refine lv_iconst (v := 1) hx hb dX2_keeperOf_21 ic_1 ?_
        refine lv_iadd hx hb dX2_keeperOf_22 ?_
        refine lv_aload_n hx hb dX2_keeperOf_23 rfl (lv_at hl 0 rfl) ?_
        refine gX2_9 C hd dX2_keeperOf_24 ?_
        refine lv_imul hx hb dX2_keeperOf_27 ?_
        refine lv_aload_n hx hb dX2_keeperOf_28 rfl (lv_at hl 0 rfl) ?_
        refine gX2_25 C hd dX2_keeperOf_29 ?_
        refine lv_iload_n hx hb dX2_keeperOf_32 rfl (lv_at hl 2 rfl) ?_
        obtain ⟨n4, h⟩ := chk h
        refine ld_wD_12 C hd (inb_i n4) dX2_keeperOf_33 ?_
        refine lv_icmp_gt (tgt := 50) hx hb dX2_keeperOf_34 (by decide) (fun c5 => ?_) (fun c5 => ?_)
        · replace h := iteT c5 h
          refine lv_iload_n hx hb dX2_keeperOf_50 rfl (lv_at hl 2 rfl) ?_
          exact rIretP C hr hd h dX2_keeperOf_51
        · replace h := iteF c5 h
          refine lv_aload_n hx hb dX2_keeperOf_37 rfl (lv_at hl 0 rfl) ?_
          refine gX2_21 C hd dX2_keeperOf_38 ?_
          refine lv_iload_n hx hb dX2_keeperOf_41 rfl (lv_at hl 2 rfl) ?_
          obtain ⟨n6, h⟩ := chk h
          refine ld_wD_11 C hd (inb_i n6) dX2_keeperOf_42 ?_
          obtain ⟨v7, ev7, h⟩ := bnd_e h
          refine rTop ev7 ?_
          refine lv_istore_n (lv' := [(3, .int v7), (0, .ref (ga g 2)), (2, .int x2), (4, .int x4)]) hx hb dX2_keeperOf_43 rfl hl (Nat.le_of_ble_eq_true rfl) rfl (fun ls hl => ?_)
          obtain ⟨v8, ev8, h⟩ := bnd_e h
          refine lv_iinc (v := v8) (lv' := [(4, .int v8), (3, .int v7), (0, .ref (ga g 2)), (2, .int x2)]) hx hb dX2_keeperOf_44 hl (k := 3) rfl ((ii_1 _).trans ev8.symm) (Nat.le_of_ble_eq_true rfl) rfl (fun ls hl => ?_)
          refine lv_goto (tgt := 5) hx hb dX2_keeperOf_47 (by decide) ?_
          exact ih σ x2 v7 v8 h _ _ _ hd (lv_sub hl [2, 3, 1, 0] rfl)
noncomputable def f_X2_keeperOf (F : Nat) (σ : St) (x1 : Int32) (x2 : Int32) : Option Int32 :=
  f_X2_keeperOf_5 F F σ x2 x1 0
set_option maxRecDepth 100000 in
set_option maxHeartbeats 4000000 in
theorem c_X2_keeperOf {l : Launch} {g : Gp} {X : va_W} (hE : E0 g) {F : Nat} {r' : Int32} {σ : St} {x1 : Int32} {x2 : Int32} (h : f_X2_keeperOf F σ x1 x2 = some r') : Ci l g yX2_keeperOf cX2_keeperOf 5 (some .int) 1 [.ref (ga g 2), .int x1, .int x2] (wD g σ ++ X) r' (wD g σ ++ X) := by
  refine rHead hE (by decide +kernel) (Nat.le_of_ble_eq_true rfl) (fun p e s m below meth c C hr _ hd ls hl => ?_)
  have hx := C.1
  have hb := C.2.1
  have hl : lv_has ls 5 [(0, .ref (ga g 2)), (1, .int x1), (2, .int x2)] := hl
  generalize ([.ref (ga g 2), .int x1, .int x2] : List Value).toArray = args at C ⊢
  have C : Cx g p s m args meth c cX2_keeperOf 5 RX2 := C
  rw [f_X2_keeperOf] at h
  refine lv_iload_n hx hb dX2_keeperOf_0 rfl (lv_at hl 1 rfl) ?_
  refine lv_istore_n (lv' := [(3, .int x1), (0, .ref (ga g 2)), (1, .int x1), (2, .int x2)]) hx hb dX2_keeperOf_1 rfl hl (Nat.le_of_ble_eq_true rfl) rfl (fun ls hl => ?_)
  refine lv_iconst (v := 0) hx hb dX2_keeperOf_2 ic_0 ?_
  refine lv_istore (lv' := [(4, .int 0), (3, .int x1), (0, .ref (ga g 2)), (1, .int x1), (2, .int x2)]) hx hb dX2_keeperOf_3 hl (Nat.le_of_ble_eq_true rfl) rfl (fun ls hl => ?_)
  exact w_X2_keeperOf_5 C hr _ σ x2 x1 0 h _ _ _ hd (lv_sub hl [2, 4, 1, 0] rfl)
noncomputable def f_X2_keptPieces_41 (F : Nat) (k_14 : St → Int32 → Int32 → Int32 → Option Int32) (σ : St) (x2 : Int32) (x3 : Int32) (y0 : Int32) (y1 : Int32) : Option Int32 :=
  bnd (y1 + y0) (fun v1 => bnd (x3 + 1) (fun v2 => k_14 σ v1 x2 v2))
set_option maxRecDepth 100000 in
set_option maxHeartbeats 4000000 in
theorem w_X2_keptPieces_41 {F : Nat} {r' : Int32}  (C : Cx g p s m args meth c cX2_keptPieces 4 RX2) (hr : meth.sig.returnType = some .int)
    {k_14 : St → Int32 → Int32 → Int32 → Option Int32} (hk_14 : (∀ (σ : St) (x1 : Int32) (x2 : Int32) (x3 : Int32), k_14 σ x1 x2 x3 = some r' → ∀ (H : Heap) (locs : List Loc) (ls : Array Slot), Dy g (wD g σ ++ X) s H locs → lv_has ls 4 [(0, .ref (ga g 2)), (1, .int x1), (2, .int x2), (3, .int x3)] → W p l e (rmD 0) s m args below meth c H locs 0 0 (QI g below args s (wD g σ ++ X) r') (F0 m 14 ls []))) :
    (∀ (σ : St) (x2 : Int32) (x3 : Int32) (y0 : Int32) (y1 : Int32), f_X2_keptPieces_41 F k_14 σ x2 x3 y0 y1 = some r' → ∀ (H : Heap) (locs : List Loc) (ls : Array Slot), Dy g (wD g σ ++ X) s H locs → lv_has ls 4 [(0, .ref (ga g 2)), (2, .int x2), (3, .int x3)] → W p l e (rmD 0) s m args below meth c H locs 0 0 (QI g below args s (wD g σ ++ X) r') (F0 m 41 ls [.int y0, .int y1])) := by
  have hx := C.1
  have hb := C.2.1
  have hE := C.2.2.2.2.2.2.2.2
  intro σ x2 x3 y0 y1 h H locs ls hd hl
  rw [f_X2_keptPieces_41] at h
  refine lv_iadd hx hb dX2_keptPieces_41 ?_
  obtain ⟨v1, ev1, h⟩ := bnd_e h
  refine rTop ev1 ?_
  refine lv_istore_n (lv' := [(1, .int v1), (0, .ref (ga g 2)), (2, .int x2), (3, .int x3)]) hx hb dX2_keptPieces_42 rfl hl (Nat.le_of_ble_eq_true rfl) rfl (fun ls hl => ?_)
  obtain ⟨v2, ev2, h⟩ := bnd_e h
  refine lv_iinc (v := v2) (lv' := [(3, .int v2), (1, .int v1), (0, .ref (ga g 2)), (2, .int x2)]) hx hb dX2_keptPieces_43 hl (k := 3) rfl ((ii_1 _).trans ev2.symm) (Nat.le_of_ble_eq_true rfl) rfl (fun ls hl => ?_)
  refine lv_goto (tgt := 14) hx hb dX2_keptPieces_46 (by decide) ?_
  exact hk_14 σ v1 x2 v2 h _ _ _ hd (lv_sub hl [2, 1, 3, 0] rfl)
noncomputable def f_X2_keptPieces_14 (F : Nat) (k_4 : St → Int32 → Int32 → Option Int32) : Nat → St → Int32 → Int32 → Int32 → Option Int32
  | 0, _, _, _, _ => none
  | n + 1, σ, x1, x2, x3 => if 120 ≤ x3 then (bnd (x2 + 1) (fun v2 => k_4 σ x1 v2)) else (if inb ((x2 * 120) + x3) 960 = true then if (σ.2.1 18 ((x2 * 120) + x3).toNatClampNeg) < 1 then (f_X2_keptPieces_41 F (f_X2_keptPieces_14 F k_4 n) σ x2 x3 0 x1) else (f_X2_keptPieces_41 F (f_X2_keptPieces_14 F k_4 n) σ x2 x3 1 x1) else none)
set_option maxRecDepth 100000 in
set_option maxHeartbeats 4000000 in
theorem w_X2_keptPieces_14 {F : Nat} {r' : Int32}  (C : Cx g p s m args meth c cX2_keptPieces 4 RX2) (hr : meth.sig.returnType = some .int)
    {k_4 : St → Int32 → Int32 → Option Int32} (hk_4 : (∀ (σ : St) (x1 : Int32) (x2 : Int32), k_4 σ x1 x2 = some r' → ∀ (H : Heap) (locs : List Loc) (ls : Array Slot), Dy g (wD g σ ++ X) s H locs → lv_has ls 4 [(0, .ref (ga g 2)), (1, .int x1), (2, .int x2)] → W p l e (rmD 0) s m args below meth c H locs 0 0 (QI g below args s (wD g σ ++ X) r') (F0 m 4 ls []))) :
    (∀ (n : Nat) (σ : St) (x1 : Int32) (x2 : Int32) (x3 : Int32), f_X2_keptPieces_14 F k_4 n σ x1 x2 x3 = some r' → ∀ (H : Heap) (locs : List Loc) (ls : Array Slot), Dy g (wD g σ ++ X) s H locs → lv_has ls 4 [(0, .ref (ga g 2)), (1, .int x1), (2, .int x2), (3, .int x3)] → W p l e (rmD 0) s m args below meth c H locs 0 0 (QI g below args s (wD g σ ++ X) r') (F0 m 14 ls [])) := by
  have hx := C.1
  have hb := C.2.1
  have hE := C.2.2.2.2.2.2.2.2
  intro n
  induction n with
  | zero =>
    intro σ x1 x2 x3 h
    cases h
  | succ n ih =>
    intro σ x1 x2 x3 h H locs ls hd hl
    rw [f_X2_keptPieces_14] at h
    refine lv_iload_n hx hb dX2_keptPieces_14 rfl (lv_at hl 3 rfl) ?_
    refine lv_bipush (v := 120) hx hb dX2_keptPieces_15 bi_120 ?_
    refine lv_icmp_ge (tgt := 49) hx hb dX2_keptPieces_17 (by decide) (fun c1 => ?_) (fun c1 => ?_)
    · replace h := iteT c1 h
      obtain ⟨v2, ev2, h⟩ := bnd_e h
      refine lv_iinc (v := v2) (lv' := [(2, .int v2), (0, .ref (ga g 2)), (1, .int x1), (3, .int x3)]) hx hb dX2_keptPieces_49 hl (k := 2) rfl ((ii_1 _).trans ev2.symm) (Nat.le_of_ble_eq_true rfl) rfl (fun ls hl => ?_)
      refine lv_goto (tgt := 4) hx hb dX2_keptPieces_52 (by decide) ?_
      exact hk_4 σ x1 v2 h _ _ _ hd (lv_sub hl [1, 2, 0] rfl)
    · replace h := iteF c1 h
      refine lv_iload_n hx hb dX2_keptPieces_20 rfl (lv_at hl 1 rfl) ?_
      refine lv_aload_n hx hb dX2_keptPieces_21 rfl (lv_at hl 0 rfl) ?_
      refine gX2_44 C hd dX2_keptPieces_22 ?_
      refine lv_iload_n hx hb dX2_keptPieces_25 rfl (lv_at hl 2 rfl) ?_
      refine lv_bipush (v := 120) hx hb dX2_keptPieces_26 bi_120 ?_
      refine lv_imul hx hb dX2_keptPieces_28 ?_
      refine lv_iload_n hx hb dX2_keptPieces_29 rfl (lv_at hl 3 rfl) ?_
      refine lv_iadd hx hb dX2_keptPieces_30 ?_
      obtain ⟨n3, h⟩ := chk h
      refine ld_wD_18 C hd (inb_i n3) dX2_keptPieces_31 ?_
      refine lv_iconst (v := 1) hx hb dX2_keptPieces_32 ic_1 ?_
      refine lv_icmp_lt (tgt := 40) hx hb dX2_keptPieces_33 (by decide) (fun c4 => ?_) (fun c4 => ?_)
      · replace h := iteT c4 h
        refine lv_iconst (v := 0) hx hb dX2_keptPieces_40 ic_0 ?_
        exact w_X2_keptPieces_41 C hr ih σ x2 x3 0 x1 h _ _ _ hd (lv_sub hl [0, 2, 3] rfl)
      · replace h := iteF c4 h
        refine lv_iconst (v := 1) hx hb dX2_keptPieces_36 ic_1 ?_
        refine lv_goto (tgt := 41) hx hb dX2_keptPieces_37 (by decide) ?_
        exact w_X2_keptPieces_41 C hr ih σ x2 x3 1 x1 h _ _ _ hd (lv_sub hl [0, 2, 3] rfl)
noncomputable def f_X2_keptPieces_4 (F : Nat) : Nat → St → Int32 → Int32 → Option Int32
  | 0, _, _, _ => none
  | n + 1, σ, x1, x2 => if (σ.1 6) ≤ x2 then (some x1) else (f_X2_keptPieces_14 F (f_X2_keptPieces_4 F n) F σ x1 x2 0)
set_option maxRecDepth 100000 in
set_option maxHeartbeats 4000000 in
theorem w_X2_keptPieces_4 {F : Nat} {r' : Int32}  (C : Cx g p s m args meth c cX2_keptPieces 4 RX2) (hr : meth.sig.returnType = some .int) :
    (∀ (n : Nat) (σ : St) (x1 : Int32) (x2 : Int32), f_X2_keptPieces_4 F n σ x1 x2 = some r' → ∀ (H : Heap) (locs : List Loc) (ls : Array Slot), Dy g (wD g σ ++ X) s H locs → lv_has ls 4 [(0, .ref (ga g 2)), (1, .int x1), (2, .int x2)] → W p l e (rmD 0) s m args below meth c H locs 0 0 (QI g below args s (wD g σ ++ X) r') (F0 m 4 ls [])) := by
  have hx := C.1
  have hb := C.2.1
  have hE := C.2.2.2.2.2.2.2.2
  intro n
  induction n with
  | zero =>
    intro σ x1 x2 h
    cases h
  | succ n ih =>
    intro σ x1 x2 h H locs ls hd hl
    rw [f_X2_keptPieces_4] at h
    refine lv_iload_n hx hb dX2_keptPieces_4 rfl (lv_at hl 2 rfl) ?_
    refine lv_aload_n hx hb dX2_keptPieces_5 rfl (lv_at hl 0 rfl) ?_
    refine gX2_15 C hd dX2_keptPieces_6 ?_
    refine lv_icmp_ge (tgt := 55) hx hb dX2_keptPieces_9 (by decide) (fun c1 => ?_) (fun c1 => ?_)
    · replace h := iteT c1 h
      refine lv_iload_n hx hb dX2_keptPieces_55 rfl (lv_at hl 1 rfl) ?_
      exact rIretP C hr hd h dX2_keptPieces_56
    · replace h := iteF c1 h
      refine lv_iconst (v := 0) hx hb dX2_keptPieces_12 ic_0 ?_
      refine lv_istore_n (lv' := [(3, .int 0), (0, .ref (ga g 2)), (1, .int x1), (2, .int x2)]) hx hb dX2_keptPieces_13 rfl hl (Nat.le_of_ble_eq_true rfl) rfl (fun ls hl => ?_)
      exact w_X2_keptPieces_14 C hr ih _ σ x1 x2 0 h _ _ _ hd (lv_sub hl [1, 2, 3, 0] rfl)
noncomputable def f_X2_keptPieces (F : Nat) (σ : St) : Option Int32 :=
  f_X2_keptPieces_4 F F σ 0 0
set_option maxRecDepth 100000 in
set_option maxHeartbeats 4000000 in
theorem c_X2_keptPieces {l : Launch} {g : Gp} {X : va_W} (hE : E0 g) {F : Nat} {r' : Int32} {σ : St} (h : f_X2_keptPieces F σ = some r') : Ci l g yX2_keptPieces cX2_keptPieces 4 (some .int) 0 [.ref (ga g 2)] (wD g σ ++ X) r' (wD g σ ++ X) := by
  refine rHead hE (by decide +kernel) (Nat.le_of_ble_eq_true rfl) (fun p e s m below meth c C hr _ hd ls hl => ?_)
  have hx := C.1
  have hb := C.2.1
  have hl : lv_has ls 4 [(0, .ref (ga g 2))] := hl
  generalize ([.ref (ga g 2)] : List Value).toArray = args at C ⊢
  have C : Cx g p s m args meth c cX2_keptPieces 4 RX2 := C
  rw [f_X2_keptPieces] at h
  refine lv_iconst (v := 0) hx hb dX2_keptPieces_0 ic_0 ?_
  refine lv_istore_n (lv' := [(1, .int 0), (0, .ref (ga g 2))]) hx hb dX2_keptPieces_1 rfl hl (Nat.le_of_ble_eq_true rfl) rfl (fun ls hl => ?_)
  refine lv_iconst (v := 0) hx hb dX2_keptPieces_2 ic_0 ?_
  refine lv_istore_n (lv' := [(2, .int 0), (1, .int 0), (0, .ref (ga g 2))]) hx hb dX2_keptPieces_3 rfl hl (Nat.le_of_ble_eq_true rfl) rfl (fun ls hl => ?_)
  exact w_X2_keptPieces_4 C hr _ σ 0 0 h _ _ _ hd (lv_sub hl [2, 1, 0] rfl)
noncomputable def f_X2_lastChange_11 (F : Nat) : Nat → St → Int32 → Int32 → Int32 → Option Int32
  | 0, _, _, _, _ => none
  | n + 1, σ, x1, x2, x4 => if x4 ≤ 0 then (some (mx x4 0)) else (cal (f_X2_changedAt F σ x2 x4) (fun r2 => if r2 = x1 then (some (mx x4 0)) else (bnd (x4 + (-1 : Int32)) (fun v4 => f_X2_lastChange_11 F n σ x1 x2 v4))))
set_option maxRecDepth 100000 in
set_option maxHeartbeats 4000000 in
theorem w_X2_lastChange_11 {F : Nat} {r' : Int32}  (C : Cx g p s m args meth c cX2_lastChange 5 RX2) (hr : meth.sig.returnType = some .int) :
    (∀ (n : Nat) (σ : St) (x1 : Int32) (x2 : Int32) (x4 : Int32), f_X2_lastChange_11 F n σ x1 x2 x4 = some r' → ∀ (H : Heap) (locs : List Loc) (ls : Array Slot), Dy g (wD g σ ++ X) s H locs → lv_has ls 5 [(0, .ref (ga g 2)), (1, .int x1), (2, .int x2), (4, .int x4)] → W p l e (rmD 2) s m args below meth c H locs 0 0 (QI g below args s (wD g σ ++ X) r') (F0 m 11 ls [])) := by
  have hx := C.1
  have hb := C.2.1
  have hE := C.2.2.2.2.2.2.2.2
  intro n
  induction n with
  | zero =>
    intro σ x1 x2 x4 h
    cases h
  | succ n ih =>
    intro σ x1 x2 x4 h H locs ls hd hl
    rw [f_X2_lastChange_11] at h
    refine lv_iload hx hb dX2_lastChange_11 (lv_at hl 3 rfl) ?_
    refine lv_if_le (tgt := 33) hx hb dX2_lastChange_13 (by decide) (fun c1 => ?_) (fun c1 => ?_)
    · replace h := iteT c1 h
      refine lv_iload hx hb dX2_lastChange_33 (lv_at hl 3 rfl) ?_
      refine lv_iconst (v := 0) hx hb dX2_lastChange_35 ic_0 ?_
      refine rMax C hl.1 (mT 1171 (by decide +kernel)) (mT 467 (by decide +kernel)) (mT 14 (by decide +kernel)) (mT 468 (by decide +kernel)) ⟨(Nat.le_of_ble_eq_true rfl), (Nat.le_of_ble_eq_true rfl)⟩ ⟨Nat.le_refl _, Nat.le_refl _⟩ dX2_lastChange_36 ?_
      exact rIretP C hr hd h dX2_lastChange_39
    · replace h := iteF c1 h
      refine lv_aload_n hx hb dX2_lastChange_16 rfl (lv_at hl 0 rfl) ?_
      refine lv_iload_n hx hb dX2_lastChange_17 rfl (lv_at hl 2 rfl) ?_
      refine lv_iload hx hb dX2_lastChange_18 (lv_at hl 3 rfl) ?_
      obtain ⟨r2, er2, h⟩ := cal_e h
      refine rCallI C hd (c_X2_changedAt hE er2) kX2_94 2 rfl rfl rfl rfl hl.1 rfl (Nat.le_of_ble_eq_true rfl) ⟨(Nat.le_of_ble_eq_true rfl), (Nat.le_of_ble_eq_true rfl)⟩ ⟨Nat.le_refl _, Nat.le_refl _⟩ dX2_lastChange_20 (fun H locs hd => ?_)
      refine lv_iload_n hx hb dX2_lastChange_23 rfl (lv_at hl 1 rfl) ?_
      refine lv_icmp_eq (tgt := 33) hx hb dX2_lastChange_24 (by decide) (fun c3 => ?_) (fun c3 => ?_)
      · replace h := iteT c3 h
        refine lv_iload hx hb dX2_lastChange_33 (lv_at hl 3 rfl) ?_
        refine lv_iconst (v := 0) hx hb dX2_lastChange_35 ic_0 ?_
        refine rMax C hl.1 (mT 1171 (by decide +kernel)) (mT 467 (by decide +kernel)) (mT 14 (by decide +kernel)) (mT 468 (by decide +kernel)) ⟨(Nat.le_of_ble_eq_true rfl), (Nat.le_of_ble_eq_true rfl)⟩ ⟨Nat.le_refl _, Nat.le_refl _⟩ dX2_lastChange_36 ?_
        exact rIretP C hr hd h dX2_lastChange_39
      · replace h := iteF c3 h
        obtain ⟨v4, ev4, h⟩ := bnd_e h
        refine lv_iinc (v := v4) (lv' := [(4, .int v4), (0, .ref (ga g 2)), (1, .int x1), (2, .int x2)]) hx hb dX2_lastChange_27 hl (k := 3) rfl ((ii_m1 _).trans ev4.symm) (Nat.le_of_ble_eq_true rfl) rfl (fun ls hl => ?_)
        refine lv_goto (tgt := 11) hx hb dX2_lastChange_30 (by decide) ?_
        exact ih σ x1 x2 v4 h _ _ _ hd (lv_sub hl [1, 2, 3, 0] rfl)
noncomputable def f_X2_lastChange (F : Nat) (σ : St) (x1 : Int32) (x2 : Int32) (x3 : Int32) : Option Int32 :=
  cal (f_X2_tipOf F σ x2) (fun r1 => bnd (mn x3 r1) (fun v2 => f_X2_lastChange_11 F F σ x1 x2 v2))
set_option maxRecDepth 100000 in
set_option maxHeartbeats 4000000 in
theorem c_X2_lastChange {l : Launch} {g : Gp} {X : va_W} (hE : E0 g) {F : Nat} {r' : Int32} {σ : St} {x1 : Int32} {x2 : Int32} {x3 : Int32} (h : f_X2_lastChange F σ x1 x2 x3 = some r') : Ci l g yX2_lastChange cX2_lastChange 5 (some .int) 2 [.ref (ga g 2), .int x1, .int x2, .int x3] (wD g σ ++ X) r' (wD g σ ++ X) := by
  refine rHead hE (by decide +kernel) (Nat.le_of_ble_eq_true rfl) (fun p e s m below meth c C hr _ hd ls hl => ?_)
  have hx := C.1
  have hb := C.2.1
  have hl : lv_has ls 5 [(0, .ref (ga g 2)), (1, .int x1), (2, .int x2), (3, .int x3)] := hl
  generalize ([.ref (ga g 2), .int x1, .int x2, .int x3] : List Value).toArray = args at C ⊢
  have C : Cx g p s m args meth c cX2_lastChange 5 RX2 := C
  rw [f_X2_lastChange] at h
  refine lv_iload_n hx hb dX2_lastChange_0 rfl (lv_at hl 3 rfl) ?_
  refine lv_aload_n hx hb dX2_lastChange_1 rfl (lv_at hl 0 rfl) ?_
  refine lv_iload_n hx hb dX2_lastChange_2 rfl (lv_at hl 2 rfl) ?_
  obtain ⟨r1, er1, h⟩ := cal_e h
  refine rCallI C hd (c_X2_tipOf hE er1) kX2_86 2 rfl rfl rfl rfl hl.1 rfl (Nat.le_of_ble_eq_true rfl) ⟨(Nat.le_of_ble_eq_true rfl), (Nat.le_of_ble_eq_true rfl)⟩ ⟨Nat.le_refl _, Nat.le_refl _⟩ dX2_lastChange_3 (fun H locs hd => ?_)
  refine rMin C hl.1 (mT 725 (by decide +kernel)) (mT 380 (by decide +kernel)) (mT 14 (by decide +kernel)) (mT 381 (by decide +kernel)) ⟨(Nat.le_of_ble_eq_true rfl), (Nat.le_of_ble_eq_true rfl)⟩ ⟨Nat.le_refl _, Nat.le_refl _⟩ dX2_lastChange_6 ?_
  obtain ⟨v2, ev2, h⟩ := bnd_e h
  refine rTop ev2 ?_
  refine lv_istore (lv' := [(4, .int v2), (0, .ref (ga g 2)), (1, .int x1), (2, .int x2), (3, .int x3)]) hx hb dX2_lastChange_9 hl (Nat.le_of_ble_eq_true rfl) rfl (fun ls hl => ?_)
  exact w_X2_lastChange_11 C hr _ σ x1 x2 v2 h _ _ _ hd (lv_sub hl [1, 2, 3, 0] rfl)
noncomputable def f_X2_leadsTo_6 (F : Nat) : Nat → St → Int32 → Int32 → Int32 → Int32 → Option Int32
  | 0, _, _, _, _, _ => none
  | n + 1, σ, x2, x3, x4, x5 => if 8 ≤ x5 then (if x4 = x2 then (some 1) else (some 0)) else (if x4 = x2 then (if x4 = x2 then (some 1) else (some 0)) else (if x4 ≤ 0 then (some 0) else (if (σ.1 6) ≤ x4 then (some 0) else (if inb x4 8 = true then if x3 ≤ (σ.2.1 12 x4.toNatClampNeg) then (if inb x4 8 = true then bnd (σ.2.1 11 x4.toNatClampNeg) (fun v10 => bnd (x5 + 1) (fun v11 => f_X2_leadsTo_6 F n σ x2 x3 v10 v11)) else none) else (some 0) else none))))
set_option maxRecDepth 100000 in
set_option maxHeartbeats 4000000 in
theorem w_X2_leadsTo_6 {F : Nat} {r' : Int32}  (C : Cx g p s m args meth c cX2_leadsTo 6 RX2) (hr : meth.sig.returnType = some .boolean) :
    (∀ (n : Nat) (σ : St) (x2 : Int32) (x3 : Int32) (x4 : Int32) (x5 : Int32), f_X2_leadsTo_6 F n σ x2 x3 x4 x5 = some r' → ∀ (H : Heap) (locs : List Loc) (ls : Array Slot), Dy g (wD g σ ++ X) s H locs → lv_has ls 6 [(0, .ref (ga g 2)), (2, .int x2), (3, .int x3), (4, .int x4), (5, .int x5)] → W p l e (rmD 0) s m args below meth c H locs 0 0 (QI g below args s (wD g σ ++ X) r') (F0 m 6 ls [])) := by
  have hx := C.1
  have hb := C.2.1
  have hE := C.2.2.2.2.2.2.2.2
  intro n
  induction n with
  | zero =>
    intro σ x2 x3 x4 x5 h
    cases h
  | succ n ih =>
    intro σ x2 x3 x4 x5 h H locs ls hd hl
    rw [f_X2_leadsTo_6] at h
    refine lv_iload hx hb dX2_leadsTo_6 (lv_at hl 4 rfl) ?_
    refine lv_bipush (v := 8) hx hb dX2_leadsTo_8 bi_8 ?_
    refine lv_icmp_ge (tgt := 61) hx hb dX2_leadsTo_10 (by decide) (fun c1 => ?_) (fun c1 => ?_)
    · replace h := iteT c1 h
      refine lv_iload hx hb dX2_leadsTo_61 (lv_at hl 3 rfl) ?_
      refine lv_iload_n hx hb dX2_leadsTo_63 rfl (lv_at hl 1 rfl) ?_
      refine lv_icmp_ne (tgt := 71) hx hb dX2_leadsTo_64 (by decide) (fun c2 => ?_) (fun c2 => ?_)
      · replace h := iteF c2 h
        refine lv_iconst (v := 0) hx hb dX2_leadsTo_71 ic_0 ?_
        exact rZretP C hr hd h (by decide) dX2_leadsTo_72
      · replace h := iteT c2 h
        refine lv_iconst (v := 1) hx hb dX2_leadsTo_67 ic_1 ?_
        refine lv_goto (tgt := 72) hx hb dX2_leadsTo_68 (by decide) ?_
        exact rZretP C hr hd h (by decide) dX2_leadsTo_72
    · replace h := iteF c1 h
      refine lv_iload hx hb dX2_leadsTo_13 (lv_at hl 3 rfl) ?_
      refine lv_iload_n hx hb dX2_leadsTo_15 rfl (lv_at hl 1 rfl) ?_
      refine lv_icmp_eq (tgt := 61) hx hb dX2_leadsTo_16 (by decide) (fun c3 => ?_) (fun c3 => ?_)
      · replace h := iteT c3 h
        refine lv_iload hx hb dX2_leadsTo_61 (lv_at hl 3 rfl) ?_
        refine lv_iload_n hx hb dX2_leadsTo_63 rfl (lv_at hl 1 rfl) ?_
        refine lv_icmp_ne (tgt := 71) hx hb dX2_leadsTo_64 (by decide) (fun c4 => ?_) (fun c4 => ?_)
        · replace h := iteF c4 h
          refine lv_iconst (v := 0) hx hb dX2_leadsTo_71 ic_0 ?_
          exact rZretP C hr hd h (by decide) dX2_leadsTo_72
        · replace h := iteT c4 h
          refine lv_iconst (v := 1) hx hb dX2_leadsTo_67 ic_1 ?_
          refine lv_goto (tgt := 72) hx hb dX2_leadsTo_68 (by decide) ?_
          exact rZretP C hr hd h (by decide) dX2_leadsTo_72
      · replace h := iteF c3 h
        refine lv_iload hx hb dX2_leadsTo_19 (lv_at hl 3 rfl) ?_
        refine lv_if_le (tgt := 44) hx hb dX2_leadsTo_21 (by decide) (fun c5 => ?_) (fun c5 => ?_)
        · replace h := iteT c5 h
          refine lv_iconst (v := 0) hx hb dX2_leadsTo_44 ic_0 ?_
          exact rZretP C hr hd h (by decide) dX2_leadsTo_45
        · replace h := iteF c5 h
          refine lv_iload hx hb dX2_leadsTo_24 (lv_at hl 3 rfl) ?_
          refine lv_aload_n hx hb dX2_leadsTo_26 rfl (lv_at hl 0 rfl) ?_
          refine gX2_15 C hd dX2_leadsTo_27 ?_
          refine lv_icmp_ge (tgt := 44) hx hb dX2_leadsTo_30 (by decide) (fun c6 => ?_) (fun c6 => ?_)
          · replace h := iteT c6 h
            refine lv_iconst (v := 0) hx hb dX2_leadsTo_44 ic_0 ?_
            exact rZretP C hr hd h (by decide) dX2_leadsTo_45
          · replace h := iteF c6 h
            refine lv_iload_n hx hb dX2_leadsTo_33 rfl (lv_at hl 2 rfl) ?_
            refine lv_aload_n hx hb dX2_leadsTo_34 rfl (lv_at hl 0 rfl) ?_
            refine gX2_25 C hd dX2_leadsTo_35 ?_
            refine lv_iload hx hb dX2_leadsTo_38 (lv_at hl 3 rfl) ?_
            obtain ⟨n7, h⟩ := chk h
            refine ld_wD_12 C hd (inb_i n7) dX2_leadsTo_40 ?_
            refine lv_icmp_le (tgt := 46) hx hb dX2_leadsTo_41 (by decide) (fun c8 => ?_) (fun c8 => ?_)
            · replace h := iteT c8 h
              refine lv_aload_n hx hb dX2_leadsTo_46 rfl (lv_at hl 0 rfl) ?_
              refine gX2_21 C hd dX2_leadsTo_47 ?_
              refine lv_iload hx hb dX2_leadsTo_50 (lv_at hl 3 rfl) ?_
              obtain ⟨n9, h⟩ := chk h
              refine ld_wD_11 C hd (inb_i n9) dX2_leadsTo_52 ?_
              obtain ⟨v10, ev10, h⟩ := bnd_e h
              refine rTop ev10 ?_
              refine lv_istore (lv' := [(4, .int v10), (0, .ref (ga g 2)), (2, .int x2), (3, .int x3), (5, .int x5)]) hx hb dX2_leadsTo_53 hl (Nat.le_of_ble_eq_true rfl) rfl (fun ls hl => ?_)
              obtain ⟨v11, ev11, h⟩ := bnd_e h
              refine lv_iinc (v := v11) (lv' := [(5, .int v11), (4, .int v10), (0, .ref (ga g 2)), (2, .int x2), (3, .int x3)]) hx hb dX2_leadsTo_55 hl (k := 4) rfl ((ii_1 _).trans ev11.symm) (Nat.le_of_ble_eq_true rfl) rfl (fun ls hl => ?_)
              refine lv_goto (tgt := 6) hx hb dX2_leadsTo_58 (by decide) ?_
              exact ih σ x2 x3 v10 v11 h _ _ _ hd (lv_sub hl [2, 3, 4, 1, 0] rfl)
            · replace h := iteF c8 h
              refine lv_iconst (v := 0) hx hb dX2_leadsTo_44 ic_0 ?_
              exact rZretP C hr hd h (by decide) dX2_leadsTo_45
noncomputable def f_X2_leadsTo (F : Nat) (σ : St) (x1 : Int32) (x2 : Int32) (x3 : Int32) : Option Int32 :=
  f_X2_leadsTo_6 F F σ x2 x3 x1 0
set_option maxRecDepth 100000 in
set_option maxHeartbeats 4000000 in
theorem c_X2_leadsTo {l : Launch} {g : Gp} {X : va_W} (hE : E0 g) {F : Nat} {r' : Int32} {σ : St} {x1 : Int32} {x2 : Int32} {x3 : Int32} (h : f_X2_leadsTo F σ x1 x2 x3 = some r') : Ci l g yX2_leadsTo cX2_leadsTo 6 (some .boolean) 0 [.ref (ga g 2), .int x1, .int x2, .int x3] (wD g σ ++ X) r' (wD g σ ++ X) := by
  refine rHead hE (by decide +kernel) (Nat.le_of_ble_eq_true rfl) (fun p e s m below meth c C hr _ hd ls hl => ?_)
  have hx := C.1
  have hb := C.2.1
  have hl : lv_has ls 6 [(0, .ref (ga g 2)), (1, .int x1), (2, .int x2), (3, .int x3)] := hl
  generalize ([.ref (ga g 2), .int x1, .int x2, .int x3] : List Value).toArray = args at C ⊢
  have C : Cx g p s m args meth c cX2_leadsTo 6 RX2 := C
  rw [f_X2_leadsTo] at h
  refine lv_iload_n hx hb dX2_leadsTo_0 rfl (lv_at hl 1 rfl) ?_
  refine lv_istore (lv' := [(4, .int x1), (0, .ref (ga g 2)), (1, .int x1), (2, .int x2), (3, .int x3)]) hx hb dX2_leadsTo_1 hl (Nat.le_of_ble_eq_true rfl) rfl (fun ls hl => ?_)
  refine lv_iconst (v := 0) hx hb dX2_leadsTo_3 ic_0 ?_
  refine lv_istore (lv' := [(5, .int 0), (4, .int x1), (0, .ref (ga g 2)), (1, .int x1), (2, .int x2), (3, .int x3)]) hx hb dX2_leadsTo_4 hl (Nat.le_of_ble_eq_true rfl) rfl (fun ls hl => ?_)
  exact w_X2_leadsTo_6 C hr _ σ x2 x3 x1 0 h _ _ _ hd (lv_sub hl [2, 4, 5, 1, 0] rfl)
noncomputable def f_X2_lineOfRow_7 (F : Nat) : Nat → St → Int32 → Int32 → Option Int32
  | 0, _, _, _ => none
  | n + 1, σ, x1, x2 => if x2 ≤ 0 then (some x2) else (if inb x2 8 = true then if (σ.2.1 14 x2.toNatClampNeg) ≤ x1 then (some x2) else (bnd (x2 + (-1 : Int32)) (fun v4 => f_X2_lineOfRow_7 F n σ x1 v4)) else none)
set_option maxRecDepth 100000 in
set_option maxHeartbeats 4000000 in
theorem w_X2_lineOfRow_7 {F : Nat} {r' : Int32}  (C : Cx g p s m args meth c cX2_lineOfRow 3 RX2) (hr : meth.sig.returnType = some .int) :
    (∀ (n : Nat) (σ : St) (x1 : Int32) (x2 : Int32), f_X2_lineOfRow_7 F n σ x1 x2 = some r' → ∀ (H : Heap) (locs : List Loc) (ls : Array Slot), Dy g (wD g σ ++ X) s H locs → lv_has ls 3 [(0, .ref (ga g 2)), (1, .int x1), (2, .int x2)] → W p l e (rmD 0) s m args below meth c H locs 0 0 (QI g below args s (wD g σ ++ X) r') (F0 m 7 ls [])) := by
  have hx := C.1
  have hb := C.2.1
  have hE := C.2.2.2.2.2.2.2.2
  intro n
  induction n with
  | zero =>
    intro σ x1 x2 h
    cases h
  | succ n ih =>
    intro σ x1 x2 h H locs ls hd hl
    rw [f_X2_lineOfRow_7] at h
    refine lv_iload_n hx hb dX2_lineOfRow_7 rfl (lv_at hl 2 rfl) ?_
    refine lv_if_le (tgt := 27) hx hb dX2_lineOfRow_8 (by decide) (fun c1 => ?_) (fun c1 => ?_)
    · replace h := iteT c1 h
      refine lv_iload_n hx hb dX2_lineOfRow_27 rfl (lv_at hl 2 rfl) ?_
      exact rIretP C hr hd h dX2_lineOfRow_28
    · replace h := iteF c1 h
      refine lv_iload_n hx hb dX2_lineOfRow_11 rfl (lv_at hl 1 rfl) ?_
      refine lv_aload_n hx hb dX2_lineOfRow_12 rfl (lv_at hl 0 rfl) ?_
      refine gX2_31 C hd dX2_lineOfRow_13 ?_
      refine lv_iload_n hx hb dX2_lineOfRow_16 rfl (lv_at hl 2 rfl) ?_
      obtain ⟨n2, h⟩ := chk h
      refine ld_wD_14 C hd (inb_i n2) dX2_lineOfRow_17 ?_
      refine lv_icmp_ge (tgt := 27) hx hb dX2_lineOfRow_18 (by decide) (fun c3 => ?_) (fun c3 => ?_)
      · replace h := iteT c3 h
        refine lv_iload_n hx hb dX2_lineOfRow_27 rfl (lv_at hl 2 rfl) ?_
        exact rIretP C hr hd h dX2_lineOfRow_28
      · replace h := iteF c3 h
        obtain ⟨v4, ev4, h⟩ := bnd_e h
        refine lv_iinc (v := v4) (lv' := [(2, .int v4), (0, .ref (ga g 2)), (1, .int x1)]) hx hb dX2_lineOfRow_21 hl (k := 2) rfl ((ii_m1 _).trans ev4.symm) (Nat.le_of_ble_eq_true rfl) rfl (fun ls hl => ?_)
        refine lv_goto (tgt := 7) hx hb dX2_lineOfRow_24 (by decide) ?_
        exact ih σ x1 v4 h _ _ _ hd (lv_sub hl [1, 2, 0] rfl)
noncomputable def f_X2_lineOfRow (F : Nat) (σ : St) (x1 : Int32) : Option Int32 :=
  bnd ((σ.1 6) - 1) (fun v1 => f_X2_lineOfRow_7 F F σ x1 v1)
set_option maxRecDepth 100000 in
set_option maxHeartbeats 4000000 in
theorem c_X2_lineOfRow {l : Launch} {g : Gp} {X : va_W} (hE : E0 g) {F : Nat} {r' : Int32} {σ : St} {x1 : Int32} (h : f_X2_lineOfRow F σ x1 = some r') : Ci l g yX2_lineOfRow cX2_lineOfRow 3 (some .int) 0 [.ref (ga g 2), .int x1] (wD g σ ++ X) r' (wD g σ ++ X) := by
  refine rHead hE (by decide +kernel) (Nat.le_of_ble_eq_true rfl) (fun p e s m below meth c C hr _ hd ls hl => ?_)
  have hx := C.1
  have hb := C.2.1
  have hl : lv_has ls 3 [(0, .ref (ga g 2)), (1, .int x1)] := hl
  generalize ([.ref (ga g 2), .int x1] : List Value).toArray = args at C ⊢
  have C : Cx g p s m args meth c cX2_lineOfRow 3 RX2 := C
  rw [f_X2_lineOfRow] at h
  refine lv_aload_n hx hb dX2_lineOfRow_0 rfl (lv_at hl 0 rfl) ?_
  refine gX2_15 C hd dX2_lineOfRow_1 ?_
  refine lv_iconst (v := 1) hx hb dX2_lineOfRow_4 ic_1 ?_
  refine lv_isub hx hb dX2_lineOfRow_5 ?_
  obtain ⟨v1, ev1, h⟩ := bnd_e h
  refine rTop ev1 ?_
  refine lv_istore_n (lv' := [(2, .int v1), (0, .ref (ga g 2)), (1, .int x1)]) hx hb dX2_lineOfRow_6 rfl hl (Nat.le_of_ble_eq_true rfl) rfl (fun ls hl => ?_)
  exact w_X2_lineOfRow_7 C hr _ σ x1 v1 h _ _ _ hd (lv_sub hl [1, 2, 0] rfl)
noncomputable def f_X2_marks_28 (F : Nat) (k_4 : St → Int32 → Int32 → Option Int32) (σ : St) (x2 : Int32) (y0 : Int32) (y1 : Int32) : Option Int32 :=
  bnd (y1 + y0) (fun v1 => bnd (x2 + 1) (fun v2 => k_4 σ v1 v2))
set_option maxRecDepth 100000 in
set_option maxHeartbeats 4000000 in
theorem w_X2_marks_28 {F : Nat} {r' : Int32}  (C : Cx g p s m args meth c cX2_marks 3 RX2) (hr : meth.sig.returnType = some .int)
    {k_4 : St → Int32 → Int32 → Option Int32} (hk_4 : (∀ (σ : St) (x1 : Int32) (x2 : Int32), k_4 σ x1 x2 = some r' → ∀ (H : Heap) (locs : List Loc) (ls : Array Slot), Dy g (wD g σ ++ X) s H locs → lv_has ls 3 [(0, .ref (ga g 2)), (1, .int x1), (2, .int x2)] → W p l e (rmD 0) s m args below meth c H locs 0 0 (QI g below args s (wD g σ ++ X) r') (F0 m 4 ls []))) :
    (∀ (σ : St) (x2 : Int32) (y0 : Int32) (y1 : Int32), f_X2_marks_28 F k_4 σ x2 y0 y1 = some r' → ∀ (H : Heap) (locs : List Loc) (ls : Array Slot), Dy g (wD g σ ++ X) s H locs → lv_has ls 3 [(0, .ref (ga g 2)), (2, .int x2)] → W p l e (rmD 0) s m args below meth c H locs 0 0 (QI g below args s (wD g σ ++ X) r') (F0 m 28 ls [.int y0, .int y1])) := by
  have hx := C.1
  have hb := C.2.1
  have hE := C.2.2.2.2.2.2.2.2
  intro σ x2 y0 y1 h H locs ls hd hl
  rw [f_X2_marks_28] at h
  refine lv_iadd hx hb dX2_marks_28 ?_
  obtain ⟨v1, ev1, h⟩ := bnd_e h
  refine rTop ev1 ?_
  refine lv_istore_n (lv' := [(1, .int v1), (0, .ref (ga g 2)), (2, .int x2)]) hx hb dX2_marks_29 rfl hl (Nat.le_of_ble_eq_true rfl) rfl (fun ls hl => ?_)
  obtain ⟨v2, ev2, h⟩ := bnd_e h
  refine lv_iinc (v := v2) (lv' := [(2, .int v2), (1, .int v1), (0, .ref (ga g 2))]) hx hb dX2_marks_30 hl (k := 2) rfl ((ii_1 _).trans ev2.symm) (Nat.le_of_ble_eq_true rfl) rfl (fun ls hl => ?_)
  refine lv_goto (tgt := 4) hx hb dX2_marks_33 (by decide) ?_
  exact hk_4 σ v1 v2 h _ _ _ hd (lv_sub hl [2, 1, 0] rfl)
noncomputable def f_X2_marks_4 (F : Nat) : Nat → St → Int32 → Int32 → Option Int32
  | 0, _, _, _ => none
  | n + 1, σ, x1, x2 => if (σ.1 7) ≤ x2 then (some x1) else (if inb x2 600 = true then if (σ.2.1 15 x2.toNatClampNeg) = 2 then (f_X2_marks_28 F (f_X2_marks_4 F n) σ x2 1 x1) else (f_X2_marks_28 F (f_X2_marks_4 F n) σ x2 0 x1) else none)
set_option maxRecDepth 100000 in
set_option maxHeartbeats 4000000 in
theorem w_X2_marks_4 {F : Nat} {r' : Int32}  (C : Cx g p s m args meth c cX2_marks 3 RX2) (hr : meth.sig.returnType = some .int) :
    (∀ (n : Nat) (σ : St) (x1 : Int32) (x2 : Int32), f_X2_marks_4 F n σ x1 x2 = some r' → ∀ (H : Heap) (locs : List Loc) (ls : Array Slot), Dy g (wD g σ ++ X) s H locs → lv_has ls 3 [(0, .ref (ga g 2)), (1, .int x1), (2, .int x2)] → W p l e (rmD 0) s m args below meth c H locs 0 0 (QI g below args s (wD g σ ++ X) r') (F0 m 4 ls [])) := by
  have hx := C.1
  have hb := C.2.1
  have hE := C.2.2.2.2.2.2.2.2
  intro n
  induction n with
  | zero =>
    intro σ x1 x2 h
    cases h
  | succ n ih =>
    intro σ x1 x2 h H locs ls hd hl
    rw [f_X2_marks_4] at h
    refine lv_iload_n hx hb dX2_marks_4 rfl (lv_at hl 2 rfl) ?_
    refine lv_aload_n hx hb dX2_marks_5 rfl (lv_at hl 0 rfl) ?_
    refine gX2_18 C hd dX2_marks_6 ?_
    refine lv_icmp_ge (tgt := 36) hx hb dX2_marks_9 (by decide) (fun c1 => ?_) (fun c1 => ?_)
    · replace h := iteT c1 h
      refine lv_iload_n hx hb dX2_marks_36 rfl (lv_at hl 1 rfl) ?_
      exact rIretP C hr hd h dX2_marks_37
    · replace h := iteF c1 h
      refine lv_iload_n hx hb dX2_marks_12 rfl (lv_at hl 1 rfl) ?_
      refine lv_aload_n hx hb dX2_marks_13 rfl (lv_at hl 0 rfl) ?_
      refine gX2_34 C hd dX2_marks_14 ?_
      refine lv_iload_n hx hb dX2_marks_17 rfl (lv_at hl 2 rfl) ?_
      obtain ⟨n2, h⟩ := chk h
      refine ld_wD_15 C hd (inb_i n2) dX2_marks_18 ?_
      refine lv_iconst (v := 2) hx hb dX2_marks_19 ic_2 ?_
      refine lv_icmp_ne (tgt := 27) hx hb dX2_marks_20 (by decide) (fun c3 => ?_) (fun c3 => ?_)
      · replace h := iteF c3 h
        refine lv_iconst (v := 0) hx hb dX2_marks_27 ic_0 ?_
        exact w_X2_marks_28 C hr ih σ x2 0 x1 h _ _ _ hd (lv_sub hl [0, 2] rfl)
      · replace h := iteT c3 h
        refine lv_iconst (v := 1) hx hb dX2_marks_23 ic_1 ?_
        refine lv_goto (tgt := 28) hx hb dX2_marks_24 (by decide) ?_
        exact w_X2_marks_28 C hr ih σ x2 1 x1 h _ _ _ hd (lv_sub hl [0, 2] rfl)
noncomputable def f_X2_marks (F : Nat) (σ : St) : Option Int32 :=
  f_X2_marks_4 F F σ 0 0
set_option maxRecDepth 100000 in
set_option maxHeartbeats 4000000 in
theorem c_X2_marks {l : Launch} {g : Gp} {X : va_W} (hE : E0 g) {F : Nat} {r' : Int32} {σ : St} (h : f_X2_marks F σ = some r') : Ci l g yX2_marks cX2_marks 3 (some .int) 0 [.ref (ga g 2)] (wD g σ ++ X) r' (wD g σ ++ X) := by
  refine rHead hE (by decide +kernel) (Nat.le_of_ble_eq_true rfl) (fun p e s m below meth c C hr _ hd ls hl => ?_)
  have hx := C.1
  have hb := C.2.1
  have hl : lv_has ls 3 [(0, .ref (ga g 2))] := hl
  generalize ([.ref (ga g 2)] : List Value).toArray = args at C ⊢
  have C : Cx g p s m args meth c cX2_marks 3 RX2 := C
  rw [f_X2_marks] at h
  refine lv_iconst (v := 0) hx hb dX2_marks_0 ic_0 ?_
  refine lv_istore_n (lv' := [(1, .int 0), (0, .ref (ga g 2))]) hx hb dX2_marks_1 rfl hl (Nat.le_of_ble_eq_true rfl) rfl (fun ls hl => ?_)
  refine lv_iconst (v := 0) hx hb dX2_marks_2 ic_0 ?_
  refine lv_istore_n (lv' := [(2, .int 0), (1, .int 0), (0, .ref (ga g 2))]) hx hb dX2_marks_3 rfl hl (Nat.le_of_ble_eq_true rfl) rfl (fun ls hl => ?_)
  exact w_X2_marks_4 C hr _ σ 0 0 h _ _ _ hd (lv_sub hl [2, 1, 0] rfl)
noncomputable def f_X2_parentOf (F : Nat) (σ : St) (x1 : Int32) : Option Int32 :=
  cal (f_X2_hasLine F σ x1) (fun r1 => if r1 = 0 then (some (-2 : Int32)) else (if inb x1 8 = true then some (σ.2.1 11 x1.toNatClampNeg) else none))
set_option maxRecDepth 100000 in
set_option maxHeartbeats 4000000 in
theorem c_X2_parentOf {l : Launch} {g : Gp} {X : va_W} (hE : E0 g) {F : Nat} {r' : Int32} {σ : St} {x1 : Int32} (h : f_X2_parentOf F σ x1 = some r') : Ci l g yX2_parentOf cX2_parentOf 2 (some .int) 1 [.ref (ga g 2), .int x1] (wD g σ ++ X) r' (wD g σ ++ X) := by
  refine rHead hE (by decide +kernel) (Nat.le_of_ble_eq_true rfl) (fun p e s m below meth c C hr _ hd ls hl => ?_)
  have hx := C.1
  have hb := C.2.1
  have hl : lv_has ls 2 [(0, .ref (ga g 2)), (1, .int x1)] := hl
  generalize ([.ref (ga g 2), .int x1] : List Value).toArray = args at C ⊢
  have C : Cx g p s m args meth c cX2_parentOf 2 RX2 := C
  rw [f_X2_parentOf] at h
  refine lv_aload_n hx hb dX2_parentOf_0 rfl (lv_at hl 0 rfl) ?_
  refine lv_iload_n hx hb dX2_parentOf_1 rfl (lv_at hl 1 rfl) ?_
  obtain ⟨r1, er1, h⟩ := cal_e h
  refine rCallI C hd (c_X2_hasLine hE er1) kX2_57 2 rfl rfl rfl rfl hl.1 rfl (Nat.le_of_ble_eq_true rfl) ⟨(Nat.le_of_ble_eq_true rfl), (Nat.le_of_ble_eq_true rfl)⟩ ⟨Nat.le_refl _, Nat.le_refl _⟩ dX2_parentOf_2 (fun H locs hd => ?_)
  refine lv_if_eq (tgt := 17) hx hb dX2_parentOf_5 (by decide) (fun c2 => ?_) (fun c2 => ?_)
  · replace h := iteT c2 h
    refine lv_bipush (v := (-2 : Int32)) hx hb dX2_parentOf_17 bi_m2 ?_
    exact rIretP C hr hd h dX2_parentOf_19
  · replace h := iteF c2 h
    refine lv_aload_n hx hb dX2_parentOf_8 rfl (lv_at hl 0 rfl) ?_
    refine gX2_21 C hd dX2_parentOf_9 ?_
    refine lv_iload_n hx hb dX2_parentOf_12 rfl (lv_at hl 1 rfl) ?_
    obtain ⟨n3, h⟩ := chk h
    refine ld_wD_11 C hd (inb_i n3) dX2_parentOf_13 ?_
    refine lv_goto (tgt := 19) hx hb dX2_parentOf_14 (by decide) ?_
    exact rIretP C hr hd h dX2_parentOf_19
noncomputable def f_X2_parentOnes_4 (F : Nat) : Nat → St → Int32 → Int32 → Option Int32
  | 0, _, _, _ => none
  | n + 1, σ, x1, x2 => if (σ.1 6) ≤ x2 then (some x1) else (if inb x2 8 = true then bnd (x1 ||| (1 <<< ((σ.2.1 11 x2.toNatClampNeg) &&& 31))) (fun v3 => bnd (x2 + 1) (fun v4 => f_X2_parentOnes_4 F n σ v3 v4)) else none)
set_option maxRecDepth 100000 in
set_option maxHeartbeats 4000000 in
theorem w_X2_parentOnes_4 {F : Nat} {r' : Int32}  (C : Cx g p s m args meth c cX2_parentOnes 3 RX2) (hr : meth.sig.returnType = some .int) :
    (∀ (n : Nat) (σ : St) (x1 : Int32) (x2 : Int32), f_X2_parentOnes_4 F n σ x1 x2 = some r' → ∀ (H : Heap) (locs : List Loc) (ls : Array Slot), Dy g (wD g σ ++ X) s H locs → lv_has ls 3 [(0, .ref (ga g 2)), (1, .int x1), (2, .int x2)] → W p l e (rmD 0) s m args below meth c H locs 0 0 (QI g below args s (wD g σ ++ X) r') (F0 m 4 ls [])) := by
  have hx := C.1
  have hb := C.2.1
  have hE := C.2.2.2.2.2.2.2.2
  intro n
  induction n with
  | zero =>
    intro σ x1 x2 h
    cases h
  | succ n ih =>
    intro σ x1 x2 h H locs ls hd hl
    rw [f_X2_parentOnes_4] at h
    refine lv_iload_n hx hb dX2_parentOnes_4 rfl (lv_at hl 2 rfl) ?_
    refine lv_aload_n hx hb dX2_parentOnes_5 rfl (lv_at hl 0 rfl) ?_
    refine gX2_15 C hd dX2_parentOnes_6 ?_
    refine lv_icmp_ge (tgt := 29) hx hb dX2_parentOnes_9 (by decide) (fun c1 => ?_) (fun c1 => ?_)
    · replace h := iteT c1 h
      refine lv_iload_n hx hb dX2_parentOnes_29 rfl (lv_at hl 1 rfl) ?_
      exact rIretP C hr hd h dX2_parentOnes_30
    · replace h := iteF c1 h
      refine lv_iload_n hx hb dX2_parentOnes_12 rfl (lv_at hl 1 rfl) ?_
      refine lv_iconst (v := 1) hx hb dX2_parentOnes_13 ic_1 ?_
      refine lv_aload_n hx hb dX2_parentOnes_14 rfl (lv_at hl 0 rfl) ?_
      refine gX2_21 C hd dX2_parentOnes_15 ?_
      refine lv_iload_n hx hb dX2_parentOnes_18 rfl (lv_at hl 2 rfl) ?_
      obtain ⟨n2, h⟩ := chk h
      refine ld_wD_11 C hd (inb_i n2) dX2_parentOnes_19 ?_
      refine lv_ishl hx hb dX2_parentOnes_20 ?_
      refine lv_ior hx hb dX2_parentOnes_21 ?_
      obtain ⟨v3, ev3, h⟩ := bnd_e h
      refine rTop ev3 ?_
      refine lv_istore_n (lv' := [(1, .int v3), (0, .ref (ga g 2)), (2, .int x2)]) hx hb dX2_parentOnes_22 rfl hl (Nat.le_of_ble_eq_true rfl) rfl (fun ls hl => ?_)
      obtain ⟨v4, ev4, h⟩ := bnd_e h
      refine lv_iinc (v := v4) (lv' := [(2, .int v4), (1, .int v3), (0, .ref (ga g 2))]) hx hb dX2_parentOnes_23 hl (k := 2) rfl ((ii_1 _).trans ev4.symm) (Nat.le_of_ble_eq_true rfl) rfl (fun ls hl => ?_)
      refine lv_goto (tgt := 4) hx hb dX2_parentOnes_26 (by decide) ?_
      exact ih σ v3 v4 h _ _ _ hd (lv_sub hl [2, 1, 0] rfl)
noncomputable def f_X2_parentOnes (F : Nat) (σ : St) : Option Int32 :=
  f_X2_parentOnes_4 F F σ 0 1
set_option maxRecDepth 100000 in
set_option maxHeartbeats 4000000 in
theorem c_X2_parentOnes {l : Launch} {g : Gp} {X : va_W} (hE : E0 g) {F : Nat} {r' : Int32} {σ : St} (h : f_X2_parentOnes F σ = some r') : Ci l g yX2_parentOnes cX2_parentOnes 3 (some .int) 0 [.ref (ga g 2)] (wD g σ ++ X) r' (wD g σ ++ X) := by
  refine rHead hE (by decide +kernel) (Nat.le_of_ble_eq_true rfl) (fun p e s m below meth c C hr _ hd ls hl => ?_)
  have hx := C.1
  have hb := C.2.1
  have hl : lv_has ls 3 [(0, .ref (ga g 2))] := hl
  generalize ([.ref (ga g 2)] : List Value).toArray = args at C ⊢
  have C : Cx g p s m args meth c cX2_parentOnes 3 RX2 := C
  rw [f_X2_parentOnes] at h
  refine lv_iconst (v := 0) hx hb dX2_parentOnes_0 ic_0 ?_
  refine lv_istore_n (lv' := [(1, .int 0), (0, .ref (ga g 2))]) hx hb dX2_parentOnes_1 rfl hl (Nat.le_of_ble_eq_true rfl) rfl (fun ls hl => ?_)
  refine lv_iconst (v := 1) hx hb dX2_parentOnes_2 ic_1 ?_
  refine lv_istore_n (lv' := [(2, .int 1), (1, .int 0), (0, .ref (ga g 2))]) hx hb dX2_parentOnes_3 rfl hl (Nat.le_of_ble_eq_true rfl) rfl (fun ls hl => ?_)
  exact w_X2_parentOnes_4 C hr _ σ 0 1 h _ _ _ hd (lv_sub hl [2, 1, 0] rfl)
noncomputable def f_X2_placeOfRow (F : Nat) (σ : St) (x1 : Int32) (x2 : Int32) : Option Int32 :=
  cal (f_X2_hasLine F σ x1) (fun r1 => if r1 = 0 then (some (-2 : Int32)) else (if inb x1 8 = true then if inb x1 8 = true then some ((((σ.2.1 12 x1.toNatClampNeg) + x2) - (σ.2.1 14 x1.toNatClampNeg)) + 1) else none else none))
set_option maxRecDepth 100000 in
set_option maxHeartbeats 4000000 in
theorem c_X2_placeOfRow {l : Launch} {g : Gp} {X : va_W} (hE : E0 g) {F : Nat} {r' : Int32} {σ : St} {x1 : Int32} {x2 : Int32} (h : f_X2_placeOfRow F σ x1 x2 = some r') : Ci l g yX2_placeOfRow cX2_placeOfRow 3 (some .int) 1 [.ref (ga g 2), .int x1, .int x2] (wD g σ ++ X) r' (wD g σ ++ X) := by
  refine rHead hE (by decide +kernel) (Nat.le_of_ble_eq_true rfl) (fun p e s m below meth c C hr _ hd ls hl => ?_)
  have hx := C.1
  have hb := C.2.1
  have hl : lv_has ls 3 [(0, .ref (ga g 2)), (1, .int x1), (2, .int x2)] := hl
  generalize ([.ref (ga g 2), .int x1, .int x2] : List Value).toArray = args at C ⊢
  have C : Cx g p s m args meth c cX2_placeOfRow 3 RX2 := C
  rw [f_X2_placeOfRow] at h
  refine lv_aload_n hx hb dX2_placeOfRow_0 rfl (lv_at hl 0 rfl) ?_
  refine lv_iload_n hx hb dX2_placeOfRow_1 rfl (lv_at hl 1 rfl) ?_
  obtain ⟨r1, er1, h⟩ := cal_e h
  refine rCallI C hd (c_X2_hasLine hE er1) kX2_57 2 rfl rfl rfl rfl hl.1 rfl (Nat.le_of_ble_eq_true rfl) ⟨(Nat.le_of_ble_eq_true rfl), (Nat.le_of_ble_eq_true rfl)⟩ ⟨Nat.le_refl _, Nat.le_refl _⟩ dX2_placeOfRow_2 (fun H locs hd => ?_)
  refine lv_if_eq (tgt := 28) hx hb dX2_placeOfRow_5 (by decide) (fun c2 => ?_) (fun c2 => ?_)
  · replace h := iteT c2 h
    refine lv_bipush (v := (-2 : Int32)) hx hb dX2_placeOfRow_28 bi_m2 ?_
    exact rIretP C hr hd h dX2_placeOfRow_30
  · replace h := iteF c2 h
    refine lv_aload_n hx hb dX2_placeOfRow_8 rfl (lv_at hl 0 rfl) ?_
    refine gX2_25 C hd dX2_placeOfRow_9 ?_
    refine lv_iload_n hx hb dX2_placeOfRow_12 rfl (lv_at hl 1 rfl) ?_
    obtain ⟨n3, h⟩ := chk h
    refine ld_wD_12 C hd (inb_i n3) dX2_placeOfRow_13 ?_
    refine lv_iload_n hx hb dX2_placeOfRow_14 rfl (lv_at hl 2 rfl) ?_
    refine lv_iadd hx hb dX2_placeOfRow_15 ?_
    refine lv_aload_n hx hb dX2_placeOfRow_16 rfl (lv_at hl 0 rfl) ?_
    refine gX2_31 C hd dX2_placeOfRow_17 ?_
    refine lv_iload_n hx hb dX2_placeOfRow_20 rfl (lv_at hl 1 rfl) ?_
    obtain ⟨n4, h⟩ := chk h
    refine ld_wD_14 C hd (inb_i n4) dX2_placeOfRow_21 ?_
    refine lv_isub hx hb dX2_placeOfRow_22 ?_
    refine lv_iconst (v := 1) hx hb dX2_placeOfRow_23 ic_1 ?_
    refine lv_iadd hx hb dX2_placeOfRow_24 ?_
    refine lv_goto (tgt := 30) hx hb dX2_placeOfRow_25 (by decide) ?_
    exact rIretP C hr hd h dX2_placeOfRow_30
noncomputable def f_X2_sortIn (F : Nat) (σ : St) (x1 : Int32) : Option Int32 :=
  cal (f_X2_hasRow F σ x1) (fun r1 => if r1 = 0 then (some (-1 : Int32)) else (if inb x1 600 = true then some (σ.2.1 15 x1.toNatClampNeg) else none))
set_option maxRecDepth 100000 in
set_option maxHeartbeats 4000000 in
theorem c_X2_sortIn {l : Launch} {g : Gp} {X : va_W} (hE : E0 g) {F : Nat} {r' : Int32} {σ : St} {x1 : Int32} (h : f_X2_sortIn F σ x1 = some r') : Ci l g yX2_sortIn cX2_sortIn 2 (some .int) 1 [.ref (ga g 2), .int x1] (wD g σ ++ X) r' (wD g σ ++ X) := by
  refine rHead hE (by decide +kernel) (Nat.le_of_ble_eq_true rfl) (fun p e s m below meth c C hr _ hd ls hl => ?_)
  have hx := C.1
  have hb := C.2.1
  have hl : lv_has ls 2 [(0, .ref (ga g 2)), (1, .int x1)] := hl
  generalize ([.ref (ga g 2), .int x1] : List Value).toArray = args at C ⊢
  have C : Cx g p s m args meth c cX2_sortIn 2 RX2 := C
  rw [f_X2_sortIn] at h
  refine lv_aload_n hx hb dX2_sortIn_0 rfl (lv_at hl 0 rfl) ?_
  refine lv_iload_n hx hb dX2_sortIn_1 rfl (lv_at hl 1 rfl) ?_
  obtain ⟨r1, er1, h⟩ := cal_e h
  refine rCallI C hd (c_X2_hasRow hE er1) kX2_79 2 rfl rfl rfl rfl hl.1 rfl (Nat.le_of_ble_eq_true rfl) ⟨(Nat.le_of_ble_eq_true rfl), (Nat.le_of_ble_eq_true rfl)⟩ ⟨Nat.le_refl _, Nat.le_refl _⟩ dX2_sortIn_2 (fun H locs hd => ?_)
  refine lv_if_eq (tgt := 17) hx hb dX2_sortIn_5 (by decide) (fun c2 => ?_) (fun c2 => ?_)
  · replace h := iteT c2 h
    refine lv_iconst (v := (-1 : Int32)) hx hb dX2_sortIn_17 ic_m1 ?_
    exact rIretP C hr hd h dX2_sortIn_18
  · replace h := iteF c2 h
    refine lv_aload_n hx hb dX2_sortIn_8 rfl (lv_at hl 0 rfl) ?_
    refine gX2_34 C hd dX2_sortIn_9 ?_
    refine lv_iload_n hx hb dX2_sortIn_12 rfl (lv_at hl 1 rfl) ?_
    obtain ⟨n3, h⟩ := chk h
    refine ld_wD_15 C hd (inb_i n3) dX2_sortIn_13 ?_
    refine lv_goto (tgt := 18) hx hb dX2_sortIn_14 (by decide) ?_
    exact rIretP C hr hd h dX2_sortIn_18
noncomputable def f_X2_subjectIn (F : Nat) (σ : St) (x1 : Int32) : Option Int32 :=
  cal (f_X2_hasRow F σ x1) (fun r1 => if r1 = 0 then (some (-1 : Int32)) else (if inb x1 600 = true then some (σ.2.1 16 x1.toNatClampNeg) else none))
set_option maxRecDepth 100000 in
set_option maxHeartbeats 4000000 in
theorem c_X2_subjectIn {l : Launch} {g : Gp} {X : va_W} (hE : E0 g) {F : Nat} {r' : Int32} {σ : St} {x1 : Int32} (h : f_X2_subjectIn F σ x1 = some r') : Ci l g yX2_subjectIn cX2_subjectIn 2 (some .int) 1 [.ref (ga g 2), .int x1] (wD g σ ++ X) r' (wD g σ ++ X) := by
  refine rHead hE (by decide +kernel) (Nat.le_of_ble_eq_true rfl) (fun p e s m below meth c C hr _ hd ls hl => ?_)
  have hx := C.1
  have hb := C.2.1
  have hl : lv_has ls 2 [(0, .ref (ga g 2)), (1, .int x1)] := hl
  generalize ([.ref (ga g 2), .int x1] : List Value).toArray = args at C ⊢
  have C : Cx g p s m args meth c cX2_subjectIn 2 RX2 := C
  rw [f_X2_subjectIn] at h
  refine lv_aload_n hx hb dX2_subjectIn_0 rfl (lv_at hl 0 rfl) ?_
  refine lv_iload_n hx hb dX2_subjectIn_1 rfl (lv_at hl 1 rfl) ?_
  obtain ⟨r1, er1, h⟩ := cal_e h
  refine rCallI C hd (c_X2_hasRow hE er1) kX2_79 2 rfl rfl rfl rfl hl.1 rfl (Nat.le_of_ble_eq_true rfl) ⟨(Nat.le_of_ble_eq_true rfl), (Nat.le_of_ble_eq_true rfl)⟩ ⟨Nat.le_refl _, Nat.le_refl _⟩ dX2_subjectIn_2 (fun H locs hd => ?_)
  refine lv_if_eq (tgt := 17) hx hb dX2_subjectIn_5 (by decide) (fun c2 => ?_) (fun c2 => ?_)
  · replace h := iteT c2 h
    refine lv_iconst (v := (-1 : Int32)) hx hb dX2_subjectIn_17 ic_m1 ?_
    exact rIretP C hr hd h dX2_subjectIn_18
  · replace h := iteF c2 h
    refine lv_aload_n hx hb dX2_subjectIn_8 rfl (lv_at hl 0 rfl) ?_
    refine gX2_38 C hd dX2_subjectIn_9 ?_
    refine lv_iload_n hx hb dX2_subjectIn_12 rfl (lv_at hl 1 rfl) ?_
    obtain ⟨n3, h⟩ := chk h
    refine ld_wD_16 C hd (inb_i n3) dX2_subjectIn_13 ?_
    refine lv_goto (tgt := 18) hx hb dX2_subjectIn_14 (by decide) ?_
    exact rIretP C hr hd h dX2_subjectIn_18
noncomputable def f_X2_valueAs_84 (F : Nat) (k_14 : St → Int32 → Int32 → Int32 → Int32 → Option Int32) (σ : St) (x1 : Int32) (x2 : Int32) (x4 : Int32) (x5 : Int32) : Option Int32 :=
  bnd (x5 + (-1 : Int32)) (fun v1 => k_14 σ x1 x2 x4 v1)
set_option maxRecDepth 100000 in
set_option maxHeartbeats 4000000 in
theorem w_X2_valueAs_84 {F : Nat} {r' : Int32}  (C : Cx g p s m args meth c cX2_valueAs 7 RX2) (hr : meth.sig.returnType = some .int)
    {k_14 : St → Int32 → Int32 → Int32 → Int32 → Option Int32} (hk_14 : (∀ (σ : St) (x1 : Int32) (x2 : Int32) (x4 : Int32) (x5 : Int32), k_14 σ x1 x2 x4 x5 = some r' → ∀ (H : Heap) (locs : List Loc) (ls : Array Slot), Dy g (wD g σ ++ X) s H locs → lv_has ls 7 [(0, .ref (ga g 2)), (1, .int x1), (2, .int x2), (4, .int x4), (5, .int x5)] → W p l e (rmD 2) s m args below meth c H locs 0 0 (QI g below args s (wD g σ ++ X) r') (F0 m 14 ls []))) :
    (∀ (σ : St) (x1 : Int32) (x2 : Int32) (x4 : Int32) (x5 : Int32), f_X2_valueAs_84 F k_14 σ x1 x2 x4 x5 = some r' → ∀ (H : Heap) (locs : List Loc) (ls : Array Slot), Dy g (wD g σ ++ X) s H locs → lv_has ls 7 [(0, .ref (ga g 2)), (1, .int x1), (2, .int x2), (4, .int x4), (5, .int x5)] → W p l e (rmD 2) s m args below meth c H locs 0 0 (QI g below args s (wD g σ ++ X) r') (F0 m 84 ls [])) := by
  have hx := C.1
  have hb := C.2.1
  have hE := C.2.2.2.2.2.2.2.2
  intro σ x1 x2 x4 x5 h H locs ls hd hl
  rw [f_X2_valueAs_84] at h
  obtain ⟨v1, ev1, h⟩ := bnd_e h
  refine lv_iinc (v := v1) (lv' := [(5, .int v1), (0, .ref (ga g 2)), (1, .int x1), (2, .int x2), (4, .int x4)]) hx hb dX2_valueAs_84 hl (k := 4) rfl ((ii_m1 _).trans ev1.symm) (Nat.le_of_ble_eq_true rfl) rfl (fun ls hl => ?_)
  refine lv_goto (tgt := 14) hx hb dX2_valueAs_87 (by decide) ?_
  exact hk_14 σ x1 x2 x4 v1 h _ _ _ hd (lv_sub hl [1, 2, 3, 4, 0] rfl)
noncomputable def f_X2_valueAs_14 (F : Nat) : Nat → St → Int32 → Int32 → Int32 → Int32 → Option Int32
  | 0, _, _, _, _, _ => none
  | n + 1, σ, x1, x2, x4, x5 => if x5 ≤ 0 then (some x4) else (cal (f_X2_rowOf F σ x2 x5) (fun r2 => cal (f_X2_hasRow F σ r2) (fun r3 => if r3 = 0 then (f_X2_valueAs_84 F (f_X2_valueAs_14 F n) σ x1 x2 x4 x5) else (if inb r2 600 = true then if 1 < (σ.2.1 15 r2.toNatClampNeg) then (f_X2_valueAs_84 F (f_X2_valueAs_14 F n) σ x1 x2 x4 x5) else (if inb r2 600 = true then if (σ.2.1 16 r2.toNatClampNeg) = x1 then (if inb r2 600 = true then bnd (x4 + (σ.2.1 17 r2.toNatClampNeg)) (fun v10 => if inb r2 600 = true then if (σ.2.1 15 r2.toNatClampNeg) = 0 then (some v10) else (f_X2_valueAs_84 F (f_X2_valueAs_14 F n) σ x1 x2 v10 x5) else none) else none) else (f_X2_valueAs_84 F (f_X2_valueAs_14 F n) σ x1 x2 x4 x5) else none) else none))))
set_option maxRecDepth 100000 in
set_option maxHeartbeats 4000000 in
theorem w_X2_valueAs_14 {F : Nat} {r' : Int32}  (C : Cx g p s m args meth c cX2_valueAs 7 RX2) (hr : meth.sig.returnType = some .int) :
    (∀ (n : Nat) (σ : St) (x1 : Int32) (x2 : Int32) (x4 : Int32) (x5 : Int32), f_X2_valueAs_14 F n σ x1 x2 x4 x5 = some r' → ∀ (H : Heap) (locs : List Loc) (ls : Array Slot), Dy g (wD g σ ++ X) s H locs → lv_has ls 7 [(0, .ref (ga g 2)), (1, .int x1), (2, .int x2), (4, .int x4), (5, .int x5)] → W p l e (rmD 2) s m args below meth c H locs 0 0 (QI g below args s (wD g σ ++ X) r') (F0 m 14 ls [])) := by
  have hx := C.1
  have hb := C.2.1
  have hE := C.2.2.2.2.2.2.2.2
  intro n
  induction n with
  | zero =>
    intro σ x1 x2 x4 x5 h
    cases h
  | succ n ih =>
    intro σ x1 x2 x4 x5 h H locs ls hd hl
    rw [f_X2_valueAs_14] at h
    refine lv_iload hx hb dX2_valueAs_14 (lv_at hl 4 rfl) ?_
    refine lv_if_le (tgt := 90) hx hb dX2_valueAs_16 (by decide) (fun c1 => ?_) (fun c1 => ?_)
    · replace h := iteT c1 h
      refine lv_iload hx hb dX2_valueAs_90 (lv_at hl 3 rfl) ?_
      exact rIretP C hr hd h dX2_valueAs_92
    · replace h := iteF c1 h
      refine lv_aload_n hx hb dX2_valueAs_19 rfl (lv_at hl 0 rfl) ?_
      refine lv_iload_n hx hb dX2_valueAs_20 rfl (lv_at hl 2 rfl) ?_
      refine lv_iload hx hb dX2_valueAs_21 (lv_at hl 4 rfl) ?_
      obtain ⟨r2, er2, h⟩ := cal_e h
      refine rCallI C hd (c_X2_rowOf hE er2) kX2_82 2 rfl rfl rfl rfl hl.1 rfl (Nat.le_of_ble_eq_true rfl) ⟨(Nat.le_of_ble_eq_true rfl), (Nat.le_of_ble_eq_true rfl)⟩ ⟨Nat.le_refl _, Nat.le_refl _⟩ dX2_valueAs_23 (fun H locs hd => ?_)
      refine lv_istore (lv' := [(6, .int r2), (0, .ref (ga g 2)), (1, .int x1), (2, .int x2), (4, .int x4), (5, .int x5)]) hx hb dX2_valueAs_26 hl (Nat.le_of_ble_eq_true rfl) rfl (fun ls hl => ?_)
      refine lv_aload_n hx hb dX2_valueAs_28 rfl (lv_at hl 1 rfl) ?_
      refine lv_iload hx hb dX2_valueAs_29 (lv_at hl 0 rfl) ?_
      obtain ⟨r3, er3, h⟩ := cal_e h
      refine rCallI C hd (c_X2_hasRow hE er3) kX2_79 2 rfl rfl rfl rfl hl.1 rfl (Nat.le_of_ble_eq_true rfl) ⟨(Nat.le_of_ble_eq_true rfl), (Nat.le_of_ble_eq_true rfl)⟩ ⟨Nat.le_refl _, Nat.le_refl _⟩ dX2_valueAs_31 (fun H locs hd => ?_)
      refine lv_if_eq (tgt := 84) hx hb dX2_valueAs_34 (by decide) (fun c4 => ?_) (fun c4 => ?_)
      · replace h := iteT c4 h
        exact w_X2_valueAs_84 C hr ih σ x1 x2 x4 x5 h _ _ _ hd (lv_sub hl [1, 2, 3, 4, 5] rfl)
      · replace h := iteF c4 h
        refine lv_aload_n hx hb dX2_valueAs_37 rfl (lv_at hl 1 rfl) ?_
        refine gX2_34 C hd dX2_valueAs_38 ?_
        refine lv_iload hx hb dX2_valueAs_41 (lv_at hl 0 rfl) ?_
        obtain ⟨n5, h⟩ := chk h
        refine ld_wD_15 C hd (inb_i n5) dX2_valueAs_43 ?_
        refine lv_iconst (v := 1) hx hb dX2_valueAs_44 ic_1 ?_
        refine lv_icmp_gt (tgt := 84) hx hb dX2_valueAs_45 (by decide) (fun c6 => ?_) (fun c6 => ?_)
        · replace h := iteT c6 h
          exact w_X2_valueAs_84 C hr ih σ x1 x2 x4 x5 h _ _ _ hd (lv_sub hl [1, 2, 3, 4, 5] rfl)
        · replace h := iteF c6 h
          refine lv_aload_n hx hb dX2_valueAs_48 rfl (lv_at hl 1 rfl) ?_
          refine gX2_38 C hd dX2_valueAs_49 ?_
          refine lv_iload hx hb dX2_valueAs_52 (lv_at hl 0 rfl) ?_
          obtain ⟨n7, h⟩ := chk h
          refine ld_wD_16 C hd (inb_i n7) dX2_valueAs_54 ?_
          refine lv_iload_n hx hb dX2_valueAs_55 rfl (lv_at hl 2 rfl) ?_
          refine lv_icmp_ne (tgt := 84) hx hb dX2_valueAs_56 (by decide) (fun c8 => ?_) (fun c8 => ?_)
          · replace h := iteF c8 h
            exact w_X2_valueAs_84 C hr ih σ x1 x2 x4 x5 h _ _ _ hd (lv_sub hl [1, 2, 3, 4, 5] rfl)
          · replace h := iteT c8 h
            refine lv_iload hx hb dX2_valueAs_59 (lv_at hl 4 rfl) ?_
            refine lv_aload_n hx hb dX2_valueAs_61 rfl (lv_at hl 1 rfl) ?_
            refine gX2_41 C hd dX2_valueAs_62 ?_
            refine lv_iload hx hb dX2_valueAs_65 (lv_at hl 0 rfl) ?_
            obtain ⟨n9, h⟩ := chk h
            refine ld_wD_17 C hd (inb_i n9) dX2_valueAs_67 ?_
            refine lv_iadd hx hb dX2_valueAs_68 ?_
            obtain ⟨v10, ev10, h⟩ := bnd_e h
            refine rTop ev10 ?_
            refine lv_istore (lv' := [(4, .int v10), (6, .int r2), (0, .ref (ga g 2)), (1, .int x1), (2, .int x2), (5, .int x5)]) hx hb dX2_valueAs_69 hl (Nat.le_of_ble_eq_true rfl) rfl (fun ls hl => ?_)
            refine lv_aload_n hx hb dX2_valueAs_71 rfl (lv_at hl 2 rfl) ?_
            refine gX2_34 C hd dX2_valueAs_72 ?_
            refine lv_iload hx hb dX2_valueAs_75 (lv_at hl 1 rfl) ?_
            obtain ⟨n11, h⟩ := chk h
            refine ld_wD_15 C hd (inb_i n11) dX2_valueAs_77 ?_
            refine lv_if_ne (tgt := 84) hx hb dX2_valueAs_78 (by decide) (fun c12 => ?_) (fun c12 => ?_)
            · replace h := iteF c12 h
              exact w_X2_valueAs_84 C hr ih σ x1 x2 v10 x5 h _ _ _ hd (lv_sub hl [2, 3, 4, 0, 5] rfl)
            · replace h := iteT c12 h
              refine lv_iload hx hb dX2_valueAs_81 (lv_at hl 0 rfl) ?_
              exact rIretP C hr hd h dX2_valueAs_83
noncomputable def f_X2_valueAs (F : Nat) (σ : St) (x1 : Int32) (x2 : Int32) (x3 : Int32) : Option Int32 :=
  cal (f_X2_tipOf F σ x2) (fun r1 => bnd (mn x3 r1) (fun v2 => f_X2_valueAs_14 F F σ x1 x2 0 v2))
set_option maxRecDepth 100000 in
set_option maxHeartbeats 4000000 in
theorem c_X2_valueAs {l : Launch} {g : Gp} {X : va_W} (hE : E0 g) {F : Nat} {r' : Int32} {σ : St} {x1 : Int32} {x2 : Int32} {x3 : Int32} (h : f_X2_valueAs F σ x1 x2 x3 = some r') : Ci l g yX2_valueAs cX2_valueAs 7 (some .int) 2 [.ref (ga g 2), .int x1, .int x2, .int x3] (wD g σ ++ X) r' (wD g σ ++ X) := by
  refine rHead hE (by decide +kernel) (Nat.le_of_ble_eq_true rfl) (fun p e s m below meth c C hr _ hd ls hl => ?_)
  have hx := C.1
  have hb := C.2.1
  have hl : lv_has ls 7 [(0, .ref (ga g 2)), (1, .int x1), (2, .int x2), (3, .int x3)] := hl
  generalize ([.ref (ga g 2), .int x1, .int x2, .int x3] : List Value).toArray = args at C ⊢
  have C : Cx g p s m args meth c cX2_valueAs 7 RX2 := C
  rw [f_X2_valueAs] at h
  refine lv_iconst (v := 0) hx hb dX2_valueAs_0 ic_0 ?_
  refine lv_istore (lv' := [(4, .int 0), (0, .ref (ga g 2)), (1, .int x1), (2, .int x2), (3, .int x3)]) hx hb dX2_valueAs_1 hl (Nat.le_of_ble_eq_true rfl) rfl (fun ls hl => ?_)
  refine lv_iload_n hx hb dX2_valueAs_3 rfl (lv_at hl 4 rfl) ?_
  refine lv_aload_n hx hb dX2_valueAs_4 rfl (lv_at hl 1 rfl) ?_
  refine lv_iload_n hx hb dX2_valueAs_5 rfl (lv_at hl 3 rfl) ?_
  obtain ⟨r1, er1, h⟩ := cal_e h
  refine rCallI C hd (c_X2_tipOf hE er1) kX2_86 2 rfl rfl rfl rfl hl.1 rfl (Nat.le_of_ble_eq_true rfl) ⟨(Nat.le_of_ble_eq_true rfl), (Nat.le_of_ble_eq_true rfl)⟩ ⟨Nat.le_refl _, Nat.le_refl _⟩ dX2_valueAs_6 (fun H locs hd => ?_)
  refine rMin C hl.1 (mT 725 (by decide +kernel)) (mT 380 (by decide +kernel)) (mT 14 (by decide +kernel)) (mT 381 (by decide +kernel)) ⟨(Nat.le_of_ble_eq_true rfl), (Nat.le_of_ble_eq_true rfl)⟩ ⟨Nat.le_refl _, Nat.le_refl _⟩ dX2_valueAs_9 ?_
  obtain ⟨v2, ev2, h⟩ := bnd_e h
  refine rTop ev2 ?_
  refine lv_istore (lv' := [(5, .int v2), (4, .int 0), (0, .ref (ga g 2)), (1, .int x1), (2, .int x2), (3, .int x3)]) hx hb dX2_valueAs_12 hl (Nat.le_of_ble_eq_true rfl) rfl (fun ls hl => ?_)
  exact w_X2_valueAs_14 C hr _ σ x1 x2 0 v2 h _ _ _ hd (lv_sub hl [2, 3, 4, 1, 0] rfl)
noncomputable def f_X2_wayLength_4 (F : Nat) : Nat → St → Int32 → Int32 → Option Int32
  | 0, _, _, _ => none
  | n + 1, σ, x2, x3 => if 8 ≤ x2 then (some x2) else (cal (f_X2_hasLine F σ x3) (fun r2 => if r2 = 0 then (some x2) else (bnd (x2 + 1) (fun v4 => if inb x3 8 = true then bnd (σ.2.1 11 x3.toNatClampNeg) (fun v6 => f_X2_wayLength_4 F n σ v4 v6) else none))))
set_option maxRecDepth 100000 in
set_option maxHeartbeats 4000000 in
theorem w_X2_wayLength_4 {F : Nat} {r' : Int32}  (C : Cx g p s m args meth c cX2_wayLength 4 RX2) (hr : meth.sig.returnType = some .int) :
    (∀ (n : Nat) (σ : St) (x2 : Int32) (x3 : Int32), f_X2_wayLength_4 F n σ x2 x3 = some r' → ∀ (H : Heap) (locs : List Loc) (ls : Array Slot), Dy g (wD g σ ++ X) s H locs → lv_has ls 4 [(0, .ref (ga g 2)), (2, .int x2), (3, .int x3)] → W p l e (rmD 1) s m args below meth c H locs 0 0 (QI g below args s (wD g σ ++ X) r') (F0 m 4 ls [])) := by
  have hx := C.1
  have hb := C.2.1
  have hE := C.2.2.2.2.2.2.2.2
  intro n
  induction n with
  | zero =>
    intro σ x2 x3 h
    cases h
  | succ n ih =>
    intro σ x2 x3 h H locs ls hd hl
    rw [f_X2_wayLength_4] at h
    refine lv_iload_n hx hb dX2_wayLength_4 rfl (lv_at hl 1 rfl) ?_
    refine lv_bipush (v := 8) hx hb dX2_wayLength_5 bi_8 ?_
    refine lv_icmp_ge (tgt := 31) hx hb dX2_wayLength_7 (by decide) (fun c1 => ?_) (fun c1 => ?_)
    · replace h := iteT c1 h
      refine lv_iload_n hx hb dX2_wayLength_31 rfl (lv_at hl 1 rfl) ?_
      exact rIretP C hr hd h dX2_wayLength_32
    · replace h := iteF c1 h
      refine lv_aload_n hx hb dX2_wayLength_10 rfl (lv_at hl 0 rfl) ?_
      refine lv_iload_n hx hb dX2_wayLength_11 rfl (lv_at hl 2 rfl) ?_
      obtain ⟨r2, er2, h⟩ := cal_e h
      refine rCallI C hd (c_X2_hasLine hE er2) kX2_57 2 rfl rfl rfl rfl hl.1 rfl (Nat.le_of_ble_eq_true rfl) ⟨(Nat.le_of_ble_eq_true rfl), (Nat.le_of_ble_eq_true rfl)⟩ ⟨Nat.le_refl _, Nat.le_refl _⟩ dX2_wayLength_12 (fun H locs hd => ?_)
      refine lv_if_eq (tgt := 31) hx hb dX2_wayLength_15 (by decide) (fun c3 => ?_) (fun c3 => ?_)
      · replace h := iteT c3 h
        refine lv_iload_n hx hb dX2_wayLength_31 rfl (lv_at hl 1 rfl) ?_
        exact rIretP C hr hd h dX2_wayLength_32
      · replace h := iteF c3 h
        obtain ⟨v4, ev4, h⟩ := bnd_e h
        refine lv_iinc (v := v4) (lv' := [(2, .int v4), (0, .ref (ga g 2)), (3, .int x3)]) hx hb dX2_wayLength_18 hl (k := 1) rfl ((ii_1 _).trans ev4.symm) (Nat.le_of_ble_eq_true rfl) rfl (fun ls hl => ?_)
        refine lv_aload_n hx hb dX2_wayLength_21 rfl (lv_at hl 1 rfl) ?_
        refine gX2_21 C hd dX2_wayLength_22 ?_
        refine lv_iload_n hx hb dX2_wayLength_25 rfl (lv_at hl 2 rfl) ?_
        obtain ⟨n5, h⟩ := chk h
        refine ld_wD_11 C hd (inb_i n5) dX2_wayLength_26 ?_
        obtain ⟨v6, ev6, h⟩ := bnd_e h
        refine rTop ev6 ?_
        refine lv_istore_n (lv' := [(3, .int v6), (2, .int v4), (0, .ref (ga g 2))]) hx hb dX2_wayLength_27 rfl hl (Nat.le_of_ble_eq_true rfl) rfl (fun ls hl => ?_)
        refine lv_goto (tgt := 4) hx hb dX2_wayLength_28 (by decide) ?_
        exact ih σ v4 v6 h _ _ _ hd (lv_sub hl [2, 1, 0] rfl)
noncomputable def f_X2_wayLength (F : Nat) (σ : St) (x1 : Int32) : Option Int32 :=
  f_X2_wayLength_4 F F σ 0 x1
set_option maxRecDepth 100000 in
set_option maxHeartbeats 4000000 in
theorem c_X2_wayLength {l : Launch} {g : Gp} {X : va_W} (hE : E0 g) {F : Nat} {r' : Int32} {σ : St} {x1 : Int32} (h : f_X2_wayLength F σ x1 = some r') : Ci l g yX2_wayLength cX2_wayLength 4 (some .int) 1 [.ref (ga g 2), .int x1] (wD g σ ++ X) r' (wD g σ ++ X) := by
  refine rHead hE (by decide +kernel) (Nat.le_of_ble_eq_true rfl) (fun p e s m below meth c C hr _ hd ls hl => ?_)
  have hx := C.1
  have hb := C.2.1
  have hl : lv_has ls 4 [(0, .ref (ga g 2)), (1, .int x1)] := hl
  generalize ([.ref (ga g 2), .int x1] : List Value).toArray = args at C ⊢
  have C : Cx g p s m args meth c cX2_wayLength 4 RX2 := C
  rw [f_X2_wayLength] at h
  refine lv_iconst (v := 0) hx hb dX2_wayLength_0 ic_0 ?_
  refine lv_istore_n (lv' := [(2, .int 0), (0, .ref (ga g 2)), (1, .int x1)]) hx hb dX2_wayLength_1 rfl hl (Nat.le_of_ble_eq_true rfl) rfl (fun ls hl => ?_)
  refine lv_iload_n hx hb dX2_wayLength_2 rfl (lv_at hl 2 rfl) ?_
  refine lv_istore_n (lv' := [(3, .int x1), (2, .int 0), (0, .ref (ga g 2)), (1, .int x1)]) hx hb dX2_wayLength_3 rfl hl (Nat.le_of_ble_eq_true rfl) rfl (fun ls hl => ?_)
  exact w_X2_wayLength_4 C hr _ σ 0 x1 h _ _ _ hd (lv_sub hl [2, 1, 0] rfl)
end S
