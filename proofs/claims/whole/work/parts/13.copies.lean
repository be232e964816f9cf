section S
variable {p : Program} {l : Launch} {e : Env} {s : State} {m : MethodId} {args : Array Value} {below : List Frame} {meth : Method} {c : Code} {g : Gp} {X : va_W}
noncomputable def f_X0_hasCopy (F : Nat) (σ : St) (x1 : Int32) : Option Int32 :=
  if x1 < 0 then (some 0) else (if (σ.1 8) ≤ x1 then (some 0) else (some 1))
set_option maxRecDepth 100000 in
set_option maxHeartbeats 4000000 in
theorem c_X0_hasCopy {l : Launch} {g : Gp} {X : va_W} (hE : E0 g) {F : Nat} {r' : Int32} {σ : St} {x1 : Int32} (h : f_X0_hasCopy F σ x1 = some r') : Ci l g yX0_hasCopy cX0_hasCopy 2 (some .boolean) 0 [.ref (ga g 3), .int x1] (wD g σ ++ X) r' (wD g σ ++ X) := by
  refine rHead hE (by decide +kernel) (Nat.le_of_ble_eq_true rfl) (fun p e s m below meth c C hr _ hd ls hl => ?_)
  have hx := C.1
  have hb := C.2.1
  have hl : lv_has ls 2 [(0, .ref (ga g 3)), (1, .int x1)] := hl
  generalize ([.ref (ga g 3), .int x1] : List Value).toArray = args at C ⊢
  have C : Cx g p s m args meth c cX0_hasCopy 2 RX0 := C
  rw [f_X0_hasCopy] at h
  refine lv_iload_n hx hb dX0_hasCopy_0 rfl (lv_at hl 1 rfl) ?_
  refine lv_if_lt (tgt := 16) hx hb dX0_hasCopy_1 (by decide) (fun c1 => ?_) (fun c1 => ?_)
  · replace h := iteT c1 h
    refine lv_iconst (v := 0) hx hb dX0_hasCopy_16 ic_0 ?_
    exact rZretP C hr hd h (by decide) dX0_hasCopy_17
  · replace h := iteF c1 h
    refine lv_iload_n hx hb dX0_hasCopy_4 rfl (lv_at hl 1 rfl) ?_
    refine lv_aload_n hx hb dX0_hasCopy_5 rfl (lv_at hl 0 rfl) ?_
    refine gX0_9 C hd dX0_hasCopy_6 ?_
    refine lv_icmp_ge (tgt := 16) hx hb dX0_hasCopy_9 (by decide) (fun c2 => ?_) (fun c2 => ?_)
    · replace h := iteT c2 h
      refine lv_iconst (v := 0) hx hb dX0_hasCopy_16 ic_0 ?_
      exact rZretP C hr hd h (by decide) dX0_hasCopy_17
    · replace h := iteF c2 h
      refine lv_iconst (v := 1) hx hb dX0_hasCopy_12 ic_1 ?_
      refine lv_goto (tgt := 17) hx hb dX0_hasCopy_13 (by decide) ?_
      exact rZretP C hr hd h (by decide) dX0_hasCopy_17
noncomputable def f_X0_allPages_7 (F : Nat) : Nat → St → Int32 → Int32 → Int32 → Option Int32
  | 0, _, _, _, _ => none
  | n + 1, σ, x2, x3, x4 => if 10 ≤ x4 then (some x2) else (cal (f_X0_hasCopy F σ x3) (fun r2 => if r2 = 0 then (some x2) else (if inb x3 10 = true then bnd (x2 ||| (σ.2.1 21 x3.toNatClampNeg)) (fun v5 => if inb x3 10 = true then bnd (σ.2.1 20 x3.toNatClampNeg) (fun v7 => bnd (x4 + 1) (fun v8 => f_X0_allPages_7 F n σ v5 v7 v8)) else none) else none)))
set_option maxRecDepth 100000 in
set_option maxHeartbeats 4000000 in
theorem w_X0_allPages_7 {F : Nat} {r' : Int32}  (C : Cx g p s m args meth c cX0_allPages 5 RX0) (hr : meth.sig.returnType = some .int) :
    (∀ (n : Nat) (σ : St) (x2 : Int32) (x3 : Int32) (x4 : Int32), f_X0_allPages_7 F n σ x2 x3 x4 = some r' → ∀ (H : Heap) (locs : List Loc) (ls : Array Slot), Dy g (wD g σ ++ X) s H locs → lv_has ls 5 [(0, .ref (ga g 3)), (2, .int x2), (3, .int x3), (4, .int x4)] → W p l e (rmD 1) s m args below meth c H locs 0 0 (QI g below args s (wD g σ ++ X) r') (F0 m 7 ls [])) := by
  have hx := C.1
  have hb := C.2.1
  have hE := C.2.2.2.2.2.2.2.2
  intro n
  induction n with
  | zero =>
    intro σ x2 x3 x4 h
    cases h
  | succ n ih =>
    intro σ x2 x3 x4 h H locs ls hd hl
    rw [f_X0_allPages_7] at h
    refine lv_iload hx hb dX0_allPages_7 (lv_at hl 3 rfl) ?_
    refine lv_bipush (v := 10) hx hb dX0_allPages_9 bi_10 ?_
    refine lv_icmp_ge (tgt := 44) hx hb dX0_allPages_11 (by decide) (fun c1 => ?_) (fun c1 => ?_)
    · replace h := iteT c1 h
      refine lv_iload_n hx hb dX0_allPages_44 rfl (lv_at hl 1 rfl) ?_
      exact rIretP C hr hd h dX0_allPages_45
    · replace h := iteF c1 h
      refine lv_aload_n hx hb dX0_allPages_14 rfl (lv_at hl 0 rfl) ?_
      refine lv_iload_n hx hb dX0_allPages_15 rfl (lv_at hl 2 rfl) ?_
      obtain ⟨r2, er2, h⟩ := cal_e h
      refine rCallI C hd (c_X0_hasCopy hE er2) kX0_46 3 rfl rfl rfl rfl hl.1 rfl (Nat.le_of_ble_eq_true rfl) ⟨(Nat.le_of_ble_eq_true rfl), (Nat.le_of_ble_eq_true rfl)⟩ ⟨Nat.le_refl _, Nat.le_refl _⟩ dX0_allPages_16 (fun H locs hd => ?_)
      refine lv_if_eq (tgt := 44) hx hb dX0_allPages_19 (by decide) (fun c3 => ?_) (fun c3 => ?_)
      · replace h := iteT c3 h
        refine lv_iload_n hx hb dX0_allPages_44 rfl (lv_at hl 1 rfl) ?_
        exact rIretP C hr hd h dX0_allPages_45
      · replace h := iteF c3 h
        refine lv_iload_n hx hb dX0_allPages_22 rfl (lv_at hl 1 rfl) ?_
        refine lv_aload_n hx hb dX0_allPages_23 rfl (lv_at hl 0 rfl) ?_
        refine gX0_28 C hd dX0_allPages_24 ?_
        refine lv_iload_n hx hb dX0_allPages_27 rfl (lv_at hl 2 rfl) ?_
        obtain ⟨n4, h⟩ := chk h
        refine ld_wD_21 C hd (inb_i n4) dX0_allPages_28 ?_
        refine lv_ior hx hb dX0_allPages_29 ?_
        obtain ⟨v5, ev5, h⟩ := bnd_e h
        refine rTop ev5 ?_
        refine lv_istore_n (lv' := [(2, .int v5), (0, .ref (ga g 3)), (3, .int x3), (4, .int x4)]) hx hb dX0_allPages_30 rfl hl (Nat.le_of_ble_eq_true rfl) rfl (fun ls hl => ?_)
        refine lv_aload_n hx hb dX0_allPages_31 rfl (lv_at hl 1 rfl) ?_
        refine gX0_25 C hd dX0_allPages_32 ?_
        refine lv_iload_n hx hb dX0_allPages_35 rfl (lv_at hl 2 rfl) ?_
        obtain ⟨n6, h⟩ := chk h
        refine ld_wD_20 C hd (inb_i n6) dX0_allPages_36 ?_
        obtain ⟨v7, ev7, h⟩ := bnd_e h
        refine rTop ev7 ?_
        refine lv_istore_n (lv' := [(3, .int v7), (2, .int v5), (0, .ref (ga g 3)), (4, .int x4)]) hx hb dX0_allPages_37 rfl hl (Nat.le_of_ble_eq_true rfl) rfl (fun ls hl => ?_)
        obtain ⟨v8, ev8, h⟩ := bnd_e h
        refine lv_iinc (v := v8) (lv' := [(4, .int v8), (3, .int v7), (2, .int v5), (0, .ref (ga g 3))]) hx hb dX0_allPages_38 hl (k := 3) rfl ((ii_1 _).trans ev8.symm) (Nat.le_of_ble_eq_true rfl) rfl (fun ls hl => ?_)
        refine lv_goto (tgt := 7) hx hb dX0_allPages_41 (by decide) ?_
        exact ih σ v5 v7 v8 h _ _ _ hd (lv_sub hl [3, 2, 1, 0] rfl)
noncomputable def f_X0_allPages (F : Nat) (σ : St) (x1 : Int32) : Option Int32 :=
  f_X0_allPages_7 F F σ 0 x1 0
set_option maxRecDepth 100000 in
set_option maxHeartbeats 4000000 in
theorem c_X0_allPages {l : Launch} {g : Gp} {X : va_W} (hE : E0 g) {F : Nat} {r' : Int32} {σ : St} {x1 : Int32} (h : f_X0_allPages F σ x1 = some r') : Ci l g yX0_allPages cX0_allPages 5 (some .int) 1 [.ref (ga g 3), .int x1] (wD g σ ++ X) r' (wD g σ ++ X) := by
  refine rHead hE (by decide +kernel) (Nat.le_of_ble_eq_true rfl) (fun p e s m below meth c C hr _ hd ls hl => ?_)
  have hx := C.1
  have hb := C.2.1
  have hl : lv_has ls 5 [(0, .ref (ga g 3)), (1, .int x1)] := hl
  generalize ([.ref (ga g 3), .int x1] : List Value).toArray = args at C ⊢
  have C : Cx g p s m args meth c cX0_allPages 5 RX0 := C
  rw [f_X0_allPages] at h
  refine lv_iconst (v := 0) hx hb dX0_allPages_0 ic_0 ?_
  refine lv_istore_n (lv' := [(2, .int 0), (0, .ref (ga g 3)), (1, .int x1)]) hx hb dX0_allPages_1 rfl hl (Nat.le_of_ble_eq_true rfl) rfl (fun ls hl => ?_)
  refine lv_iload_n hx hb dX0_allPages_2 rfl (lv_at hl 2 rfl) ?_
  refine lv_istore_n (lv' := [(3, .int x1), (2, .int 0), (0, .ref (ga g 3)), (1, .int x1)]) hx hb dX0_allPages_3 rfl hl (Nat.le_of_ble_eq_true rfl) rfl (fun ls hl => ?_)
  refine lv_iconst (v := 0) hx hb dX0_allPages_4 ic_0 ?_
  refine lv_istore (lv' := [(4, .int 0), (3, .int x1), (2, .int 0), (0, .ref (ga g 3)), (1, .int x1)]) hx hb dX0_allPages_5 hl (Nat.le_of_ble_eq_true rfl) rfl (fun ls hl => ?_)
  exact w_X0_allPages_7 C hr _ σ 0 x1 0 h _ _ _ hd (lv_sub hl [3, 2, 1, 0] rfl)
noncomputable def f_X0_begin (F : Nat) (σ : St) (x1 : Int32) (x2 : Int32) : Option (Int32 × St) :=
  if (σ.1 8) < 0 then (some ((-1 : Int32), σ)) else (if (σ.1 8) < 10 then (bnd (σ.1 8) (fun v3 => bnd (ss σ 8 ((σ.1 8) + 1)) (fun t4 => if inb v3 10 = true then bnd (sr t4 19 v3.toNatClampNeg x1) (fun t6 => if inb v3 10 = true then bnd (sr t6 20 v3.toNatClampNeg x2) (fun t8 => if inb v3 10 = true then bnd (sr t8 21 v3.toNatClampNeg 0) (fun t10 => bnd (ss t10 9 ((t10.1 9) ||| (1 <<< (v3 &&& 31)))) (fun t11 => some (v3, t11))) else none) else none) else none))) else (some ((-1 : Int32), σ)))
set_option maxRecDepth 100000 in
set_option maxHeartbeats 4000000 in
theorem c_X0_begin {l : Launch} {g : Gp} {X : va_W} (hE : E0 g) {F : Nat} {r' : Int32} {σ' : St} {σ : St} {x1 : Int32} {x2 : Int32} (h : f_X0_begin F σ x1 x2 = some (r', σ')) : Ci l g yX0_begin cX0_begin 4 (some .int) 0 [.ref (ga g 3), .int x1, .int x2] (wD g σ ++ X) r' (wD g σ' ++ X) := by
  refine rHead hE (by decide +kernel) (Nat.le_of_ble_eq_true rfl) (fun p e s m below meth c C hr _ hd ls hl => ?_)
  have hx := C.1
  have hb := C.2.1
  have hl : lv_has ls 4 [(0, .ref (ga g 3)), (1, .int x1), (2, .int x2)] := hl
  generalize ([.ref (ga g 3), .int x1, .int x2] : List Value).toArray = args at C ⊢
  have C : Cx g p s m args meth c cX0_begin 4 RX0 := C
  rw [f_X0_begin] at h
  refine lv_aload_n hx hb dX0_begin_0 rfl (lv_at hl 0 rfl) ?_
  refine gX0_9 C hd dX0_begin_1 ?_
  refine lv_if_lt (tgt := 16) hx hb dX0_begin_4 (by decide) (fun c1 => ?_) (fun c1 => ?_)
  · replace h := iteT c1 h
    refine lv_iconst (v := (-1 : Int32)) hx hb dX0_begin_16 ic_m1 ?_
    exact rIretS (w := wD g) C hr hd h dX0_begin_17
  · replace h := iteF c1 h
    refine lv_aload_n hx hb dX0_begin_7 rfl (lv_at hl 0 rfl) ?_
    refine gX0_9 C hd dX0_begin_8 ?_
    refine lv_bipush (v := 10) hx hb dX0_begin_11 bi_10 ?_
    refine lv_icmp_lt (tgt := 18) hx hb dX0_begin_13 (by decide) (fun c2 => ?_) (fun c2 => ?_)
    · replace h := iteT c2 h
      refine lv_aload_n hx hb dX0_begin_18 rfl (lv_at hl 0 rfl) ?_
      refine gX0_9 C hd dX0_begin_19 ?_
      obtain ⟨v3, ev3, h⟩ := bnd_e h
      refine rTop ev3 ?_
      refine lv_istore_n (lv' := [(3, .int v3), (0, .ref (ga g 3)), (1, .int x1), (2, .int x2)]) hx hb dX0_begin_22 rfl hl (Nat.le_of_ble_eq_true rfl) rfl (fun ls hl => ?_)
      refine lv_aload_n hx hb dX0_begin_23 rfl (lv_at hl 1 rfl) ?_
      refine lv_dup hx hb dX0_begin_24 rfl ?_
      refine gX0_9 C hd dX0_begin_25 ?_
      refine lv_iconst (v := 1) hx hb dX0_begin_28 ic_1 ?_
      refine lv_iadd hx hb dX0_begin_29 ?_
      obtain ⟨t4, et4, h⟩ := bnd_e h
      refine pX0_9 C hd et4 dX0_begin_30 (fun H locs hd => ?_)
      refine lv_aload_n hx hb dX0_begin_33 rfl (lv_at hl 1 rfl) ?_
      refine gX0_21 C hd dX0_begin_34 ?_
      refine lv_iload_n hx hb dX0_begin_37 rfl (lv_at hl 0 rfl) ?_
      refine lv_iload_n hx hb dX0_begin_38 rfl (lv_at hl 2 rfl) ?_
      obtain ⟨n5, h⟩ := chk h
      obtain ⟨t6, et6, h⟩ := bnd_e h
      refine st_wD_19 C hd (inb_i n5) et6 dX0_begin_39 (fun H locs hd => ?_)
      refine lv_aload_n hx hb dX0_begin_40 rfl (lv_at hl 1 rfl) ?_
      refine gX0_25 C hd dX0_begin_41 ?_
      refine lv_iload_n hx hb dX0_begin_44 rfl (lv_at hl 0 rfl) ?_
      refine lv_iload_n hx hb dX0_begin_45 rfl (lv_at hl 3 rfl) ?_
      obtain ⟨n7, h⟩ := chk h
      obtain ⟨t8, et8, h⟩ := bnd_e h
      refine st_wD_20 C hd (inb_i n7) et8 dX0_begin_46 (fun H locs hd => ?_)
      refine lv_aload_n hx hb dX0_begin_47 rfl (lv_at hl 1 rfl) ?_
      refine gX0_28 C hd dX0_begin_48 ?_
      refine lv_iload_n hx hb dX0_begin_51 rfl (lv_at hl 0 rfl) ?_
      refine lv_iconst (v := 0) hx hb dX0_begin_52 ic_0 ?_
      obtain ⟨n9, h⟩ := chk h
      obtain ⟨t10, et10, h⟩ := bnd_e h
      refine st_wD_21 C hd (inb_i n9) et10 dX0_begin_53 (fun H locs hd => ?_)
      refine lv_aload_n hx hb dX0_begin_54 rfl (lv_at hl 1 rfl) ?_
      refine lv_dup hx hb dX0_begin_55 rfl ?_
      refine gX0_15 C hd dX0_begin_56 ?_
      refine lv_iconst (v := 1) hx hb dX0_begin_59 ic_1 ?_
      refine lv_iload_n hx hb dX0_begin_60 rfl (lv_at hl 0 rfl) ?_
      refine lv_ishl hx hb dX0_begin_61 ?_
      refine lv_ior hx hb dX0_begin_62 ?_
      obtain ⟨t11, et11, h⟩ := bnd_e h
      refine pX0_15 C hd et11 dX0_begin_63 (fun H locs hd => ?_)
      refine lv_iload_n hx hb dX0_begin_66 rfl (lv_at hl 0 rfl) ?_
      exact rIretS (w := wD g) C hr hd h dX0_begin_67
    · replace h := iteF c2 h
      refine lv_iconst (v := (-1 : Int32)) hx hb dX0_begin_16 ic_m1 ?_
      exact rIretS (w := wD g) C hr hd h dX0_begin_17
noncomputable def f_X0_isDropped (F : Nat) (σ : St) (x1 : Int32) : Option Int32 :=
  cal (f_X0_hasCopy F σ x1) (fun r1 => if r1 = 0 then (some 0) else (if (((σ.1 10) >>> (x1 &&& 31)) &&& 1) = 0 then (some 0) else (some 1)))
set_option maxRecDepth 100000 in
set_option maxHeartbeats 4000000 in
theorem c_X0_isDropped {l : Launch} {g : Gp} {X : va_W} (hE : E0 g) {F : Nat} {r' : Int32} {σ : St} {x1 : Int32} (h : f_X0_isDropped F σ x1 = some r') : Ci l g yX0_isDropped cX0_isDropped 2 (some .boolean) 1 [.ref (ga g 3), .int x1] (wD g σ ++ X) r' (wD g σ ++ X) := by
  refine rHead hE (by decide +kernel) (Nat.le_of_ble_eq_true rfl) (fun p e s m below meth c C hr _ hd ls hl => ?_)
  have hx := C.1
  have hb := C.2.1
  have hl : lv_has ls 2 [(0, .ref (ga g 3)), (1, .int x1)] := hl
  generalize ([.ref (ga g 3), .int x1] : List Value).toArray = args at C ⊢
  have C : Cx g p s m args meth c cX0_isDropped 2 RX0 := C
  rw [f_X0_isDropped] at h
  refine lv_aload_n hx hb dX0_isDropped_0 rfl (lv_at hl 0 rfl) ?_
  refine lv_iload_n hx hb dX0_isDropped_1 rfl (lv_at hl 1 rfl) ?_
  obtain ⟨r1, er1, h⟩ := cal_e h
  refine rCallI C hd (c_X0_hasCopy hE er1) kX0_46 3 rfl rfl rfl rfl hl.1 rfl (Nat.le_of_ble_eq_true rfl) ⟨(Nat.le_of_ble_eq_true rfl), (Nat.le_of_ble_eq_true rfl)⟩ ⟨Nat.le_refl _, Nat.le_refl _⟩ dX0_isDropped_2 (fun H locs hd => ?_)
  refine lv_if_eq (tgt := 23) hx hb dX0_isDropped_5 (by decide) (fun c2 => ?_) (fun c2 => ?_)
  · replace h := iteT c2 h
    refine lv_iconst (v := 0) hx hb dX0_isDropped_23 ic_0 ?_
    exact rZretP C hr hd h (by decide) dX0_isDropped_24
  · replace h := iteF c2 h
    refine lv_aload_n hx hb dX0_isDropped_8 rfl (lv_at hl 0 rfl) ?_
    refine gX0_18 C hd dX0_isDropped_9 ?_
    refine lv_iload_n hx hb dX0_isDropped_12 rfl (lv_at hl 1 rfl) ?_
    refine lv_ishr hx hb dX0_isDropped_13 ?_
    refine lv_iconst (v := 1) hx hb dX0_isDropped_14 ic_1 ?_
    refine lv_iand hx hb dX0_isDropped_15 ?_
    refine lv_if_eq (tgt := 23) hx hb dX0_isDropped_16 (by decide) (fun c3 => ?_) (fun c3 => ?_)
    · replace h := iteT c3 h
      refine lv_iconst (v := 0) hx hb dX0_isDropped_23 ic_0 ?_
      exact rZretP C hr hd h (by decide) dX0_isDropped_24
    · replace h := iteF c3 h
      refine lv_iconst (v := 1) hx hb dX0_isDropped_19 ic_1 ?_
      refine lv_goto (tgt := 24) hx hb dX0_isDropped_20 (by decide) ?_
      exact rZretP C hr hd h (by decide) dX0_isDropped_24
noncomputable def f_X0_carriesOne_30 (F : Nat) (k_2 : St → Int32 → Int32 → Option Int32) (σ : St) (x1 : Int32) (x2 : Int32) : Option Int32 :=
  bnd (x2 + 1) (fun v1 => k_2 σ x1 v1)
set_option maxRecDepth 100000 in
set_option maxHeartbeats 4000000 in
theorem w_X0_carriesOne_30 {F : Nat} {r' : Int32}  (C : Cx g p s m args meth c cX0_carriesOne 3 RX0) (hr : meth.sig.returnType = some .boolean)
    {k_2 : St → Int32 → Int32 → Option Int32} (hk_2 : (∀ (σ : St) (x1 : Int32) (x2 : Int32), k_2 σ x1 x2 = some r' → ∀ (H : Heap) (locs : List Loc) (ls : Array Slot), Dy g (wD g σ ++ X) s H locs → lv_has ls 3 [(0, .ref (ga g 3)), (1, .int x1), (2, .int x2)] → W p l e (rmD 2) s m args below meth c H locs 0 0 (QI g below args s (wD g σ ++ X) r') (F0 m 2 ls []))) :
    (∀ (σ : St) (x1 : Int32) (x2 : Int32), f_X0_carriesOne_30 F k_2 σ x1 x2 = some r' → ∀ (H : Heap) (locs : List Loc) (ls : Array Slot), Dy g (wD g σ ++ X) s H locs → lv_has ls 3 [(0, .ref (ga g 3)), (1, .int x1), (2, .int x2)] → W p l e (rmD 2) s m args below meth c H locs 0 0 (QI g below args s (wD g σ ++ X) r') (F0 m 30 ls [])) := by
  have hx := C.1
  have hb := C.2.1
  have hE := C.2.2.2.2.2.2.2.2
  intro σ x1 x2 h H locs ls hd hl
  rw [f_X0_carriesOne_30] at h
  obtain ⟨v1, ev1, h⟩ := bnd_e h
  refine lv_iinc (v := v1) (lv' := [(2, .int v1), (0, .ref (ga g 3)), (1, .int x1)]) hx hb dX0_carriesOne_30 hl (k := 2) rfl ((ii_1 _).trans ev1.symm) (Nat.le_of_ble_eq_true rfl) rfl (fun ls hl => ?_)
  refine lv_goto (tgt := 2) hx hb dX0_carriesOne_33 (by decide) ?_
  exact hk_2 σ x1 v1 h _ _ _ hd (lv_sub hl [1, 2, 0] rfl)
noncomputable def f_X0_carriesOne_2 (F : Nat) : Nat → St → Int32 → Int32 → Option Int32
  | 0, _, _, _ => none
  | n + 1, σ, x1, x2 => if (σ.1 8) ≤ x2 then (some 0) else (if inb x2 10 = true then if (σ.2.1 20 x2.toNatClampNeg) = x1 then (cal (f_X0_isDropped F σ x2) (fun r4 => if r4 = 0 then (some 1) else (f_X0_carriesOne_30 F (f_X0_carriesOne_2 F n) σ x1 x2))) else (f_X0_carriesOne_30 F (f_X0_carriesOne_2 F n) σ x1 x2) else none)
set_option maxRecDepth 100000 in
set_option maxHeartbeats 4000000 in
theorem w_X0_carriesOne_2 {F : Nat} {r' : Int32}  (C : Cx g p s m args meth c cX0_carriesOne 3 RX0) (hr : meth.sig.returnType = some .boolean) :
    (∀ (n : Nat) (σ : St) (x1 : Int32) (x2 : Int32), f_X0_carriesOne_2 F n σ x1 x2 = some r' → ∀ (H : Heap) (locs : List Loc) (ls : Array Slot), Dy g (wD g σ ++ X) s H locs → lv_has ls 3 [(0, .ref (ga g 3)), (1, .int x1), (2, .int x2)] → W p l e (rmD 2) s m args below meth c H locs 0 0 (QI g below args s (wD g σ ++ X) r') (F0 m 2 ls [])) := by
  have hx := C.1
  have hb := C.2.1
  have hE := C.2.2.2.2.2.2.2.2
  intro n
  induction n with
  | zero =>
    intro σ x1 x2 h
    cases h
  | succ n ih =>
    intro σ x1 x2 h H locs ls hd hl
    rw [f_X0_carriesOne_2] at h
    refine lv_iload_n hx hb dX0_carriesOne_2 rfl (lv_at hl 2 rfl) ?_
    refine lv_aload_n hx hb dX0_carriesOne_3 rfl (lv_at hl 0 rfl) ?_
    refine gX0_9 C hd dX0_carriesOne_4 ?_
    refine lv_icmp_ge (tgt := 36) hx hb dX0_carriesOne_7 (by decide) (fun c1 => ?_) (fun c1 => ?_)
    · replace h := iteT c1 h
      refine lv_iconst (v := 0) hx hb dX0_carriesOne_36 ic_0 ?_
      exact rZretP C hr hd h (by decide) dX0_carriesOne_37
    · replace h := iteF c1 h
      refine lv_aload_n hx hb dX0_carriesOne_10 rfl (lv_at hl 0 rfl) ?_
      refine gX0_25 C hd dX0_carriesOne_11 ?_
      refine lv_iload_n hx hb dX0_carriesOne_14 rfl (lv_at hl 2 rfl) ?_
      obtain ⟨n2, h⟩ := chk h
      refine ld_wD_20 C hd (inb_i n2) dX0_carriesOne_15 ?_
      refine lv_iload_n hx hb dX0_carriesOne_16 rfl (lv_at hl 1 rfl) ?_
      refine lv_icmp_ne (tgt := 30) hx hb dX0_carriesOne_17 (by decide) (fun c3 => ?_) (fun c3 => ?_)
      · replace h := iteF c3 h
        exact w_X0_carriesOne_30 C hr ih σ x1 x2 h _ _ _ hd (lv_sub hl [0, 1, 2] rfl)
      · replace h := iteT c3 h
        refine lv_aload_n hx hb dX0_carriesOne_20 rfl (lv_at hl 0 rfl) ?_
        refine lv_iload_n hx hb dX0_carriesOne_21 rfl (lv_at hl 2 rfl) ?_
        obtain ⟨r4, er4, h⟩ := cal_e h
        refine rCallI C hd (c_X0_isDropped hE er4) kX0_53 3 rfl rfl rfl rfl hl.1 rfl (Nat.le_of_ble_eq_true rfl) ⟨(Nat.le_of_ble_eq_true rfl), (Nat.le_of_ble_eq_true rfl)⟩ ⟨Nat.le_refl _, Nat.le_refl _⟩ dX0_carriesOne_22 (fun H locs hd => ?_)
        refine lv_if_ne (tgt := 30) hx hb dX0_carriesOne_25 (by decide) (fun c5 => ?_) (fun c5 => ?_)
        · replace h := iteF c5 h
          exact w_X0_carriesOne_30 C hr ih σ x1 x2 h _ _ _ hd (lv_sub hl [0, 1, 2] rfl)
        · replace h := iteT c5 h
          refine lv_iconst (v := 1) hx hb dX0_carriesOne_28 ic_1 ?_
          exact rZretP C hr hd h (by decide) dX0_carriesOne_29
noncomputable def f_X0_carriesOne (F : Nat) (σ : St) (x1 : Int32) : Option Int32 :=
  f_X0_carriesOne_2 F F σ x1 0
set_option maxRecDepth 100000 in
set_option maxHeartbeats 4000000 in
theorem c_X0_carriesOne {l : Launch} {g : Gp} {X : va_W} (hE : E0 g) {F : Nat} {r' : Int32} {σ : St} {x1 : Int32} (h : f_X0_carriesOne F σ x1 = some r') : Ci l g yX0_carriesOne cX0_carriesOne 3 (some .boolean) 2 [.ref (ga g 3), .int x1] (wD g σ ++ X) r' (wD g σ ++ X) := by
  refine rHead hE (by decide +kernel) (Nat.le_of_ble_eq_true rfl) (fun p e s m below meth c C hr _ hd ls hl => ?_)
  have hx := C.1
  have hb := C.2.1
  have hl : lv_has ls 3 [(0, .ref (ga g 3)), (1, .int x1)] := hl
  generalize ([.ref (ga g 3), .int x1] : List Value).toArray = args at C ⊢
  have C : Cx g p s m args meth c cX0_carriesOne 3 RX0 := C
  rw [f_X0_carriesOne] at h
  refine lv_iconst (v := 0) hx hb dX0_carriesOne_0 ic_0 ?_
  refine lv_istore_n (lv' := [(2, .int 0), (0, .ref (ga g 3)), (1, .int x1)]) hx hb dX0_carriesOne_1 rfl hl (Nat.le_of_ble_eq_true rfl) rfl (fun ls hl => ?_)
  exact w_X0_carriesOne_2 C hr _ σ x1 0 h _ _ _ hd (lv_sub hl [1, 2, 0] rfl)
noncomputable def f_X0_cellOf_17 (F : Nat) : Nat → St → Int32 → Int32 → Int32 → Option Int32
  | 0, _, _, _, _ => none
  | n + 1, σ, x2, x3, x4 => if 10 ≤ x4 then (some (-1 : Int32)) else (cal (f_X0_hasCopy F σ x3) (fun r2 => if r2 = 0 then (some (-1 : Int32)) else (if inb x3 10 = true then if (((σ.2.1 21 x3.toNatClampNeg) >>> (x2 &&& 31)) &&& 1) = 0 then (if inb x3 10 = true then bnd (σ.2.1 20 x3.toNatClampNeg) (fun v7 => bnd (x4 + 1) (fun v8 => f_X0_cellOf_17 F n σ x2 v7 v8)) else none) else (some ((x3 * 8) + x2)) else none)))
set_option maxRecDepth 100000 in
set_option maxHeartbeats 4000000 in
theorem w_X0_cellOf_17 {F : Nat} {r' : Int32}  (C : Cx g p s m args meth c cX0_cellOf 5 RX0) (hr : meth.sig.returnType = some .int) :
    (∀ (n : Nat) (σ : St) (x2 : Int32) (x3 : Int32) (x4 : Int32), f_X0_cellOf_17 F n σ x2 x3 x4 = some r' → ∀ (H : Heap) (locs : List Loc) (ls : Array Slot), Dy g (wD g σ ++ X) s H locs → lv_has ls 5 [(0, .ref (ga g 3)), (2, .int x2), (3, .int x3), (4, .int x4)] → W p l e (rmD 1) s m args below meth c H locs 0 0 (QI g below args s (wD g σ ++ X) r') (F0 m 17 ls [])) := by
  have hx := C.1
  have hb := C.2.1
  have hE := C.2.2.2.2.2.2.2.2
  intro n
  induction n with
  | zero =>
    intro σ x2 x3 x4 h
    cases h
  | succ n ih =>
    intro σ x2 x3 x4 h H locs ls hd hl
    rw [f_X0_cellOf_17] at h
    refine lv_iload hx hb dX0_cellOf_17 (lv_at hl 3 rfl) ?_
    refine lv_bipush (v := 10) hx hb dX0_cellOf_19 bi_10 ?_
    refine lv_icmp_ge (tgt := 65) hx hb dX0_cellOf_21 (by decide) (fun c1 => ?_) (fun c1 => ?_)
    · replace h := iteT c1 h
      refine lv_iconst (v := (-1 : Int32)) hx hb dX0_cellOf_65 ic_m1 ?_
      exact rIretP C hr hd h dX0_cellOf_66
    · replace h := iteF c1 h
      refine lv_aload_n hx hb dX0_cellOf_24 rfl (lv_at hl 0 rfl) ?_
      refine lv_iload_n hx hb dX0_cellOf_25 rfl (lv_at hl 2 rfl) ?_
      obtain ⟨r2, er2, h⟩ := cal_e h
      refine rCallI C hd (c_X0_hasCopy hE er2) kX0_46 3 rfl rfl rfl rfl hl.1 rfl (Nat.le_of_ble_eq_true rfl) ⟨(Nat.le_of_ble_eq_true rfl), (Nat.le_of_ble_eq_true rfl)⟩ ⟨Nat.le_refl _, Nat.le_refl _⟩ dX0_cellOf_26 (fun H locs hd => ?_)
      refine lv_if_eq (tgt := 65) hx hb dX0_cellOf_29 (by decide) (fun c3 => ?_) (fun c3 => ?_)
      · replace h := iteT c3 h
        refine lv_iconst (v := (-1 : Int32)) hx hb dX0_cellOf_65 ic_m1 ?_
        exact rIretP C hr hd h dX0_cellOf_66
      · replace h := iteF c3 h
        refine lv_aload_n hx hb dX0_cellOf_32 rfl (lv_at hl 0 rfl) ?_
        refine gX0_28 C hd dX0_cellOf_33 ?_
        refine lv_iload_n hx hb dX0_cellOf_36 rfl (lv_at hl 2 rfl) ?_
        obtain ⟨n4, h⟩ := chk h
        refine ld_wD_21 C hd (inb_i n4) dX0_cellOf_37 ?_
        refine lv_iload_n hx hb dX0_cellOf_38 rfl (lv_at hl 1 rfl) ?_
        refine lv_ishr hx hb dX0_cellOf_39 ?_
        refine lv_iconst (v := 1) hx hb dX0_cellOf_40 ic_1 ?_
        refine lv_iand hx hb dX0_cellOf_41 ?_
        refine lv_if_eq (tgt := 52) hx hb dX0_cellOf_42 (by decide) (fun c5 => ?_) (fun c5 => ?_)
        · replace h := iteT c5 h
          refine lv_aload_n hx hb dX0_cellOf_52 rfl (lv_at hl 0 rfl) ?_
          refine gX0_25 C hd dX0_cellOf_53 ?_
          refine lv_iload_n hx hb dX0_cellOf_56 rfl (lv_at hl 2 rfl) ?_
          obtain ⟨n6, h⟩ := chk h
          refine ld_wD_20 C hd (inb_i n6) dX0_cellOf_57 ?_
          obtain ⟨v7, ev7, h⟩ := bnd_e h
          refine rTop ev7 ?_
          refine lv_istore_n (lv' := [(3, .int v7), (0, .ref (ga g 3)), (2, .int x2), (4, .int x4)]) hx hb dX0_cellOf_58 rfl hl (Nat.le_of_ble_eq_true rfl) rfl (fun ls hl => ?_)
          obtain ⟨v8, ev8, h⟩ := bnd_e h
          refine lv_iinc (v := v8) (lv' := [(4, .int v8), (3, .int v7), (0, .ref (ga g 3)), (2, .int x2)]) hx hb dX0_cellOf_59 hl (k := 3) rfl ((ii_1 _).trans ev8.symm) (Nat.le_of_ble_eq_true rfl) rfl (fun ls hl => ?_)
          refine lv_goto (tgt := 17) hx hb dX0_cellOf_62 (by decide) ?_
          exact ih σ x2 v7 v8 h _ _ _ hd (lv_sub hl [2, 3, 1, 0] rfl)
        · replace h := iteF c5 h
          refine lv_iload_n hx hb dX0_cellOf_45 rfl (lv_at hl 2 rfl) ?_
          refine lv_bipush (v := 8) hx hb dX0_cellOf_46 bi_8 ?_
          refine lv_imul hx hb dX0_cellOf_48 ?_
          refine lv_iload_n hx hb dX0_cellOf_49 rfl (lv_at hl 1 rfl) ?_
          refine lv_iadd hx hb dX0_cellOf_50 ?_
          exact rIretP C hr hd h dX0_cellOf_51
noncomputable def f_X0_cellOf (F : Nat) (σ : St) (x1 : Int32) (x2 : Int32) : Option Int32 :=
  if x2 < 0 then (some (-1 : Int32)) else (if x2 < 8 then (f_X0_cellOf_17 F F σ x2 x1 0) else (some (-1 : Int32)))
set_option maxRecDepth 100000 in
set_option maxHeartbeats 4000000 in
theorem c_X0_cellOf {l : Launch} {g : Gp} {X : va_W} (hE : E0 g) {F : Nat} {r' : Int32} {σ : St} {x1 : Int32} {x2 : Int32} (h : f_X0_cellOf F σ x1 x2 = some r') : Ci l g yX0_cellOf cX0_cellOf 5 (some .int) 1 [.ref (ga g 3), .int x1, .int x2] (wD g σ ++ X) r' (wD g σ ++ X) := by
  refine rHead hE (by decide +kernel) (Nat.le_of_ble_eq_true rfl) (fun p e s m below meth c C hr _ hd ls hl => ?_)
  have hx := C.1
  have hb := C.2.1
  have hl : lv_has ls 5 [(0, .ref (ga g 3)), (1, .int x1), (2, .int x2)] := hl
  generalize ([.ref (ga g 3), .int x1, .int x2] : List Value).toArray = args at C ⊢
  have C : Cx g p s m args meth c cX0_cellOf 5 RX0 := C
  rw [f_X0_cellOf] at h
  refine lv_iload_n hx hb dX0_cellOf_0 rfl (lv_at hl 2 rfl) ?_
  refine lv_if_lt (tgt := 10) hx hb dX0_cellOf_1 (by decide) (fun c1 => ?_) (fun c1 => ?_)
  · replace h := iteT c1 h
    refine lv_iconst (v := (-1 : Int32)) hx hb dX0_cellOf_10 ic_m1 ?_
    exact rIretP C hr hd h dX0_cellOf_11
  · replace h := iteF c1 h
    refine lv_iload_n hx hb dX0_cellOf_4 rfl (lv_at hl 2 rfl) ?_
    refine lv_bipush (v := 8) hx hb dX0_cellOf_5 bi_8 ?_
    refine lv_icmp_lt (tgt := 12) hx hb dX0_cellOf_7 (by decide) (fun c2 => ?_) (fun c2 => ?_)
    · replace h := iteT c2 h
      refine lv_iload_n hx hb dX0_cellOf_12 rfl (lv_at hl 1 rfl) ?_
      refine lv_istore_n (lv' := [(3, .int x1), (0, .ref (ga g 3)), (1, .int x1), (2, .int x2)]) hx hb dX0_cellOf_13 rfl hl (Nat.le_of_ble_eq_true rfl) rfl (fun ls hl => ?_)
      refine lv_iconst (v := 0) hx hb dX0_cellOf_14 ic_0 ?_
      refine lv_istore (lv' := [(4, .int 0), (3, .int x1), (0, .ref (ga g 3)), (1, .int x1), (2, .int x2)]) hx hb dX0_cellOf_15 hl (Nat.le_of_ble_eq_true rfl) rfl (fun ls hl => ?_)
      exact w_X0_cellOf_17 C hr _ σ x2 x1 0 h _ _ _ hd (lv_sub hl [2, 4, 1, 0] rfl)
    · replace h := iteF c2 h
      refine lv_iconst (v := (-1 : Int32)) hx hb dX0_cellOf_10 ic_m1 ?_
      exact rIretP C hr hd h dX0_cellOf_11
noncomputable def f_X0_chainOf_4 (F : Nat) : Nat → St → Int32 → Int32 → Option Int32
  | 0, _, _, _ => none
  | n + 1, σ, x2, x3 => if 10 ≤ x2 then (some x2) else (cal (f_X0_hasCopy F σ x3) (fun r2 => if r2 = 0 then (some x2) else (bnd (x2 + 1) (fun v4 => if inb x3 10 = true then bnd (σ.2.1 20 x3.toNatClampNeg) (fun v6 => f_X0_chainOf_4 F n σ v4 v6) else none))))
set_option maxRecDepth 100000 in
set_option maxHeartbeats 4000000 in
theorem w_X0_chainOf_4 {F : Nat} {r' : Int32}  (C : Cx g p s m args meth c cX0_chainOf 4 RX0) (hr : meth.sig.returnType = some .int) :
    (∀ (n : Nat) (σ : St) (x2 : Int32) (x3 : Int32), f_X0_chainOf_4 F n σ x2 x3 = some r' → ∀ (H : Heap) (locs : List Loc) (ls : Array Slot), Dy g (wD g σ ++ X) s H locs → lv_has ls 4 [(0, .ref (ga g 3)), (2, .int x2), (3, .int x3)] → W p l e (rmD 1) s m args below meth c H locs 0 0 (QI g below args s (wD g σ ++ X) r') (F0 m 4 ls [])) := by
  have hx := C.1
  have hb := C.2.1
  have hE := C.2.2.2.2.2.2.2.2
  intro n
  induction n with
  | zero =>
    intro σ x2 x3 h
    cases h
  | succ n ih =>
    intro σ x2 x3 h H locs ls hd hl
    rw [f_X0_chainOf_4] at h
    refine lv_iload_n hx hb dX0_chainOf_4 rfl (lv_at hl 1 rfl) ?_
    refine lv_bipush (v := 10) hx hb dX0_chainOf_5 bi_10 ?_
    refine lv_icmp_ge (tgt := 31) hx hb dX0_chainOf_7 (by decide) (fun c1 => ?_) (fun c1 => ?_)
    · replace h := iteT c1 h
      refine lv_iload_n hx hb dX0_chainOf_31 rfl (lv_at hl 1 rfl) ?_
      exact rIretP C hr hd h dX0_chainOf_32
    · replace h := iteF c1 h
      refine lv_aload_n hx hb dX0_chainOf_10 rfl (lv_at hl 0 rfl) ?_
      refine lv_iload_n hx hb dX0_chainOf_11 rfl (lv_at hl 2 rfl) ?_
      obtain ⟨r2, er2, h⟩ := cal_e h
      refine rCallI C hd (c_X0_hasCopy hE er2) kX0_46 3 rfl rfl rfl rfl hl.1 rfl (Nat.le_of_ble_eq_true rfl) ⟨(Nat.le_of_ble_eq_true rfl), (Nat.le_of_ble_eq_true rfl)⟩ ⟨Nat.le_refl _, Nat.le_refl _⟩ dX0_chainOf_12 (fun H locs hd => ?_)
      refine lv_if_eq (tgt := 31) hx hb dX0_chainOf_15 (by decide) (fun c3 => ?_) (fun c3 => ?_)
      · replace h := iteT c3 h
        refine lv_iload_n hx hb dX0_chainOf_31 rfl (lv_at hl 1 rfl) ?_
        exact rIretP C hr hd h dX0_chainOf_32
      · replace h := iteF c3 h
        obtain ⟨v4, ev4, h⟩ := bnd_e h
        refine lv_iinc (v := v4) (lv' := [(2, .int v4), (0, .ref (ga g 3)), (3, .int x3)]) hx hb dX0_chainOf_18 hl (k := 1) rfl ((ii_1 _).trans ev4.symm) (Nat.le_of_ble_eq_true rfl) rfl (fun ls hl => ?_)
        refine lv_aload_n hx hb dX0_chainOf_21 rfl (lv_at hl 1 rfl) ?_
        refine gX0_25 C hd dX0_chainOf_22 ?_
        refine lv_iload_n hx hb dX0_chainOf_25 rfl (lv_at hl 2 rfl) ?_
        obtain ⟨n5, h⟩ := chk h
        refine ld_wD_20 C hd (inb_i n5) dX0_chainOf_26 ?_
        obtain ⟨v6, ev6, h⟩ := bnd_e h
        refine rTop ev6 ?_
        refine lv_istore_n (lv' := [(3, .int v6), (2, .int v4), (0, .ref (ga g 3))]) hx hb dX0_chainOf_27 rfl hl (Nat.le_of_ble_eq_true rfl) rfl (fun ls hl => ?_)
        refine lv_goto (tgt := 4) hx hb dX0_chainOf_28 (by decide) ?_
        exact ih σ v4 v6 h _ _ _ hd (lv_sub hl [2, 1, 0] rfl)
noncomputable def f_X0_chainOf (F : Nat) (σ : St) (x1 : Int32) : Option Int32 :=
  f_X0_chainOf_4 F F σ 0 x1
set_option maxRecDepth 100000 in
set_option maxHeartbeats 4000000 in
theorem c_X0_chainOf {l : Launch} {g : Gp} {X : va_W} (hE : E0 g) {F : Nat} {r' : Int32} {σ : St} {x1 : Int32} (h : f_X0_chainOf F σ x1 = some r') : Ci l g yX0_chainOf cX0_chainOf 4 (some .int) 1 [.ref (ga g 3), .int x1] (wD g σ ++ X) r' (wD g σ ++ X) := by
  refine rHead hE (by decide +kernel) (Nat.le_of_ble_eq_true rfl) (fun p e s m below meth c C hr _ hd ls hl => ?_)
  have hx := C.1
  have hb := C.2.1
  have hl : lv_has ls 4 [(0, .ref (ga g 3)), (1, .int x1)] := hl
  generalize ([.ref (ga g 3), .int x1] : List Value).toArray = args at C ⊢
  have C : Cx g p s m args meth c cX0_chainOf 4 RX0 := C
  rw [f_X0_chainOf] at h
  refine lv_iconst (v := 0) hx hb dX0_chainOf_0 ic_0 ?_
  refine lv_istore_n (lv' := [(2, .int 0), (0, .ref (ga g 3)), (1, .int x1)]) hx hb dX0_chainOf_1 rfl hl (Nat.le_of_ble_eq_true rfl) rfl (fun ls hl => ?_)
  refine lv_iload_n hx hb dX0_chainOf_2 rfl (lv_at hl 2 rfl) ?_
  refine lv_istore_n (lv' := [(3, .int x1), (2, .int 0), (0, .ref (ga g 3)), (1, .int x1)]) hx hb dX0_chainOf_3 rfl hl (Nat.le_of_ble_eq_true rfl) rfl (fun ls hl => ?_)
  exact w_X0_chainOf_4 C hr _ σ 0 x1 h _ _ _ hd (lv_sub hl [2, 1, 0] rfl)
noncomputable def f_X0_isFit_28 (F : Nat) : Nat → St → Int32 → Int32 → Option Int32
  | 0, _, _, _ => none
  | n + 1, σ, x3, x4 => if 10 ≤ x4 then (some 1) else (cal (f_X0_hasCopy F σ x3) (fun r2 => if r2 = 0 then (some 1) else (if ((((σ.1 9) ||| (σ.1 10)) >>> (x3 &&& 31)) &&& 1) = 0 then (if inb x3 10 = true then bnd (σ.2.1 20 x3.toNatClampNeg) (fun v6 => bnd (x4 + 1) (fun v7 => f_X0_isFit_28 F n σ v6 v7)) else none) else (some 0))))
set_option maxRecDepth 100000 in
set_option maxHeartbeats 4000000 in
theorem w_X0_isFit_28 {F : Nat} {r' : Int32}  (C : Cx g p s m args meth c cX0_isFit 5 RX0) (hr : meth.sig.returnType = some .boolean) :
    (∀ (n : Nat) (σ : St) (x3 : Int32) (x4 : Int32), f_X0_isFit_28 F n σ x3 x4 = some r' → ∀ (H : Heap) (locs : List Loc) (ls : Array Slot), Dy g (wD g σ ++ X) s H locs → lv_has ls 5 [(0, .ref (ga g 3)), (3, .int x3), (4, .int x4)] → W p l e (rmD 2) s m args below meth c H locs 0 0 (QI g below args s (wD g σ ++ X) r') (F0 m 28 ls [])) := by
  have hx := C.1
  have hb := C.2.1
  have hE := C.2.2.2.2.2.2.2.2
  intro n
  induction n with
  | zero =>
    intro σ x3 x4 h
    cases h
  | succ n ih =>
    intro σ x3 x4 h H locs ls hd hl
    rw [f_X0_isFit_28] at h
    refine lv_iload hx hb dX0_isFit_28 (lv_at hl 2 rfl) ?_
    refine lv_bipush (v := 10) hx hb dX0_isFit_30 bi_10 ?_
    refine lv_icmp_ge (tgt := 74) hx hb dX0_isFit_32 (by decide) (fun c1 => ?_) (fun c1 => ?_)
    · replace h := iteT c1 h
      refine lv_iconst (v := 1) hx hb dX0_isFit_74 ic_1 ?_
      exact rZretP C hr hd h (by decide) dX0_isFit_75
    · replace h := iteF c1 h
      refine lv_aload_n hx hb dX0_isFit_35 rfl (lv_at hl 0 rfl) ?_
      refine lv_iload_n hx hb dX0_isFit_36 rfl (lv_at hl 1 rfl) ?_
      obtain ⟨r2, er2, h⟩ := cal_e h
      refine rCallI C hd (c_X0_hasCopy hE er2) kX0_46 3 rfl rfl rfl rfl hl.1 rfl (Nat.le_of_ble_eq_true rfl) ⟨(Nat.le_of_ble_eq_true rfl), (Nat.le_of_ble_eq_true rfl)⟩ ⟨Nat.le_refl _, Nat.le_refl _⟩ dX0_isFit_37 (fun H locs hd => ?_)
      refine lv_if_eq (tgt := 74) hx hb dX0_isFit_40 (by decide) (fun c3 => ?_) (fun c3 => ?_)
      · replace h := iteT c3 h
        refine lv_iconst (v := 1) hx hb dX0_isFit_74 ic_1 ?_
        exact rZretP C hr hd h (by decide) dX0_isFit_75
      · replace h := iteF c3 h
        refine lv_aload_n hx hb dX0_isFit_43 rfl (lv_at hl 0 rfl) ?_
        refine gX0_15 C hd dX0_isFit_44 ?_
        refine lv_aload_n hx hb dX0_isFit_47 rfl (lv_at hl 0 rfl) ?_
        refine gX0_18 C hd dX0_isFit_48 ?_
        refine lv_ior hx hb dX0_isFit_51 ?_
        refine lv_iload_n hx hb dX0_isFit_52 rfl (lv_at hl 1 rfl) ?_
        refine lv_ishr hx hb dX0_isFit_53 ?_
        refine lv_iconst (v := 1) hx hb dX0_isFit_54 ic_1 ?_
        refine lv_iand hx hb dX0_isFit_55 ?_
        refine lv_if_eq (tgt := 61) hx hb dX0_isFit_56 (by decide) (fun c4 => ?_) (fun c4 => ?_)
        · replace h := iteT c4 h
          refine lv_aload_n hx hb dX0_isFit_61 rfl (lv_at hl 0 rfl) ?_
          refine gX0_25 C hd dX0_isFit_62 ?_
          refine lv_iload_n hx hb dX0_isFit_65 rfl (lv_at hl 1 rfl) ?_
          obtain ⟨n5, h⟩ := chk h
          refine ld_wD_20 C hd (inb_i n5) dX0_isFit_66 ?_
          obtain ⟨v6, ev6, h⟩ := bnd_e h
          refine rTop ev6 ?_
          refine lv_istore_n (lv' := [(3, .int v6), (0, .ref (ga g 3)), (4, .int x4)]) hx hb dX0_isFit_67 rfl hl (Nat.le_of_ble_eq_true rfl) rfl (fun ls hl => ?_)
          obtain ⟨v7, ev7, h⟩ := bnd_e h
          refine lv_iinc (v := v7) (lv' := [(4, .int v7), (3, .int v6), (0, .ref (ga g 3))]) hx hb dX0_isFit_68 hl (k := 2) rfl ((ii_1 _).trans ev7.symm) (Nat.le_of_ble_eq_true rfl) rfl (fun ls hl => ?_)
          refine lv_goto (tgt := 28) hx hb dX0_isFit_71 (by decide) ?_
          exact ih σ v6 v7 h _ _ _ hd (lv_sub hl [2, 1, 0] rfl)
        · replace h := iteF c4 h
          refine lv_iconst (v := 0) hx hb dX0_isFit_59 ic_0 ?_
          exact rZretP C hr hd h (by decide) dX0_isFit_60
noncomputable def f_X0_isFit (F : Nat) (σ : St) (x1 : Int32) (x2 : Int32) : Option Int32 :=
  cal (f_X0_hasCopy F σ x1) (fun r1 => if r1 = 0 then (some 0) else (cal (f_X0_allPages F σ x1) (fun r3 => if r3 = ((1 <<< (x2 &&& 31)) - 1) then (f_X0_isFit_28 F F σ x1 0) else (some 0))))
set_option maxRecDepth 100000 in
set_option maxHeartbeats 4000000 in
theorem c_X0_isFit {l : Launch} {g : Gp} {X : va_W} (hE : E0 g) {F : Nat} {r' : Int32} {σ : St} {x1 : Int32} {x2 : Int32} (h : f_X0_isFit F σ x1 x2 = some r') : Ci l g yX0_isFit cX0_isFit 5 (some .boolean) 2 [.ref (ga g 3), .int x1, .int x2] (wD g σ ++ X) r' (wD g σ ++ X) := by
  refine rHead hE (by decide +kernel) (Nat.le_of_ble_eq_true rfl) (fun p e s m below meth c C hr _ hd ls hl => ?_)
  have hx := C.1
  have hb := C.2.1
  have hl : lv_has ls 5 [(0, .ref (ga g 3)), (1, .int x1), (2, .int x2)] := hl
  generalize ([.ref (ga g 3), .int x1, .int x2] : List Value).toArray = args at C ⊢
  have C : Cx g p s m args meth c cX0_isFit 5 RX0 := C
  rw [f_X0_isFit] at h
  refine lv_aload_n hx hb dX0_isFit_0 rfl (lv_at hl 0 rfl) ?_
  refine lv_iload_n hx hb dX0_isFit_1 rfl (lv_at hl 1 rfl) ?_
  obtain ⟨r1, er1, h⟩ := cal_e h
  refine rCallI C hd (c_X0_hasCopy hE er1) kX0_46 3 rfl rfl rfl rfl hl.1 rfl (Nat.le_of_ble_eq_true rfl) ⟨(Nat.le_of_ble_eq_true rfl), (Nat.le_of_ble_eq_true rfl)⟩ ⟨Nat.le_refl _, Nat.le_refl _⟩ dX0_isFit_2 (fun H locs hd => ?_)
  refine lv_if_eq (tgt := 21) hx hb dX0_isFit_5 (by decide) (fun c2 => ?_) (fun c2 => ?_)
  · replace h := iteT c2 h
    refine lv_iconst (v := 0) hx hb dX0_isFit_21 ic_0 ?_
    exact rZretP C hr hd h (by decide) dX0_isFit_22
  · replace h := iteF c2 h
    refine lv_aload_n hx hb dX0_isFit_8 rfl (lv_at hl 0 rfl) ?_
    refine lv_iload_n hx hb dX0_isFit_9 rfl (lv_at hl 1 rfl) ?_
    obtain ⟨r3, er3, h⟩ := cal_e h
    refine rCallI C hd (c_X0_allPages hE er3) kX0_59 3 rfl rfl rfl rfl hl.1 rfl (Nat.le_of_ble_eq_true rfl) ⟨(Nat.le_of_ble_eq_true rfl), (Nat.le_of_ble_eq_true rfl)⟩ ⟨Nat.le_refl _, Nat.le_refl _⟩ dX0_isFit_10 (fun H locs hd => ?_)
    refine lv_iconst (v := 1) hx hb dX0_isFit_13 ic_1 ?_
    refine lv_iload_n hx hb dX0_isFit_14 rfl (lv_at hl 2 rfl) ?_
    refine lv_ishl hx hb dX0_isFit_15 ?_
    refine lv_iconst (v := 1) hx hb dX0_isFit_16 ic_1 ?_
    refine lv_isub hx hb dX0_isFit_17 ?_
    refine lv_icmp_eq (tgt := 23) hx hb dX0_isFit_18 (by decide) (fun c4 => ?_) (fun c4 => ?_)
    · replace h := iteT c4 h
      refine lv_iload_n hx hb dX0_isFit_23 rfl (lv_at hl 1 rfl) ?_
      refine lv_istore_n (lv' := [(3, .int x1), (0, .ref (ga g 3)), (1, .int x1), (2, .int x2)]) hx hb dX0_isFit_24 rfl hl (Nat.le_of_ble_eq_true rfl) rfl (fun ls hl => ?_)
      refine lv_iconst (v := 0) hx hb dX0_isFit_25 ic_0 ?_
      refine lv_istore (lv' := [(4, .int 0), (3, .int x1), (0, .ref (ga g 3)), (1, .int x1), (2, .int x2)]) hx hb dX0_isFit_26 hl (Nat.le_of_ble_eq_true rfl) rfl (fun ls hl => ?_)
      exact w_X0_isFit_28 C hr _ σ x1 0 h _ _ _ hd (lv_sub hl [2, 1, 0] rfl)
    · replace h := iteF c4 h
      refine lv_iconst (v := 0) hx hb dX0_isFit_21 ic_0 ?_
      exact rZretP C hr hd h (by decide) dX0_isFit_22
noncomputable def f_X0_fitOnes_29 (F : Nat) (k_4 : St → Int32 → Int32 → Int32 → Option Int32) (σ : St) (x1 : Int32) (x3 : Int32) (y0 : Int32) (y1 : Int32) : Option Int32 :=
  bnd (y1 ||| y0) (fun v1 => bnd (x3 + 1) (fun v2 => k_4 σ x1 v1 v2))
set_option maxRecDepth 100000 in
set_option maxHeartbeats 4000000 in
theorem w_X0_fitOnes_29 {F : Nat} {r' : Int32}  (C : Cx g p s m args meth c cX0_fitOnes 4 RX0) (hr : meth.sig.returnType = some .int)
    {k_4 : St → Int32 → Int32 → Int32 → Option Int32} (hk_4 : (∀ (σ : St) (x1 : Int32) (x2 : Int32) (x3 : Int32), k_4 σ x1 x2 x3 = some r' → ∀ (H : Heap) (locs : List Loc) (ls : Array Slot), Dy g (wD g σ ++ X) s H locs → lv_has ls 4 [(0, .ref (ga g 3)), (1, .int x1), (2, .int x2), (3, .int x3)] → W p l e (rmD 3) s m args below meth c H locs 0 0 (QI g below args s (wD g σ ++ X) r') (F0 m 4 ls []))) :
    (∀ (σ : St) (x1 : Int32) (x3 : Int32) (y0 : Int32) (y1 : Int32), f_X0_fitOnes_29 F k_4 σ x1 x3 y0 y1 = some r' → ∀ (H : Heap) (locs : List Loc) (ls : Array Slot), Dy g (wD g σ ++ X) s H locs → lv_has ls 4 [(0, .ref (ga g 3)), (1, .int x1), (3, .int x3)] → W p l e (rmD 3) s m args below meth c H locs 0 0 (QI g below args s (wD g σ ++ X) r') (F0 m 29 ls [.int y0, .int y1])) := by
  have hx := C.1
  have hb := C.2.1
  have hE := C.2.2.2.2.2.2.2.2
  intro σ x1 x3 y0 y1 h H locs ls hd hl
  rw [f_X0_fitOnes_29] at h
  refine lv_ior hx hb dX0_fitOnes_29 ?_
  obtain ⟨v1, ev1, h⟩ := bnd_e h
  refine rTop ev1 ?_
  refine lv_istore_n (lv' := [(2, .int v1), (0, .ref (ga g 3)), (1, .int x1), (3, .int x3)]) hx hb dX0_fitOnes_30 rfl hl (Nat.le_of_ble_eq_true rfl) rfl (fun ls hl => ?_)
  obtain ⟨v2, ev2, h⟩ := bnd_e h
  refine lv_iinc (v := v2) (lv' := [(3, .int v2), (2, .int v1), (0, .ref (ga g 3)), (1, .int x1)]) hx hb dX0_fitOnes_31 hl (k := 3) rfl ((ii_1 _).trans ev2.symm) (Nat.le_of_ble_eq_true rfl) rfl (fun ls hl => ?_)
  refine lv_goto (tgt := 4) hx hb dX0_fitOnes_34 (by decide) ?_
  exact hk_4 σ x1 v1 v2 h _ _ _ hd (lv_sub hl [2, 3, 1, 0] rfl)
noncomputable def f_X0_fitOnes_4 (F : Nat) : Nat → St → Int32 → Int32 → Int32 → Option Int32
  | 0, _, _, _, _ => none
  | n + 1, σ, x1, x2, x3 => if (σ.1 8) ≤ x3 then (some x2) else (cal (f_X0_isFit F σ x3 x1) (fun r2 => if r2 = 0 then (f_X0_fitOnes_29 F (f_X0_fitOnes_4 F n) σ x1 x3 0 x2) else (f_X0_fitOnes_29 F (f_X0_fitOnes_4 F n) σ x1 x3 (1 <<< (x3 &&& 31)) x2)))
set_option maxRecDepth 100000 in
set_option maxHeartbeats 4000000 in
theorem w_X0_fitOnes_4 {F : Nat} {r' : Int32}  (C : Cx g p s m args meth c cX0_fitOnes 4 RX0) (hr : meth.sig.returnType = some .int) :
    (∀ (n : Nat) (σ : St) (x1 : Int32) (x2 : Int32) (x3 : Int32), f_X0_fitOnes_4 F n σ x1 x2 x3 = some r' → ∀ (H : Heap) (locs : List Loc) (ls : Array Slot), Dy g (wD g σ ++ X) s H locs → lv_has ls 4 [(0, .ref (ga g 3)), (1, .int x1), (2, .int x2), (3, .int x3)] → W p l e (rmD 3) s m args below meth c H locs 0 0 (QI g below args s (wD g σ ++ X) r') (F0 m 4 ls [])) := by
  have hx := C.1
  have hb := C.2.1
  have hE := C.2.2.2.2.2.2.2.2
  intro n
  induction n with
  | zero =>
    intro σ x1 x2 x3 h
    cases h
  | succ n ih =>
    intro σ x1 x2 x3 h H locs ls hd hl
    rw [f_X0_fitOnes_4] at h
    refine lv_iload_n hx hb dX0_fitOnes_4 rfl (lv_at hl 3 rfl) ?_
    refine lv_aload_n hx hb dX0_fitOnes_5 rfl (lv_at hl 0 rfl) ?_
    refine gX0_9 C hd dX0_fitOnes_6 ?_
    refine lv_icmp_ge (tgt := 37) hx hb dX0_fitOnes_9 (by decide) (fun c1 => ?_) (fun c1 => ?_)
    · replace h := iteT c1 h
      refine lv_iload_n hx hb dX0_fitOnes_37 rfl (lv_at hl 2 rfl) ?_
      exact rIretP C hr hd h dX0_fitOnes_38
    · replace h := iteF c1 h
      refine lv_iload_n hx hb dX0_fitOnes_12 rfl (lv_at hl 2 rfl) ?_
      refine lv_aload_n hx hb dX0_fitOnes_13 rfl (lv_at hl 0 rfl) ?_
      refine lv_iload_n hx hb dX0_fitOnes_14 rfl (lv_at hl 3 rfl) ?_
      refine lv_iload_n hx hb dX0_fitOnes_15 rfl (lv_at hl 1 rfl) ?_
      obtain ⟨r2, er2, h⟩ := cal_e h
      refine rCallI C hd (c_X0_isFit hE er2) kX0_63 3 rfl rfl rfl rfl hl.1 rfl (Nat.le_of_ble_eq_true rfl) ⟨(Nat.le_of_ble_eq_true rfl), (Nat.le_of_ble_eq_true rfl)⟩ ⟨Nat.le_refl _, Nat.le_refl _⟩ dX0_fitOnes_16 (fun H locs hd => ?_)
      refine lv_if_eq (tgt := 28) hx hb dX0_fitOnes_19 (by decide) (fun c3 => ?_) (fun c3 => ?_)
      · replace h := iteT c3 h
        refine lv_iconst (v := 0) hx hb dX0_fitOnes_28 ic_0 ?_
        exact w_X0_fitOnes_29 C hr ih σ x1 x3 0 x2 h _ _ _ hd (lv_sub hl [0, 1, 3] rfl)
      · replace h := iteF c3 h
        refine lv_iconst (v := 1) hx hb dX0_fitOnes_22 ic_1 ?_
        refine lv_iload_n hx hb dX0_fitOnes_23 rfl (lv_at hl 3 rfl) ?_
        refine lv_ishl hx hb dX0_fitOnes_24 ?_
        refine lv_goto (tgt := 29) hx hb dX0_fitOnes_25 (by decide) ?_
        exact w_X0_fitOnes_29 C hr ih σ x1 x3 (1 <<< (x3 &&& 31)) x2 h _ _ _ hd (lv_sub hl [0, 1, 3] rfl)
noncomputable def f_X0_fitOnes (F : Nat) (σ : St) (x1 : Int32) : Option Int32 :=
  f_X0_fitOnes_4 F F σ x1 0 0
set_option maxRecDepth 100000 in
set_option maxHeartbeats 4000000 in
theorem c_X0_fitOnes {l : Launch} {g : Gp} {X : va_W} (hE : E0 g) {F : Nat} {r' : Int32} {σ : St} {x1 : Int32} (h : f_X0_fitOnes F σ x1 = some r') : Ci l g yX0_fitOnes cX0_fitOnes 4 (some .int) 3 [.ref (ga g 3), .int x1] (wD g σ ++ X) r' (wD g σ ++ X) := by
  refine rHead hE (by decide +kernel) (Nat.le_of_ble_eq_true rfl) (fun p e s m below meth c C hr _ hd ls hl => ?_)
  have hx := C.1
  have hb := C.2.1
  have hl : lv_has ls 4 [(0, .ref (ga g 3)), (1, .int x1)] := hl
  generalize ([.ref (ga g 3), .int x1] : List Value).toArray = args at C ⊢
  have C : Cx g p s m args meth c cX0_fitOnes 4 RX0 := C
  rw [f_X0_fitOnes] at h
  refine lv_iconst (v := 0) hx hb dX0_fitOnes_0 ic_0 ?_
  refine lv_istore_n (lv' := [(2, .int 0), (0, .ref (ga g 3)), (1, .int x1)]) hx hb dX0_fitOnes_1 rfl hl (Nat.le_of_ble_eq_true rfl) rfl (fun ls hl => ?_)
  refine lv_iconst (v := 0) hx hb dX0_fitOnes_2 ic_0 ?_
  refine lv_istore_n (lv' := [(3, .int 0), (2, .int 0), (0, .ref (ga g 3)), (1, .int x1)]) hx hb dX0_fitOnes_3 rfl hl (Nat.le_of_ble_eq_true rfl) rfl (fun ls hl => ?_)
  exact w_X0_fitOnes_4 C hr _ σ x1 0 0 h _ _ _ hd (lv_sub hl [2, 3, 1, 0] rfl)
noncomputable def f_X0_forget (F : Nat) (σ : St) : Option St :=
  bnd (ss σ 8 0) (fun t1 => bnd (ss t1 9 0) (fun t2 => bnd (ss t2 10 0) (fun t3 => some t3)))
set_option maxRecDepth 100000 in
set_option maxHeartbeats 4000000 in
theorem c_X0_forget {l : Launch} {g : Gp} {X : va_W} (hE : E0 g) {F : Nat} {σ' : St} {σ : St} (h : f_X0_forget F σ = some σ') : Cv l g yX0_forget cX0_forget 1 0 [.ref (ga g 3)] (wD g σ ++ X) (wD g σ' ++ X) := by
  refine rHead hE (by decide +kernel) (Nat.le_of_ble_eq_true rfl) (fun p e s m below meth c C hr _ hd ls hl => ?_)
  have hx := C.1
  have hb := C.2.1
  have hl : lv_has ls 1 [(0, .ref (ga g 3))] := hl
  generalize ([.ref (ga g 3)] : List Value).toArray = args at C ⊢
  have C : Cx g p s m args meth c cX0_forget 1 RX0 := C
  rw [f_X0_forget] at h
  refine lv_aload_n hx hb dX0_forget_0 rfl (lv_at hl 0 rfl) ?_
  refine lv_iconst (v := 0) hx hb dX0_forget_1 ic_0 ?_
  obtain ⟨t1, et1, h⟩ := bnd_e h
  refine pX0_9 C hd et1 dX0_forget_2 (fun H locs hd => ?_)
  refine lv_aload_n hx hb dX0_forget_5 rfl (lv_at hl 0 rfl) ?_
  refine lv_iconst (v := 0) hx hb dX0_forget_6 ic_0 ?_
  obtain ⟨t2, et2, h⟩ := bnd_e h
  refine pX0_15 C hd et2 dX0_forget_7 (fun H locs hd => ?_)
  refine lv_aload_n hx hb dX0_forget_10 rfl (lv_at hl 0 rfl) ?_
  refine lv_iconst (v := 0) hx hb dX0_forget_11 ic_0 ?_
  obtain ⟨t3, et3, h⟩ := bnd_e h
  refine pX0_18 C hd et3 dX0_forget_12 (fun H locs hd => ?_)
  exact rVretS (w := wD g) C hr hd h dX0_forget_15
noncomputable def f_X0_isOpen (F : Nat) (σ : St) (x1 : Int32) : Option Int32 :=
  cal (f_X0_hasCopy F σ x1) (fun r1 => if r1 = 0 then (some 0) else (if (((σ.1 9) >>> (x1 &&& 31)) &&& 1) = 0 then (some 0) else (some 1)))
set_option maxRecDepth 100000 in
set_option maxHeartbeats 4000000 in
theorem c_X0_isOpen {l : Launch} {g : Gp} {X : va_W} (hE : E0 g) {F : Nat} {r' : Int32} {σ : St} {x1 : Int32} (h : f_X0_isOpen F σ x1 = some r') : Ci l g yX0_isOpen cX0_isOpen 2 (some .boolean) 1 [.ref (ga g 3), .int x1] (wD g σ ++ X) r' (wD g σ ++ X) := by
  refine rHead hE (by decide +kernel) (Nat.le_of_ble_eq_true rfl) (fun p e s m below meth c C hr _ hd ls hl => ?_)
  have hx := C.1
  have hb := C.2.1
  have hl : lv_has ls 2 [(0, .ref (ga g 3)), (1, .int x1)] := hl
  generalize ([.ref (ga g 3), .int x1] : List Value).toArray = args at C ⊢
  have C : Cx g p s m args meth c cX0_isOpen 2 RX0 := C
  rw [f_X0_isOpen] at h
  refine lv_aload_n hx hb dX0_isOpen_0 rfl (lv_at hl 0 rfl) ?_
  refine lv_iload_n hx hb dX0_isOpen_1 rfl (lv_at hl 1 rfl) ?_
  obtain ⟨r1, er1, h⟩ := cal_e h
  refine rCallI C hd (c_X0_hasCopy hE er1) kX0_46 3 rfl rfl rfl rfl hl.1 rfl (Nat.le_of_ble_eq_true rfl) ⟨(Nat.le_of_ble_eq_true rfl), (Nat.le_of_ble_eq_true rfl)⟩ ⟨Nat.le_refl _, Nat.le_refl _⟩ dX0_isOpen_2 (fun H locs hd => ?_)
  refine lv_if_eq (tgt := 23) hx hb dX0_isOpen_5 (by decide) (fun c2 => ?_) (fun c2 => ?_)
  · replace h := iteT c2 h
    refine lv_iconst (v := 0) hx hb dX0_isOpen_23 ic_0 ?_
    exact rZretP C hr hd h (by decide) dX0_isOpen_24
  · replace h := iteF c2 h
    refine lv_aload_n hx hb dX0_isOpen_8 rfl (lv_at hl 0 rfl) ?_
    refine gX0_15 C hd dX0_isOpen_9 ?_
    refine lv_iload_n hx hb dX0_isOpen_12 rfl (lv_at hl 1 rfl) ?_
    refine lv_ishr hx hb dX0_isOpen_13 ?_
    refine lv_iconst (v := 1) hx hb dX0_isOpen_14 ic_1 ?_
    refine lv_iand hx hb dX0_isOpen_15 ?_
    refine lv_if_eq (tgt := 23) hx hb dX0_isOpen_16 (by decide) (fun c3 => ?_) (fun c3 => ?_)
    · replace h := iteT c3 h
      refine lv_iconst (v := 0) hx hb dX0_isOpen_23 ic_0 ?_
      exact rZretP C hr hd h (by decide) dX0_isOpen_24
    · replace h := iteF c3 h
      refine lv_iconst (v := 1) hx hb dX0_isOpen_19 ic_1 ?_
      refine lv_goto (tgt := 24) hx hb dX0_isOpen_20 (by decide) ?_
      exact rZretP C hr hd h (by decide) dX0_isOpen_24
noncomputable def f_X0_letGo (F : Nat) (σ : St) (x1 : Int32) : Option (Int32 × St) :=
  cal (f_X0_hasCopy F σ x1) (fun r1 => if r1 = 0 then (some (0, σ)) else (cal (f_X0_isOpen F σ x1) (fun r3 => if r3 = 0 then (cal (f_X0_isDropped F σ x1) (fun r5 => if r5 = 0 then (cal (f_X0_carriesOne F σ x1) (fun r7 => if r7 = 0 then (bnd (ss σ 10 ((σ.1 10) ||| (1 <<< (x1 &&& 31)))) (fun t9 => some (1, t9))) else (some (0, σ)))) else (some (0, σ)))) else (some (0, σ)))))
set_option maxRecDepth 100000 in
set_option maxHeartbeats 4000000 in
theorem c_X0_letGo {l : Launch} {g : Gp} {X : va_W} (hE : E0 g) {F : Nat} {r' : Int32} {σ' : St} {σ : St} {x1 : Int32} (h : f_X0_letGo F σ x1 = some (r', σ')) : Ci l g yX0_letGo cX0_letGo 2 (some .boolean) 3 [.ref (ga g 3), .int x1] (wD g σ ++ X) r' (wD g σ' ++ X) := by
  refine rHead hE (by decide +kernel) (Nat.le_of_ble_eq_true rfl) (fun p e s m below meth c C hr _ hd ls hl => ?_)
  have hx := C.1
  have hb := C.2.1
  have hl : lv_has ls 2 [(0, .ref (ga g 3)), (1, .int x1)] := hl
  generalize ([.ref (ga g 3), .int x1] : List Value).toArray = args at C ⊢
  have C : Cx g p s m args meth c cX0_letGo 2 RX0 := C
  rw [f_X0_letGo] at h
  refine lv_aload_n hx hb dX0_letGo_0 rfl (lv_at hl 0 rfl) ?_
  refine lv_iload_n hx hb dX0_letGo_1 rfl (lv_at hl 1 rfl) ?_
  obtain ⟨r1, er1, h⟩ := cal_e h
  refine rCallI C hd (c_X0_hasCopy hE er1) kX0_46 3 rfl rfl rfl rfl hl.1 rfl (Nat.le_of_ble_eq_true rfl) ⟨(Nat.le_of_ble_eq_true rfl), (Nat.le_of_ble_eq_true rfl)⟩ ⟨Nat.le_refl _, Nat.le_refl _⟩ dX0_letGo_2 (fun H locs hd => ?_)
  refine lv_if_eq (tgt := 32) hx hb dX0_letGo_5 (by decide) (fun c2 => ?_) (fun c2 => ?_)
  · replace h := iteT c2 h
    refine lv_iconst (v := 0) hx hb dX0_letGo_32 ic_0 ?_
    exact rZretS (w := wD g) C hr hd h (by decide) dX0_letGo_33
  · replace h := iteF c2 h
    refine lv_aload_n hx hb dX0_letGo_8 rfl (lv_at hl 0 rfl) ?_
    refine lv_iload_n hx hb dX0_letGo_9 rfl (lv_at hl 1 rfl) ?_
    obtain ⟨r3, er3, h⟩ := cal_e h
    refine rCallI C hd (c_X0_isOpen hE er3) kX0_50 3 rfl rfl rfl rfl hl.1 rfl (Nat.le_of_ble_eq_true rfl) ⟨(Nat.le_of_ble_eq_true rfl), (Nat.le_of_ble_eq_true rfl)⟩ ⟨Nat.le_refl _, Nat.le_refl _⟩ dX0_letGo_10 (fun H locs hd => ?_)
    refine lv_if_ne (tgt := 32) hx hb dX0_letGo_13 (by decide) (fun c4 => ?_) (fun c4 => ?_)
    · replace h := iteF c4 h
      refine lv_iconst (v := 0) hx hb dX0_letGo_32 ic_0 ?_
      exact rZretS (w := wD g) C hr hd h (by decide) dX0_letGo_33
    · replace h := iteT c4 h
      refine lv_aload_n hx hb dX0_letGo_16 rfl (lv_at hl 0 rfl) ?_
      refine lv_iload_n hx hb dX0_letGo_17 rfl (lv_at hl 1 rfl) ?_
      obtain ⟨r5, er5, h⟩ := cal_e h
      refine rCallI C hd (c_X0_isDropped hE er5) kX0_53 3 rfl rfl rfl rfl hl.1 rfl (Nat.le_of_ble_eq_true rfl) ⟨(Nat.le_of_ble_eq_true rfl), (Nat.le_of_ble_eq_true rfl)⟩ ⟨Nat.le_refl _, Nat.le_refl _⟩ dX0_letGo_18 (fun H locs hd => ?_)
      refine lv_if_ne (tgt := 32) hx hb dX0_letGo_21 (by decide) (fun c6 => ?_) (fun c6 => ?_)
      · replace h := iteF c6 h
        refine lv_iconst (v := 0) hx hb dX0_letGo_32 ic_0 ?_
        exact rZretS (w := wD g) C hr hd h (by decide) dX0_letGo_33
      · replace h := iteT c6 h
        refine lv_aload_n hx hb dX0_letGo_24 rfl (lv_at hl 0 rfl) ?_
        refine lv_iload_n hx hb dX0_letGo_25 rfl (lv_at hl 1 rfl) ?_
        obtain ⟨r7, er7, h⟩ := cal_e h
        refine rCallI C hd (c_X0_carriesOne hE er7) kX0_56 3 rfl rfl rfl rfl hl.1 rfl (Nat.le_of_ble_eq_true rfl) ⟨(Nat.le_of_ble_eq_true rfl), (Nat.le_of_ble_eq_true rfl)⟩ ⟨Nat.le_refl _, Nat.le_refl _⟩ dX0_letGo_26 (fun H locs hd => ?_)
        refine lv_if_eq (tgt := 34) hx hb dX0_letGo_29 (by decide) (fun c8 => ?_) (fun c8 => ?_)
        · replace h := iteT c8 h
          refine lv_aload_n hx hb dX0_letGo_34 rfl (lv_at hl 0 rfl) ?_
          refine lv_dup hx hb dX0_letGo_35 rfl ?_
          refine gX0_18 C hd dX0_letGo_36 ?_
          refine lv_iconst (v := 1) hx hb dX0_letGo_39 ic_1 ?_
          refine lv_iload_n hx hb dX0_letGo_40 rfl (lv_at hl 1 rfl) ?_
          refine lv_ishl hx hb dX0_letGo_41 ?_
          refine lv_ior hx hb dX0_letGo_42 ?_
          obtain ⟨t9, et9, h⟩ := bnd_e h
          refine pX0_18 C hd et9 dX0_letGo_43 (fun H locs hd => ?_)
          refine lv_iconst (v := 1) hx hb dX0_letGo_46 ic_1 ?_
          exact rZretS (w := wD g) C hr hd h (by decide) dX0_letGo_47
        · replace h := iteF c8 h
          refine lv_iconst (v := 0) hx hb dX0_letGo_32 ic_0 ?_
          exact rZretS (w := wD g) C hr hd h (by decide) dX0_letGo_33
noncomputable def f_X0_lineOf (F : Nat) (σ : St) (x1 : Int32) : Option Int32 :=
  cal (f_X0_hasCopy F σ x1) (fun r1 => if r1 = 0 then (some (-1 : Int32)) else (if inb x1 10 = true then some (σ.2.1 19 x1.toNatClampNeg) else none))
set_option maxRecDepth 100000 in
set_option maxHeartbeats 4000000 in
theorem c_X0_lineOf {l : Launch} {g : Gp} {X : va_W} (hE : E0 g) {F : Nat} {r' : Int32} {σ : St} {x1 : Int32} (h : f_X0_lineOf F σ x1 = some r') : Ci l g yX0_lineOf cX0_lineOf 2 (some .int) 1 [.ref (ga g 3), .int x1] (wD g σ ++ X) r' (wD g σ ++ X) := by
  refine rHead hE (by decide +kernel) (Nat.le_of_ble_eq_true rfl) (fun p e s m below meth c C hr _ hd ls hl => ?_)
  have hx := C.1
  have hb := C.2.1
  have hl : lv_has ls 2 [(0, .ref (ga g 3)), (1, .int x1)] := hl
  generalize ([.ref (ga g 3), .int x1] : List Value).toArray = args at C ⊢
  have C : Cx g p s m args meth c cX0_lineOf 2 RX0 := C
  rw [f_X0_lineOf] at h
  refine lv_aload_n hx hb dX0_lineOf_0 rfl (lv_at hl 0 rfl) ?_
  refine lv_iload_n hx hb dX0_lineOf_1 rfl (lv_at hl 1 rfl) ?_
  obtain ⟨r1, er1, h⟩ := cal_e h
  refine rCallI C hd (c_X0_hasCopy hE er1) kX0_46 3 rfl rfl rfl rfl hl.1 rfl (Nat.le_of_ble_eq_true rfl) ⟨(Nat.le_of_ble_eq_true rfl), (Nat.le_of_ble_eq_true rfl)⟩ ⟨Nat.le_refl _, Nat.le_refl _⟩ dX0_lineOf_2 (fun H locs hd => ?_)
  refine lv_if_eq (tgt := 17) hx hb dX0_lineOf_5 (by decide) (fun c2 => ?_) (fun c2 => ?_)
  · replace h := iteT c2 h
    refine lv_iconst (v := (-1 : Int32)) hx hb dX0_lineOf_17 ic_m1 ?_
    exact rIretP C hr hd h dX0_lineOf_18
  · replace h := iteF c2 h
    refine lv_aload_n hx hb dX0_lineOf_8 rfl (lv_at hl 0 rfl) ?_
    refine gX0_21 C hd dX0_lineOf_9 ?_
    refine lv_iload_n hx hb dX0_lineOf_12 rfl (lv_at hl 1 rfl) ?_
    obtain ⟨n3, h⟩ := chk h
    refine ld_wD_19 C hd (inb_i n3) dX0_lineOf_13 ?_
    refine lv_goto (tgt := 18) hx hb dX0_lineOf_14 (by decide) ?_
    exact rIretP C hr hd h dX0_lineOf_18
noncomputable def f_X0_ownPages (F : Nat) (σ : St) (x1 : Int32) : Option Int32 :=
  cal (f_X0_hasCopy F σ x1) (fun r1 => if r1 = 0 then (some 0) else (if inb x1 10 = true then some (σ.2.1 21 x1.toNatClampNeg) else none))
set_option maxRecDepth 100000 in
set_option maxHeartbeats 4000000 in
theorem c_X0_ownPages {l : Launch} {g : Gp} {X : va_W} (hE : E0 g) {F : Nat} {r' : Int32} {σ : St} {x1 : Int32} (h : f_X0_ownPages F σ x1 = some r') : Ci l g yX0_ownPages cX0_ownPages 2 (some .int) 1 [.ref (ga g 3), .int x1] (wD g σ ++ X) r' (wD g σ ++ X) := by
  refine rHead hE (by decide +kernel) (Nat.le_of_ble_eq_true rfl) (fun p e s m below meth c C hr _ hd ls hl => ?_)
  have hx := C.1
  have hb := C.2.1
  have hl : lv_has ls 2 [(0, .ref (ga g 3)), (1, .int x1)] := hl
  generalize ([.ref (ga g 3), .int x1] : List Value).toArray = args at C ⊢
  have C : Cx g p s m args meth c cX0_ownPages 2 RX0 := C
  rw [f_X0_ownPages] at h
  refine lv_aload_n hx hb dX0_ownPages_0 rfl (lv_at hl 0 rfl) ?_
  refine lv_iload_n hx hb dX0_ownPages_1 rfl (lv_at hl 1 rfl) ?_
  obtain ⟨r1, er1, h⟩ := cal_e h
  refine rCallI C hd (c_X0_hasCopy hE er1) kX0_46 3 rfl rfl rfl rfl hl.1 rfl (Nat.le_of_ble_eq_true rfl) ⟨(Nat.le_of_ble_eq_true rfl), (Nat.le_of_ble_eq_true rfl)⟩ ⟨Nat.le_refl _, Nat.le_refl _⟩ dX0_ownPages_2 (fun H locs hd => ?_)
  refine lv_if_eq (tgt := 17) hx hb dX0_ownPages_5 (by decide) (fun c2 => ?_) (fun c2 => ?_)
  · replace h := iteT c2 h
    refine lv_iconst (v := 0) hx hb dX0_ownPages_17 ic_0 ?_
    exact rIretP C hr hd h dX0_ownPages_18
  · replace h := iteF c2 h
    refine lv_aload_n hx hb dX0_ownPages_8 rfl (lv_at hl 0 rfl) ?_
    refine gX0_28 C hd dX0_ownPages_9 ?_
    refine lv_iload_n hx hb dX0_ownPages_12 rfl (lv_at hl 1 rfl) ?_
    obtain ⟨n3, h⟩ := chk h
    refine ld_wD_21 C hd (inb_i n3) dX0_ownPages_13 ?_
    refine lv_goto (tgt := 18) hx hb dX0_ownPages_14 (by decide) ?_
    exact rIretP C hr hd h dX0_ownPages_18
noncomputable def f_X0_placeIn (F : Nat) (σ : St) (x1 : Int32) : Option Int32 :=
  if x1 < 0 then (some (-2 : Int32)) else (if 80 ≤ x1 then (some (-2 : Int32)) else (if inb x1 80 = true then some (σ.2.1 23 x1.toNatClampNeg) else none))
set_option maxRecDepth 100000 in
set_option maxHeartbeats 4000000 in
theorem c_X0_placeIn {l : Launch} {g : Gp} {X : va_W} (hE : E0 g) {F : Nat} {r' : Int32} {σ : St} {x1 : Int32} (h : f_X0_placeIn F σ x1 = some r') : Ci l g yX0_placeIn cX0_placeIn 2 (some .int) 0 [.ref (ga g 3), .int x1] (wD g σ ++ X) r' (wD g σ ++ X) := by
  refine rHead hE (by decide +kernel) (Nat.le_of_ble_eq_true rfl) (fun p e s m below meth c C hr _ hd ls hl => ?_)
  have hx := C.1
  have hb := C.2.1
  have hl : lv_has ls 2 [(0, .ref (ga g 3)), (1, .int x1)] := hl
  generalize ([.ref (ga g 3), .int x1] : List Value).toArray = args at C ⊢
  have C : Cx g p s m args meth c cX0_placeIn 2 RX0 := C
  rw [f_X0_placeIn] at h
  refine lv_iload_n hx hb dX0_placeIn_0 rfl (lv_at hl 1 rfl) ?_
  refine lv_if_lt (tgt := 22) hx hb dX0_placeIn_1 (by decide) (fun c1 => ?_) (fun c1 => ?_)
  · replace h := iteT c1 h
    refine lv_bipush (v := (-2 : Int32)) hx hb dX0_placeIn_22 bi_m2 ?_
    exact rIretP C hr hd h dX0_placeIn_24
  · replace h := iteF c1 h
    refine lv_iload_n hx hb dX0_placeIn_4 rfl (lv_at hl 1 rfl) ?_
    refine lv_aload_n hx hb dX0_placeIn_5 rfl (lv_at hl 0 rfl) ?_
    refine gX0_34 C hd dX0_placeIn_6 ?_
    refine len_wD_23 C hd dX0_placeIn_9 ?_
    refine lv_icmp_ge (tgt := 22) hx hb dX0_placeIn_10 (by decide) (fun c2 => ?_) (fun c2 => ?_)
    · replace h := iteT c2 h
      refine lv_bipush (v := (-2 : Int32)) hx hb dX0_placeIn_22 bi_m2 ?_
      exact rIretP C hr hd h dX0_placeIn_24
    · replace h := iteF c2 h
      refine lv_aload_n hx hb dX0_placeIn_13 rfl (lv_at hl 0 rfl) ?_
      refine gX0_34 C hd dX0_placeIn_14 ?_
      refine lv_iload_n hx hb dX0_placeIn_17 rfl (lv_at hl 1 rfl) ?_
      obtain ⟨n3, h⟩ := chk h
      refine ld_wD_23 C hd (inb_i n3) dX0_placeIn_18 ?_
      refine lv_goto (tgt := 24) hx hb dX0_placeIn_19 (by decide) ?_
      exact rIretP C hr hd h dX0_placeIn_24
noncomputable def f_X0_put (F : Nat) (σ : St) (x1 : Int32) (x2 : Int32) (x3 : Int32) (x4 : Int32) (x5 : Int32) : Option St :=
  cal (f_X0_hasCopy F σ x1) (fun r1 => if r1 = 0 then (some σ) else (if x2 < 0 then (some σ) else (if x2 < 8 then (bnd ((x1 * 8) + x2) (fun v5 => if inb x1 10 = true then if inb x1 10 = true then bnd (sr σ 21 x1.toNatClampNeg ((σ.2.1 21 x1.toNatClampNeg) ||| (1 <<< (x2 &&& 31)))) (fun t8 => if inb v5 80 = true then bnd (sr t8 22 v5.toNatClampNeg x3) (fun t10 => if inb v5 80 = true then bnd (sr t10 23 v5.toNatClampNeg x4) (fun t12 => if inb v5 80 = true then bnd (sr t12 24 v5.toNatClampNeg x5) (fun t14 => some t14) else none) else none) else none) else none else none)) else (some σ))))
set_option maxRecDepth 100000 in
set_option maxHeartbeats 4000000 in
theorem c_X0_put {l : Launch} {g : Gp} {X : va_W} (hE : E0 g) {F : Nat} {σ' : St} {σ : St} {x1 : Int32} {x2 : Int32} {x3 : Int32} {x4 : Int32} {x5 : Int32} (h : f_X0_put F σ x1 x2 x3 x4 x5 = some σ') : Cv l g yX0_put cX0_put 7 1 [.ref (ga g 3), .int x1, .int x2, .int x3, .int x4, .int x5] (wD g σ ++ X) (wD g σ' ++ X) := by
  refine rHead hE (by decide +kernel) (Nat.le_of_ble_eq_true rfl) (fun p e s m below meth c C hr _ hd ls hl => ?_)
  have hx := C.1
  have hb := C.2.1
  have hl : lv_has ls 7 [(0, .ref (ga g 3)), (1, .int x1), (2, .int x2), (3, .int x3), (4, .int x4), (5, .int x5)] := hl
  generalize ([.ref (ga g 3), .int x1, .int x2, .int x3, .int x4, .int x5] : List Value).toArray = args at C ⊢
  have C : Cx g p s m args meth c cX0_put 7 RX0 := C
  rw [f_X0_put] at h
  refine lv_aload_n hx hb dX0_put_0 rfl (lv_at hl 0 rfl) ?_
  refine lv_iload_n hx hb dX0_put_1 rfl (lv_at hl 1 rfl) ?_
  obtain ⟨r1, er1, h⟩ := cal_e h
  refine rCallI C hd (c_X0_hasCopy hE er1) kX0_46 3 rfl rfl rfl rfl hl.1 rfl (Nat.le_of_ble_eq_true rfl) ⟨(Nat.le_of_ble_eq_true rfl), (Nat.le_of_ble_eq_true rfl)⟩ ⟨Nat.le_refl _, Nat.le_refl _⟩ dX0_put_2 (fun H locs hd => ?_)
  refine lv_if_eq (tgt := 18) hx hb dX0_put_5 (by decide) (fun c2 => ?_) (fun c2 => ?_)
  · replace h := iteT c2 h
    exact rVretS (w := wD g) C hr hd h dX0_put_18
  · replace h := iteF c2 h
    refine lv_iload_n hx hb dX0_put_8 rfl (lv_at hl 2 rfl) ?_
    refine lv_if_lt (tgt := 18) hx hb dX0_put_9 (by decide) (fun c3 => ?_) (fun c3 => ?_)
    · replace h := iteT c3 h
      exact rVretS (w := wD g) C hr hd h dX0_put_18
    · replace h := iteF c3 h
      refine lv_iload_n hx hb dX0_put_12 rfl (lv_at hl 2 rfl) ?_
      refine lv_bipush (v := 8) hx hb dX0_put_13 bi_8 ?_
      refine lv_icmp_lt (tgt := 19) hx hb dX0_put_15 (by decide) (fun c4 => ?_) (fun c4 => ?_)
      · replace h := iteT c4 h
        refine lv_iload_n hx hb dX0_put_19 rfl (lv_at hl 1 rfl) ?_
        refine lv_bipush (v := 8) hx hb dX0_put_20 bi_8 ?_
        refine lv_imul hx hb dX0_put_22 ?_
        refine lv_iload_n hx hb dX0_put_23 rfl (lv_at hl 2 rfl) ?_
        refine lv_iadd hx hb dX0_put_24 ?_
        obtain ⟨v5, ev5, h⟩ := bnd_e h
        refine rTop ev5 ?_
        refine lv_istore (lv' := [(6, .int v5), (0, .ref (ga g 3)), (1, .int x1), (2, .int x2), (3, .int x3), (4, .int x4), (5, .int x5)]) hx hb dX0_put_25 hl (Nat.le_of_ble_eq_true rfl) rfl (fun ls hl => ?_)
        refine lv_aload_n hx hb dX0_put_27 rfl (lv_at hl 1 rfl) ?_
        refine gX0_28 C hd dX0_put_28 ?_
        refine lv_iload_n hx hb dX0_put_31 rfl (lv_at hl 2 rfl) ?_
        refine lv_dup2_11 hx hb dX0_put_32 rfl rfl ?_
        obtain ⟨n6, h⟩ := chk h
        refine ld_wD_21 C hd (inb_i n6) dX0_put_33 ?_
        refine lv_iconst (v := 1) hx hb dX0_put_34 ic_1 ?_
        refine lv_iload_n hx hb dX0_put_35 rfl (lv_at hl 3 rfl) ?_
        refine lv_ishl hx hb dX0_put_36 ?_
        refine lv_ior hx hb dX0_put_37 ?_
        obtain ⟨n7, h⟩ := chk h
        obtain ⟨t8, et8, h⟩ := bnd_e h
        refine st_wD_21 C hd (inb_i n7) et8 dX0_put_38 (fun H locs hd => ?_)
        refine lv_aload_n hx hb dX0_put_39 rfl (lv_at hl 1 rfl) ?_
        refine gX0_31 C hd dX0_put_40 ?_
        refine lv_iload hx hb dX0_put_43 (lv_at hl 0 rfl) ?_
        refine lv_iload_n hx hb dX0_put_45 rfl (lv_at hl 4 rfl) ?_
        obtain ⟨n9, h⟩ := chk h
        obtain ⟨t10, et10, h⟩ := bnd_e h
        refine st_wD_22 C hd (inb_i n9) et10 dX0_put_46 (fun H locs hd => ?_)
        refine lv_aload_n hx hb dX0_put_47 rfl (lv_at hl 1 rfl) ?_
        refine gX0_34 C hd dX0_put_48 ?_
        refine lv_iload hx hb dX0_put_51 (lv_at hl 0 rfl) ?_
        refine lv_iload hx hb dX0_put_53 (lv_at hl 5 rfl) ?_
        obtain ⟨n11, h⟩ := chk h
        obtain ⟨t12, et12, h⟩ := bnd_e h
        refine st_wD_23 C hd (inb_i n11) et12 dX0_put_55 (fun H locs hd => ?_)
        refine lv_aload_n hx hb dX0_put_56 rfl (lv_at hl 1 rfl) ?_
        refine gX0_37 C hd dX0_put_57 ?_
        refine lv_iload hx hb dX0_put_60 (lv_at hl 0 rfl) ?_
        refine lv_iload hx hb dX0_put_62 (lv_at hl 6 rfl) ?_
        obtain ⟨n13, h⟩ := chk h
        obtain ⟨t14, et14, h⟩ := bnd_e h
        refine st_wD_24 C hd (inb_i n13) et14 dX0_put_64 (fun H locs hd => ?_)
        exact rVretS (w := wD g) C hr hd h dX0_put_65
      · replace h := iteF c4 h
        exact rVretS (w := wD g) C hr hd h dX0_put_18
noncomputable def f_X0_shut (F : Nat) (σ : St) (x1 : Int32) : Option (Int32 × St) :=
  cal (f_X0_isOpen F σ x1) (fun r1 => if r1 = 0 then (some (0, σ)) else (bnd (ss σ 9 ((σ.1 9) &&& ((1 <<< (x1 &&& 31)) ^^^ (-1 : Int32)))) (fun t3 => some (1, t3))))
set_option maxRecDepth 100000 in
set_option maxHeartbeats 4000000 in
theorem c_X0_shut {l : Launch} {g : Gp} {X : va_W} (hE : E0 g) {F : Nat} {r' : Int32} {σ' : St} {σ : St} {x1 : Int32} (h : f_X0_shut F σ x1 = some (r', σ')) : Ci l g yX0_shut cX0_shut 2 (some .boolean) 2 [.ref (ga g 3), .int x1] (wD g σ ++ X) r' (wD g σ' ++ X) := by
  refine rHead hE (by decide +kernel) (Nat.le_of_ble_eq_true rfl) (fun p e s m below meth c C hr _ hd ls hl => ?_)
  have hx := C.1
  have hb := C.2.1
  have hl : lv_has ls 2 [(0, .ref (ga g 3)), (1, .int x1)] := hl
  generalize ([.ref (ga g 3), .int x1] : List Value).toArray = args at C ⊢
  have C : Cx g p s m args meth c cX0_shut 2 RX0 := C
  rw [f_X0_shut] at h
  refine lv_aload_n hx hb dX0_shut_0 rfl (lv_at hl 0 rfl) ?_
  refine lv_iload_n hx hb dX0_shut_1 rfl (lv_at hl 1 rfl) ?_
  obtain ⟨r1, er1, h⟩ := cal_e h
  refine rCallI C hd (c_X0_isOpen hE er1) kX0_50 3 rfl rfl rfl rfl hl.1 rfl (Nat.le_of_ble_eq_true rfl) ⟨(Nat.le_of_ble_eq_true rfl), (Nat.le_of_ble_eq_true rfl)⟩ ⟨Nat.le_refl _, Nat.le_refl _⟩ dX0_shut_2 (fun H locs hd => ?_)
  refine lv_if_ne (tgt := 10) hx hb dX0_shut_5 (by decide) (fun c2 => ?_) (fun c2 => ?_)
  · replace h := iteF c2 h
    refine lv_aload_n hx hb dX0_shut_10 rfl (lv_at hl 0 rfl) ?_
    refine lv_dup hx hb dX0_shut_11 rfl ?_
    refine gX0_15 C hd dX0_shut_12 ?_
    refine lv_iconst (v := 1) hx hb dX0_shut_15 ic_1 ?_
    refine lv_iload_n hx hb dX0_shut_16 rfl (lv_at hl 1 rfl) ?_
    refine lv_ishl hx hb dX0_shut_17 ?_
    refine lv_iconst (v := (-1 : Int32)) hx hb dX0_shut_18 ic_m1 ?_
    refine lv_ixor hx hb dX0_shut_19 ?_
    refine lv_iand hx hb dX0_shut_20 ?_
    obtain ⟨t3, et3, h⟩ := bnd_e h
    refine pX0_15 C hd et3 dX0_shut_21 (fun H locs hd => ?_)
    refine lv_iconst (v := 1) hx hb dX0_shut_24 ic_1 ?_
    exact rZretS (w := wD g) C hr hd h (by decide) dX0_shut_25
  · replace h := iteT c2 h
    refine lv_iconst (v := 0) hx hb dX0_shut_8 ic_0 ?_
    exact rZretS (w := wD g) C hr hd h (by decide) dX0_shut_9
noncomputable def f_X0_sourceIn (F : Nat) (σ : St) (x1 : Int32) : Option Int32 :=
  if x1 < 0 then (some (-2 : Int32)) else (if 80 ≤ x1 then (some (-2 : Int32)) else (if inb x1 80 = true then some (σ.2.1 22 x1.toNatClampNeg) else none))
set_option maxRecDepth 100000 in
set_option maxHeartbeats 4000000 in
theorem c_X0_sourceIn {l : Launch} {g : Gp} {X : va_W} (hE : E0 g) {F : Nat} {r' : Int32} {σ : St} {x1 : Int32} (h : f_X0_sourceIn F σ x1 = some r') : Ci l g yX0_sourceIn cX0_sourceIn 2 (some .int) 0 [.ref (ga g 3), .int x1] (wD g σ ++ X) r' (wD g σ ++ X) := by
  refine rHead hE (by decide +kernel) (Nat.le_of_ble_eq_true rfl) (fun p e s m below meth c C hr _ hd ls hl => ?_)
  have hx := C.1
  have hb := C.2.1
  have hl : lv_has ls 2 [(0, .ref (ga g 3)), (1, .int x1)] := hl
  generalize ([.ref (ga g 3), .int x1] : List Value).toArray = args at C ⊢
  have C : Cx g p s m args meth c cX0_sourceIn 2 RX0 := C
  rw [f_X0_sourceIn] at h
  refine lv_iload_n hx hb dX0_sourceIn_0 rfl (lv_at hl 1 rfl) ?_
  refine lv_if_lt (tgt := 22) hx hb dX0_sourceIn_1 (by decide) (fun c1 => ?_) (fun c1 => ?_)
  · replace h := iteT c1 h
    refine lv_bipush (v := (-2 : Int32)) hx hb dX0_sourceIn_22 bi_m2 ?_
    exact rIretP C hr hd h dX0_sourceIn_24
  · replace h := iteF c1 h
    refine lv_iload_n hx hb dX0_sourceIn_4 rfl (lv_at hl 1 rfl) ?_
    refine lv_aload_n hx hb dX0_sourceIn_5 rfl (lv_at hl 0 rfl) ?_
    refine gX0_31 C hd dX0_sourceIn_6 ?_
    refine len_wD_22 C hd dX0_sourceIn_9 ?_
    refine lv_icmp_ge (tgt := 22) hx hb dX0_sourceIn_10 (by decide) (fun c2 => ?_) (fun c2 => ?_)
    · replace h := iteT c2 h
      refine lv_bipush (v := (-2 : Int32)) hx hb dX0_sourceIn_22 bi_m2 ?_
      exact rIretP C hr hd h dX0_sourceIn_24
    · replace h := iteF c2 h
      refine lv_aload_n hx hb dX0_sourceIn_13 rfl (lv_at hl 0 rfl) ?_
      refine gX0_31 C hd dX0_sourceIn_14 ?_
      refine lv_iload_n hx hb dX0_sourceIn_17 rfl (lv_at hl 1 rfl) ?_
      obtain ⟨n3, h⟩ := chk h
      refine ld_wD_22 C hd (inb_i n3) dX0_sourceIn_18 ?_
      refine lv_goto (tgt := 24) hx hb dX0_sourceIn_19 (by decide) ?_
      exact rIretP C hr hd h dX0_sourceIn_24
noncomputable def f_X0_uponOf (F : Nat) (σ : St) (x1 : Int32) : Option Int32 :=
  cal (f_X0_hasCopy F σ x1) (fun r1 => if r1 = 0 then (some (-2 : Int32)) else (if inb x1 10 = true then some (σ.2.1 20 x1.toNatClampNeg) else none))
set_option maxRecDepth 100000 in
set_option maxHeartbeats 4000000 in
theorem c_X0_uponOf {l : Launch} {g : Gp} {X : va_W} (hE : E0 g) {F : Nat} {r' : Int32} {σ : St} {x1 : Int32} (h : f_X0_uponOf F σ x1 = some r') : Ci l g yX0_uponOf cX0_uponOf 2 (some .int) 1 [.ref (ga g 3), .int x1] (wD g σ ++ X) r' (wD g σ ++ X) := by
  refine rHead hE (by decide +kernel) (Nat.le_of_ble_eq_true rfl) (fun p e s m below meth c C hr _ hd ls hl => ?_)
  have hx := C.1
  have hb := C.2.1
  have hl : lv_has ls 2 [(0, .ref (ga g 3)), (1, .int x1)] := hl
  generalize ([.ref (ga g 3), .int x1] : List Value).toArray = args at C ⊢
  have C : Cx g p s m args meth c cX0_uponOf 2 RX0 := C
  rw [f_X0_uponOf] at h
  refine lv_aload_n hx hb dX0_uponOf_0 rfl (lv_at hl 0 rfl) ?_
  refine lv_iload_n hx hb dX0_uponOf_1 rfl (lv_at hl 1 rfl) ?_
  obtain ⟨r1, er1, h⟩ := cal_e h
  refine rCallI C hd (c_X0_hasCopy hE er1) kX0_46 3 rfl rfl rfl rfl hl.1 rfl (Nat.le_of_ble_eq_true rfl) ⟨(Nat.le_of_ble_eq_true rfl), (Nat.le_of_ble_eq_true rfl)⟩ ⟨Nat.le_refl _, Nat.le_refl _⟩ dX0_uponOf_2 (fun H locs hd => ?_)
  refine lv_if_eq (tgt := 17) hx hb dX0_uponOf_5 (by decide) (fun c2 => ?_) (fun c2 => ?_)
  · replace h := iteT c2 h
    refine lv_bipush (v := (-2 : Int32)) hx hb dX0_uponOf_17 bi_m2 ?_
    exact rIretP C hr hd h dX0_uponOf_19
  · replace h := iteF c2 h
    refine lv_aload_n hx hb dX0_uponOf_8 rfl (lv_at hl 0 rfl) ?_
    refine gX0_25 C hd dX0_uponOf_9 ?_
    refine lv_iload_n hx hb dX0_uponOf_12 rfl (lv_at hl 1 rfl) ?_
    obtain ⟨n3, h⟩ := chk h
    refine ld_wD_20 C hd (inb_i n3) dX0_uponOf_13 ?_
    refine lv_goto (tgt := 19) hx hb dX0_uponOf_14 (by decide) ?_
    exact rIretP C hr hd h dX0_uponOf_19
noncomputable def f_X0_valueIn (F : Nat) (σ : St) (x1 : Int32) : Option Int32 :=
  if x1 < 0 then (some 0) else (if 80 ≤ x1 then (some 0) else (if inb x1 80 = true then some (σ.2.1 24 x1.toNatClampNeg) else none))
set_option maxRecDepth 100000 in
set_option maxHeartbeats 4000000 in
theorem c_X0_valueIn {l : Launch} {g : Gp} {X : va_W} (hE : E0 g) {F : Nat} {r' : Int32} {σ : St} {x1 : Int32} (h : f_X0_valueIn F σ x1 = some r') : Ci l g yX0_valueIn cX0_valueIn 2 (some .int) 0 [.ref (ga g 3), .int x1] (wD g σ ++ X) r' (wD g σ ++ X) := by
  refine rHead hE (by decide +kernel) (Nat.le_of_ble_eq_true rfl) (fun p e s m below meth c C hr _ hd ls hl => ?_)
  have hx := C.1
  have hb := C.2.1
  have hl : lv_has ls 2 [(0, .ref (ga g 3)), (1, .int x1)] := hl
  generalize ([.ref (ga g 3), .int x1] : List Value).toArray = args at C ⊢
  have C : Cx g p s m args meth c cX0_valueIn 2 RX0 := C
  rw [f_X0_valueIn] at h
  refine lv_iload_n hx hb dX0_valueIn_0 rfl (lv_at hl 1 rfl) ?_
  refine lv_if_lt (tgt := 22) hx hb dX0_valueIn_1 (by decide) (fun c1 => ?_) (fun c1 => ?_)
  · replace h := iteT c1 h
    refine lv_iconst (v := 0) hx hb dX0_valueIn_22 ic_0 ?_
    exact rIretP C hr hd h dX0_valueIn_23
  · replace h := iteF c1 h
    refine lv_iload_n hx hb dX0_valueIn_4 rfl (lv_at hl 1 rfl) ?_
    refine lv_aload_n hx hb dX0_valueIn_5 rfl (lv_at hl 0 rfl) ?_
    refine gX0_37 C hd dX0_valueIn_6 ?_
    refine len_wD_24 C hd dX0_valueIn_9 ?_
    refine lv_icmp_ge (tgt := 22) hx hb dX0_valueIn_10 (by decide) (fun c2 => ?_) (fun c2 => ?_)
    · replace h := iteT c2 h
      refine lv_iconst (v := 0) hx hb dX0_valueIn_22 ic_0 ?_
      exact rIretP C hr hd h dX0_valueIn_23
    · replace h := iteF c2 h
      refine lv_aload_n hx hb dX0_valueIn_13 rfl (lv_at hl 0 rfl) ?_
      refine gX0_37 C hd dX0_valueIn_14 ?_
      refine lv_iload_n hx hb dX0_valueIn_17 rfl (lv_at hl 1 rfl) ?_
      obtain ⟨n3, h⟩ := chk h
      refine ld_wD_24 C hd (inb_i n3) dX0_valueIn_18 ?_
      refine lv_goto (tgt := 23) hx hb dX0_valueIn_19 (by decide) ?_
      exact rIretP C hr hd h dX0_valueIn_23
noncomputable def f_X5_begin (F : Nat) (σ : St) (x1 : Int32) (x2 : Int32) : Option St :=
  bnd (ss σ 4 x1) (fun t1 => cal (f_X2_begin F t1 x2) (fun t2 => cal (f_X0_forget F t2) (fun t3 => some t3)))
set_option maxRecDepth 100000 in
set_option maxHeartbeats 4000000 in
theorem c_X5_begin {l : Launch} {g : Gp} {X : va_W} (hE : E0 g) {F : Nat} {σ' : St} {σ : St} {x1 : Int32} {x2 : Int32} (h : f_X5_begin F σ x1 x2 = some σ') : Cv l g yX5_begin cX5_begin 3 2 [.ref (ga g 1), .int x1, .int x2] (wD g σ ++ X) (wD g σ' ++ X) := by
  refine rHead hE (by decide +kernel) (Nat.le_of_ble_eq_true rfl) (fun p e s m below meth c C hr _ hd ls hl => ?_)
  have hx := C.1
  have hb := C.2.1
  have hl : lv_has ls 3 [(0, .ref (ga g 1)), (1, .int x1), (2, .int x2)] := hl
  generalize ([.ref (ga g 1), .int x1, .int x2] : List Value).toArray = args at C ⊢
  have C : Cx g p s m args meth c cX5_begin 3 RX5 := C
  rw [f_X5_begin] at h
  refine lv_aload_n hx hb dX5_begin_0 rfl (lv_at hl 0 rfl) ?_
  refine lv_iload_n hx hb dX5_begin_1 rfl (lv_at hl 1 rfl) ?_
  obtain ⟨t1, et1, h⟩ := bnd_e h
  refine pX5_9 C hd et1 dX5_begin_2 (fun H locs hd => ?_)
  refine lv_aload_n hx hb dX5_begin_5 rfl (lv_at hl 0 rfl) ?_
  refine gX5_18 C hd dX5_begin_6 ?_
  refine lv_iload_n hx hb dX5_begin_9 rfl (lv_at hl 2 rfl) ?_
  obtain ⟨t2, et2, h⟩ := cal_e h
  refine rCallV C hd (c_X2_begin hE et2) kX5_29 2 rfl rfl rfl rfl hl.1 rfl (Nat.le_of_ble_eq_true rfl) ⟨(Nat.le_of_ble_eq_true rfl), (Nat.le_of_ble_eq_true rfl)⟩ ⟨Nat.le_refl _, Nat.le_refl _⟩ dX5_begin_10 (fun H locs hd => ?_)
  refine lv_aload_n hx hb dX5_begin_13 rfl (lv_at hl 0 rfl) ?_
  refine gX5_25 C hd dX5_begin_14 ?_
  obtain ⟨t3, et3, h⟩ := cal_e h
  refine rCallV C hd (c_X0_forget hE et3) kX5_33 3 rfl rfl rfl rfl hl.1 rfl (Nat.le_of_ble_eq_true rfl) ⟨(Nat.le_of_ble_eq_true rfl), (Nat.le_of_ble_eq_true rfl)⟩ ⟨Nat.le_refl _, Nat.le_refl _⟩ dX5_begin_17 (fun H locs hd => ?_)
  exact rVretS (w := wD g) C hr hd h dX5_begin_20
noncomputable def f_X5_hasPage (F : Nat) (σ : St) (x1 : Int32) : Option Int32 :=
  if x1 < 0 then (some 0) else (if (σ.1 4) ≤ x1 then (some 0) else (some 1))
set_option maxRecDepth 100000 in
set_option maxHeartbeats 4000000 in
theorem c_X5_hasPage {l : Launch} {g : Gp} {X : va_W} (hE : E0 g) {F : Nat} {r' : Int32} {σ : St} {x1 : Int32} (h : f_X5_hasPage F σ x1 = some r') : Ci l g yX5_hasPage cX5_hasPage 2 (some .boolean) 0 [.ref (ga g 1), .int x1] (wD g σ ++ X) r' (wD g σ ++ X) := by
  refine rHead hE (by decide +kernel) (Nat.le_of_ble_eq_true rfl) (fun p e s m below meth c C hr _ hd ls hl => ?_)
  have hx := C.1
  have hb := C.2.1
  have hl : lv_has ls 2 [(0, .ref (ga g 1)), (1, .int x1)] := hl
  generalize ([.ref (ga g 1), .int x1] : List Value).toArray = args at C ⊢
  have C : Cx g p s m args meth c cX5_hasPage 2 RX5 := C
  rw [f_X5_hasPage] at h
  refine lv_iload_n hx hb dX5_hasPage_0 rfl (lv_at hl 1 rfl) ?_
  refine lv_if_lt (tgt := 16) hx hb dX5_hasPage_1 (by decide) (fun c1 => ?_) (fun c1 => ?_)
  · replace h := iteT c1 h
    refine lv_iconst (v := 0) hx hb dX5_hasPage_16 ic_0 ?_
    exact rZretP C hr hd h (by decide) dX5_hasPage_17
  · replace h := iteF c1 h
    refine lv_iload_n hx hb dX5_hasPage_4 rfl (lv_at hl 1 rfl) ?_
    refine lv_aload_n hx hb dX5_hasPage_5 rfl (lv_at hl 0 rfl) ?_
    refine gX5_9 C hd dX5_hasPage_6 ?_
    refine lv_icmp_ge (tgt := 16) hx hb dX5_hasPage_9 (by decide) (fun c2 => ?_) (fun c2 => ?_)
    · replace h := iteT c2 h
      refine lv_iconst (v := 0) hx hb dX5_hasPage_16 ic_0 ?_
      exact rZretP C hr hd h (by decide) dX5_hasPage_17
    · replace h := iteF c2 h
      refine lv_iconst (v := 1) hx hb dX5_hasPage_12 ic_1 ?_
      refine lv_goto (tgt := 17) hx hb dX5_hasPage_13 (by decide) ?_
      exact rZretP C hr hd h (by decide) dX5_hasPage_17
end S
