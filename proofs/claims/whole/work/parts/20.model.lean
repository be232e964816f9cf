section S
variable {p : Program} {l : Launch} {e : Env} {s : State} {m : MethodId} {args : Array Value} {below : List Frame} {meth : Method} {c : Code} {g : Gp} {X : va_W}
noncomputable def f_X8_in (F : Nat) (σ : St) (x0 : Int32) (x1 : Int32) (x2 : Int32) : Option Int32 :=
  if x0 < x1 then (some 0) else (if x2 < x0 then (some 0) else (some 1))
set_option maxRecDepth 100000 in
set_option maxHeartbeats 4000000 in
theorem c_X8_in {l : Launch} {g : Gp} {X : va_W} (hE : E0 g) {F : Nat} {r' : Int32} {σ : St} {x0 : Int32} {x1 : Int32} {x2 : Int32} (h : f_X8_in F σ x0 x1 x2 = some r') : Ci l g yX8_in cX8_in 3 (some .boolean) 0 [.int x0, .int x1, .int x2] (wM g σ ++ X) r' (wM g σ ++ X) := by
  refine rHead hE (by decide +kernel) (Nat.le_of_ble_eq_true rfl) (fun p e s m below meth c C hr _ hd ls hl => ?_)
  have hx := C.1
  have hb := C.2.1
  have hl : lv_has ls 3 [(0, .int x0), (1, .int x1), (2, .int x2)] := hl
  generalize ([.int x0, .int x1, .int x2] : List Value).toArray = args at C ⊢
  have C : Cx g p s m args meth c cX8_in 3 RX8 := C
  rw [f_X8_in] at h
  refine lv_iload_n hx hb dX8_in_0 rfl (lv_at hl 0 rfl) ?_
  refine lv_iload_n hx hb dX8_in_1 rfl (lv_at hl 1 rfl) ?_
  refine lv_icmp_lt (tgt := 14) hx hb dX8_in_2 (by decide) (fun c1 => ?_) (fun c1 => ?_)
  · replace h := iteT c1 h
    refine lv_iconst (v := 0) hx hb dX8_in_14 ic_0 ?_
    exact rZretP C hr hd h (by decide) dX8_in_15
  · replace h := iteF c1 h
    refine lv_iload_n hx hb dX8_in_5 rfl (lv_at hl 0 rfl) ?_
    refine lv_iload_n hx hb dX8_in_6 rfl (lv_at hl 2 rfl) ?_
    refine lv_icmp_gt (tgt := 14) hx hb dX8_in_7 (by decide) (fun c2 => ?_) (fun c2 => ?_)
    · replace h := iteT c2 h
      refine lv_iconst (v := 0) hx hb dX8_in_14 ic_0 ?_
      exact rZretP C hr hd h (by decide) dX8_in_15
    · replace h := iteF c2 h
      refine lv_iconst (v := 1) hx hb dX8_in_10 ic_1 ?_
      refine lv_goto (tgt := 15) hx hb dX8_in_11 (by decide) ?_
      exact rZretP C hr hd h (by decide) dX8_in_15
noncomputable def f_X8_isPage (F : Nat) (σ : St) (x1 : Int32) : Option Int32 :=
  cal (f_X8_in F σ x1 0 ((σ.2.1 19 0) - 1)) (fun r1 => if r1 = 0 ∨ r1 = 1 then some r1 else none)
set_option maxRecDepth 100000 in
set_option maxHeartbeats 4000000 in
theorem c_X8_isPage {l : Launch} {g : Gp} {X : va_W} (hE : E0 g) {F : Nat} {r' : Int32} {σ : St} {x1 : Int32} (h : f_X8_isPage F σ x1 = some r') : Ci l g yX8_isPage cX8_isPage 2 (some .boolean) 1 [.ref (ga g 40), .int x1] (wM g σ ++ X) r' (wM g σ ++ X) := by
  refine rHead hE (by decide +kernel) (Nat.le_of_ble_eq_true rfl) (fun p e s m below meth c C hr _ hd ls hl => ?_)
  have hx := C.1
  have hb := C.2.1
  have hl : lv_has ls 2 [(0, .ref (ga g 40)), (1, .int x1)] := hl
  generalize ([.ref (ga g 40), .int x1] : List Value).toArray = args at C ⊢
  have C : Cx g p s m args meth c cX8_isPage 2 RX8 := C
  rw [f_X8_isPage] at h
  refine lv_iload_n hx hb dX8_isPage_0 rfl (lv_at hl 1 rfl) ?_
  refine lv_iconst (v := 0) hx hb dX8_isPage_1 ic_0 ?_
  refine lv_aload_n hx hb dX8_isPage_2 rfl (lv_at hl 0 rfl) ?_
  refine gX8_73 C hd dX8_isPage_3 ?_
  refine lv_iconst (v := 0) hx hb dX8_isPage_6 ic_0 ?_
  refine ldc_wM_19 C hd cl_0 (inb_i (by decide +kernel)) dX8_isPage_7 ?_
  refine lv_iconst (v := 1) hx hb dX8_isPage_8 ic_1 ?_
  refine lv_isub hx hb dX8_isPage_9 ?_
  obtain ⟨r1, er1, h⟩ := cal_e h
  refine rCallSI C hd (c_X8_in hE er1) kX8_194 rfl hl.1 rfl (Nat.le_of_ble_eq_true rfl) ⟨(Nat.le_of_ble_eq_true rfl), (Nat.le_of_ble_eq_true rfl)⟩ ⟨Nat.le_refl _, Nat.le_refl _⟩ dX8_isPage_10 (fun H locs hd => ?_)
  obtain ⟨n2, h⟩ := chk h
  exact rZretP C hr hd h n2 dX8_isPage_13
noncomputable def f_X8_placeOf (F : Nat) (σ : St) (x1 : Int32) : Option Int32 :=
  if inb (20 + (4 * x1)) 7164 = true then some (σ.2.1 19 (20 + (4 * x1)).toNatClampNeg) else none
set_option maxRecDepth 100000 in
set_option maxHeartbeats 4000000 in
theorem c_X8_placeOf {l : Launch} {g : Gp} {X : va_W} (hE : E0 g) {F : Nat} {r' : Int32} {σ : St} {x1 : Int32} (h : f_X8_placeOf F σ x1 = some r') : Ci l g yX8_placeOf cX8_placeOf 2 (some .int) 0 [.ref (ga g 40), .int x1] (wM g σ ++ X) r' (wM g σ ++ X) := by
  refine rHead hE (by decide +kernel) (Nat.le_of_ble_eq_true rfl) (fun p e s m below meth c C hr _ hd ls hl => ?_)
  have hx := C.1
  have hb := C.2.1
  have hl : lv_has ls 2 [(0, .ref (ga g 40)), (1, .int x1)] := hl
  generalize ([.ref (ga g 40), .int x1] : List Value).toArray = args at C ⊢
  have C : Cx g p s m args meth c cX8_placeOf 2 RX8 := C
  rw [f_X8_placeOf] at h
  refine lv_aload_n hx hb dX8_placeOf_0 rfl (lv_at hl 0 rfl) ?_
  refine gX8_73 C hd dX8_placeOf_1 ?_
  refine lv_bipush (v := 20) hx hb dX8_placeOf_4 bi_20 ?_
  refine lv_iconst (v := 4) hx hb dX8_placeOf_6 ic_4 ?_
  refine lv_iload_n hx hb dX8_placeOf_7 rfl (lv_at hl 1 rfl) ?_
  refine lv_imul hx hb dX8_placeOf_8 ?_
  refine lv_iadd hx hb dX8_placeOf_9 ?_
  obtain ⟨n1, h⟩ := chk h
  refine ld_wM_19 C hd (inb_i n1) dX8_placeOf_10 ?_
  exact rIretP C hr hd h dX8_placeOf_11
noncomputable def f_X8_hasRoom (F : Nat) (σ : St) (x1 : Int32) : Option Int32 :=
  cal (f_X8_placeOf F σ (σ.2.1 19 3)) (fun r1 => if 240 < (r1 + x1) then (some 0) else (if 600 < ((σ.2.1 19 4) + x1) then (some 0) else (some 1)))
set_option maxRecDepth 100000 in
set_option maxHeartbeats 4000000 in
theorem c_X8_hasRoom {l : Launch} {g : Gp} {X : va_W} (hE : E0 g) {F : Nat} {r' : Int32} {σ : St} {x1 : Int32} (h : f_X8_hasRoom F σ x1 = some r') : Ci l g yX8_hasRoom cX8_hasRoom 2 (some .boolean) 1 [.ref (ga g 40), .int x1] (wM g σ ++ X) r' (wM g σ ++ X) := by
  refine rHead hE (by decide +kernel) (Nat.le_of_ble_eq_true rfl) (fun p e s m below meth c C hr _ hd ls hl => ?_)
  have hx := C.1
  have hb := C.2.1
  have hl : lv_has ls 2 [(0, .ref (ga g 40)), (1, .int x1)] := hl
  generalize ([.ref (ga g 40), .int x1] : List Value).toArray = args at C ⊢
  have C : Cx g p s m args meth c cX8_hasRoom 2 RX8 := C
  rw [f_X8_hasRoom] at h
  refine lv_aload_n hx hb dX8_hasRoom_0 rfl (lv_at hl 0 rfl) ?_
  refine lv_aload_n hx hb dX8_hasRoom_1 rfl (lv_at hl 0 rfl) ?_
  refine gX8_73 C hd dX8_hasRoom_2 ?_
  refine lv_iconst (v := 3) hx hb dX8_hasRoom_5 ic_3 ?_
  refine ldc_wM_19 C hd cl_3 (inb_i (by decide +kernel)) dX8_hasRoom_6 ?_
  obtain ⟨r1, er1, h⟩ := cal_e h
  refine rCallI C hd (c_X8_placeOf hE er1) kX8_217 0 rfl rfl rfl rfl hl.1 rfl (Nat.le_of_ble_eq_true rfl) ⟨(Nat.le_of_ble_eq_true rfl), (Nat.le_of_ble_eq_true rfl)⟩ ⟨Nat.le_refl _, Nat.le_refl _⟩ dX8_hasRoom_7 (fun H locs hd => ?_)
  refine lv_iload_n hx hb dX8_hasRoom_10 rfl (lv_at hl 1 rfl) ?_
  refine lv_iadd hx hb dX8_hasRoom_11 ?_
  refine lv_sipush (v := 240) hx hb dX8_hasRoom_12 si_240 ?_
  refine lv_icmp_gt (tgt := 36) hx hb dX8_hasRoom_15 (by decide) (fun c2 => ?_) (fun c2 => ?_)
  · replace h := iteT c2 h
    refine lv_iconst (v := 0) hx hb dX8_hasRoom_36 ic_0 ?_
    exact rZretP C hr hd h (by decide) dX8_hasRoom_37
  · replace h := iteF c2 h
    refine lv_aload_n hx hb dX8_hasRoom_18 rfl (lv_at hl 0 rfl) ?_
    refine gX8_73 C hd dX8_hasRoom_19 ?_
    refine lv_iconst (v := 4) hx hb dX8_hasRoom_22 ic_4 ?_
    refine ldc_wM_19 C hd cl_4 (inb_i (by decide +kernel)) dX8_hasRoom_23 ?_
    refine lv_iload_n hx hb dX8_hasRoom_24 rfl (lv_at hl 1 rfl) ?_
    refine lv_iadd hx hb dX8_hasRoom_25 ?_
    refine lv_sipush (v := 600) hx hb dX8_hasRoom_26 si_600 ?_
    refine lv_icmp_gt (tgt := 36) hx hb dX8_hasRoom_29 (by decide) (fun c3 => ?_) (fun c3 => ?_)
    · replace h := iteT c3 h
      refine lv_iconst (v := 0) hx hb dX8_hasRoom_36 ic_0 ?_
      exact rZretP C hr hd h (by decide) dX8_hasRoom_37
    · replace h := iteF c3 h
      refine lv_iconst (v := 1) hx hb dX8_hasRoom_32 ic_1 ?_
      refine lv_goto (tgt := 37) hx hb dX8_hasRoom_33 (by decide) ?_
      exact rZretP C hr hd h (by decide) dX8_hasRoom_37
noncomputable def f_X8_pieceOf (F : Nat) (σ : St) (x1 : Int32) : Option Int32 :=
  if ¬ (σ.2.1 19 1) = 0 then some ((x1 - 1) / (σ.2.1 19 1)) else none
set_option maxRecDepth 100000 in
set_option maxHeartbeats 4000000 in
theorem c_X8_pieceOf {l : Launch} {g : Gp} {X : va_W} (hE : E0 g) {F : Nat} {r' : Int32} {σ : St} {x1 : Int32} (h : f_X8_pieceOf F σ x1 = some r') : Ci l g yX8_pieceOf cX8_pieceOf 2 (some .int) 0 [.ref (ga g 40), .int x1] (wM g σ ++ X) r' (wM g σ ++ X) := by
  refine rHead hE (by decide +kernel) (Nat.le_of_ble_eq_true rfl) (fun p e s m below meth c C hr _ hd ls hl => ?_)
  have hx := C.1
  have hb := C.2.1
  have hl : lv_has ls 2 [(0, .ref (ga g 40)), (1, .int x1)] := hl
  generalize ([.ref (ga g 40), .int x1] : List Value).toArray = args at C ⊢
  have C : Cx g p s m args meth c cX8_pieceOf 2 RX8 := C
  rw [f_X8_pieceOf] at h
  refine lv_iload_n hx hb dX8_pieceOf_0 rfl (lv_at hl 1 rfl) ?_
  refine lv_iconst (v := 1) hx hb dX8_pieceOf_1 ic_1 ?_
  refine lv_isub hx hb dX8_pieceOf_2 ?_
  refine lv_aload_n hx hb dX8_pieceOf_3 rfl (lv_at hl 0 rfl) ?_
  refine gX8_73 C hd dX8_pieceOf_4 ?_
  refine lv_iconst (v := 1) hx hb dX8_pieceOf_7 ic_1 ?_
  refine ldc_wM_19 C hd cl_1 (inb_i (by decide +kernel)) dX8_pieceOf_8 ?_
  obtain ⟨n1, h⟩ := chk h
  refine lv_idiv hx hb dX8_pieceOf_9 n1 ?_
  exact rIretP C hr hd h dX8_pieceOf_10
noncomputable def f_X8_comes (F : Nat) (σ : St) (x1 : Int32) (x2 : Int32) (x3 : Int32) : Option (Int32 × St) :=
  cal (f_X8_hasRoom F σ 1) (fun r1 => if r1 = 0 then (some ((-1 : Int32), σ)) else (bnd (σ.2.1 19 3) (fun v3 => cal (f_X8_placeOf F σ v3) (fun r4 => bnd (r4 + 1) (fun v5 => bnd (1380 + (3 * ((241 * v3) + v5))) (fun v6 => if inb (20 + (4 * v3)) 7164 = true then bnd (sr σ 19 (20 + (4 * v3)).toNatClampNeg v5) (fun t8 => if inb v6 7164 = true then bnd (sr t8 19 v6.toNatClampNeg x1) (fun t10 => if inb (v6 + 1) 7164 = true then bnd (sr t10 19 (v6 + 1).toNatClampNeg x2) (fun t12 => if inb (v6 + 2) 7164 = true then bnd (sr t12 19 (v6 + 2).toNatClampNeg x3) (fun t14 => bnd (sr t14 19 4 ((t14.2.1 19 4) + 1)) (fun t15 => if ¬ (t15.2.1 19 1) = 0 then if (v5 - v5 / (t15.2.1 19 1) * (t15.2.1 19 1)) = 0 then (cal (f_X8_pieceOf F t15 v5) (fun r18 => if inb ((420 + (120 * v3)) + r18) 7164 = true then bnd (sr t15 19 ((420 + (120 * v3)) + r18).toNatClampNeg 1) (fun t20 => some (v5, t20)) else none)) else (some (v5, t15)) else none)) else none) else none) else none) else none))))))
set_option maxRecDepth 100000 in
set_option maxHeartbeats 4000000 in
theorem c_X8_comes {l : Launch} {g : Gp} {X : va_W} (hE : E0 g) {F : Nat} {r' : Int32} {σ' : St} {σ : St} {x1 : Int32} {x2 : Int32} {x3 : Int32} (h : f_X8_comes F σ x1 x2 x3 = some (r', σ')) : Ci l g yX8_comes cX8_comes 7 (some .int) 2 [.ref (ga g 40), .int x1, .int x2, .int x3] (wM g σ ++ X) r' (wM g σ' ++ X) := by
  refine rHead hE (by decide +kernel) (Nat.le_of_ble_eq_true rfl) (fun p e s m below meth c C hr _ hd ls hl => ?_)
  have hx := C.1
  have hb := C.2.1
  have hl : lv_has ls 7 [(0, .ref (ga g 40)), (1, .int x1), (2, .int x2), (3, .int x3)] := hl
  generalize ([.ref (ga g 40), .int x1, .int x2, .int x3] : List Value).toArray = args at C ⊢
  have C : Cx g p s m args meth c cX8_comes 7 RX8 := C
  rw [f_X8_comes] at h
  refine lv_aload_n hx hb dX8_comes_0 rfl (lv_at hl 0 rfl) ?_
  refine lv_iconst (v := 1) hx hb dX8_comes_1 ic_1 ?_
  obtain ⟨r1, er1, h⟩ := cal_e h
  refine rCallI C hd (c_X8_hasRoom hE er1) kX8_274 0 rfl rfl rfl rfl hl.1 rfl (Nat.le_of_ble_eq_true rfl) ⟨(Nat.le_of_ble_eq_true rfl), (Nat.le_of_ble_eq_true rfl)⟩ ⟨Nat.le_refl _, Nat.le_refl _⟩ dX8_comes_2 (fun H locs hd => ?_)
  refine lv_if_ne (tgt := 10) hx hb dX8_comes_5 (by decide) (fun c2 => ?_) (fun c2 => ?_)
  · replace h := iteF c2 h
    refine lv_aload_n hx hb dX8_comes_10 rfl (lv_at hl 0 rfl) ?_
    refine gX8_73 C hd dX8_comes_11 ?_
    refine lv_iconst (v := 3) hx hb dX8_comes_14 ic_3 ?_
    refine ldc_wM_19 C hd cl_3 (inb_i (by decide +kernel)) dX8_comes_15 ?_
    obtain ⟨v3, ev3, h⟩ := bnd_e h
    refine rTop ev3 ?_
    refine lv_istore (lv' := [(4, .int v3), (0, .ref (ga g 40)), (1, .int x1), (2, .int x2), (3, .int x3)]) hx hb dX8_comes_16 hl (Nat.le_of_ble_eq_true rfl) rfl (fun ls hl => ?_)
    refine lv_aload_n hx hb dX8_comes_18 rfl (lv_at hl 1 rfl) ?_
    refine lv_iload hx hb dX8_comes_19 (lv_at hl 0 rfl) ?_
    obtain ⟨r4, er4, h⟩ := cal_e h
    refine rCallI C hd (c_X8_placeOf hE er4) kX8_217 0 rfl rfl rfl rfl hl.1 rfl (Nat.le_of_ble_eq_true rfl) ⟨(Nat.le_of_ble_eq_true rfl), (Nat.le_of_ble_eq_true rfl)⟩ ⟨Nat.le_refl _, Nat.le_refl _⟩ dX8_comes_21 (fun H locs hd => ?_)
    refine lv_iconst (v := 1) hx hb dX8_comes_24 ic_1 ?_
    refine lv_iadd hx hb dX8_comes_25 ?_
    obtain ⟨v5, ev5, h⟩ := bnd_e h
    refine rTop ev5 ?_
    refine lv_istore (lv' := [(5, .int v5), (4, .int v3), (0, .ref (ga g 40)), (1, .int x1), (2, .int x2), (3, .int x3)]) hx hb dX8_comes_26 hl (Nat.le_of_ble_eq_true rfl) rfl (fun ls hl => ?_)
    refine lv_sipush (v := 1380) hx hb dX8_comes_28 si_1380 ?_
    refine lv_iconst (v := 3) hx hb dX8_comes_31 ic_3 ?_
    refine lv_sipush (v := 241) hx hb dX8_comes_32 si_241 ?_
    refine lv_iload hx hb dX8_comes_35 (lv_at hl 1 rfl) ?_
    refine lv_imul hx hb dX8_comes_37 ?_
    refine lv_iload hx hb dX8_comes_38 (lv_at hl 0 rfl) ?_
    refine lv_iadd hx hb dX8_comes_40 ?_
    refine lv_imul hx hb dX8_comes_41 ?_
    refine lv_iadd hx hb dX8_comes_42 ?_
    obtain ⟨v6, ev6, h⟩ := bnd_e h
    refine rTop ev6 ?_
    refine lv_istore (lv' := [(6, .int v6), (5, .int v5), (4, .int v3), (0, .ref (ga g 40)), (1, .int x1), (2, .int x2), (3, .int x3)]) hx hb dX8_comes_43 hl (Nat.le_of_ble_eq_true rfl) rfl (fun ls hl => ?_)
    refine lv_aload_n hx hb dX8_comes_45 rfl (lv_at hl 3 rfl) ?_
    refine gX8_73 C hd dX8_comes_46 ?_
    refine lv_bipush (v := 20) hx hb dX8_comes_49 bi_20 ?_
    refine lv_iconst (v := 4) hx hb dX8_comes_51 ic_4 ?_
    refine lv_iload hx hb dX8_comes_52 (lv_at hl 2 rfl) ?_
    refine lv_imul hx hb dX8_comes_54 ?_
    refine lv_iadd hx hb dX8_comes_55 ?_
    refine lv_iload hx hb dX8_comes_56 (lv_at hl 1 rfl) ?_
    obtain ⟨n7, h⟩ := chk h
    obtain ⟨t8, et8, h⟩ := bnd_e h
    refine st_wM_19 C hd (inb_i n7) et8 dX8_comes_58 (fun H locs hd => ?_)
    refine lv_aload_n hx hb dX8_comes_59 rfl (lv_at hl 3 rfl) ?_
    refine gX8_73 C hd dX8_comes_60 ?_
    refine lv_iload hx hb dX8_comes_63 (lv_at hl 0 rfl) ?_
    refine lv_iload_n hx hb dX8_comes_65 rfl (lv_at hl 4 rfl) ?_
    obtain ⟨n9, h⟩ := chk h
    obtain ⟨t10, et10, h⟩ := bnd_e h
    refine st_wM_19 C hd (inb_i n9) et10 dX8_comes_66 (fun H locs hd => ?_)
    refine lv_aload_n hx hb dX8_comes_67 rfl (lv_at hl 3 rfl) ?_
    refine gX8_73 C hd dX8_comes_68 ?_
    refine lv_iload hx hb dX8_comes_71 (lv_at hl 0 rfl) ?_
    refine lv_iconst (v := 1) hx hb dX8_comes_73 ic_1 ?_
    refine lv_iadd hx hb dX8_comes_74 ?_
    refine lv_iload_n hx hb dX8_comes_75 rfl (lv_at hl 5 rfl) ?_
    obtain ⟨n11, h⟩ := chk h
    obtain ⟨t12, et12, h⟩ := bnd_e h
    refine st_wM_19 C hd (inb_i n11) et12 dX8_comes_76 (fun H locs hd => ?_)
    refine lv_aload_n hx hb dX8_comes_77 rfl (lv_at hl 3 rfl) ?_
    refine gX8_73 C hd dX8_comes_78 ?_
    refine lv_iload hx hb dX8_comes_81 (lv_at hl 0 rfl) ?_
    refine lv_iconst (v := 2) hx hb dX8_comes_83 ic_2 ?_
    refine lv_iadd hx hb dX8_comes_84 ?_
    refine lv_iload_n hx hb dX8_comes_85 rfl (lv_at hl 6 rfl) ?_
    obtain ⟨n13, h⟩ := chk h
    obtain ⟨t14, et14, h⟩ := bnd_e h
    refine st_wM_19 C hd (inb_i n13) et14 dX8_comes_86 (fun H locs hd => ?_)
    refine lv_aload_n hx hb dX8_comes_87 rfl (lv_at hl 3 rfl) ?_
    refine gX8_73 C hd dX8_comes_88 ?_
    refine lv_iconst (v := 4) hx hb dX8_comes_91 ic_4 ?_
    refine lv_dup2_11 hx hb dX8_comes_92 rfl rfl ?_
    refine ldc_wM_19 C hd cl_4 (inb_i (by decide +kernel)) dX8_comes_93 ?_
    refine lv_iconst (v := 1) hx hb dX8_comes_94 ic_1 ?_
    refine lv_iadd hx hb dX8_comes_95 ?_
    obtain ⟨t15, et15, h⟩ := bnd_e h
    refine stc_wM_19 C hd cl_4 (inb_i (by decide +kernel)) et15 dX8_comes_96 (fun H locs hd => ?_)
    refine lv_iload hx hb dX8_comes_97 (lv_at hl 1 rfl) ?_
    refine lv_aload_n hx hb dX8_comes_99 rfl (lv_at hl 3 rfl) ?_
    refine gX8_73 C hd dX8_comes_100 ?_
    refine lv_iconst (v := 1) hx hb dX8_comes_103 ic_1 ?_
    refine ldc_wM_19 C hd cl_1 (inb_i (by decide +kernel)) dX8_comes_104 ?_
    obtain ⟨n16, h⟩ := chk h
    refine lv_irem hx hb dX8_comes_105 n16 ?_
    refine lv_if_ne (tgt := 131) hx hb dX8_comes_106 (by decide) (fun c17 => ?_) (fun c17 => ?_)
    · replace h := iteF c17 h
      refine lv_iload hx hb dX8_comes_131 (lv_at hl 1 rfl) ?_
      exact rIretS (w := wM g) C hr hd h dX8_comes_133
    · replace h := iteT c17 h
      refine lv_aload_n hx hb dX8_comes_109 rfl (lv_at hl 3 rfl) ?_
      refine gX8_73 C hd dX8_comes_110 ?_
      refine lv_sipush (v := 420) hx hb dX8_comes_113 si_420 ?_
      refine lv_bipush (v := 120) hx hb dX8_comes_116 bi_120 ?_
      refine lv_iload hx hb dX8_comes_118 (lv_at hl 2 rfl) ?_
      refine lv_imul hx hb dX8_comes_120 ?_
      refine lv_iadd hx hb dX8_comes_121 ?_
      refine lv_aload_n hx hb dX8_comes_122 rfl (lv_at hl 3 rfl) ?_
      refine lv_iload hx hb dX8_comes_123 (lv_at hl 1 rfl) ?_
      obtain ⟨r18, er18, h⟩ := cal_e h
      refine rCallI C hd (c_X8_pieceOf hE er18) kX8_277 0 rfl rfl rfl rfl hl.1 rfl (Nat.le_of_ble_eq_true rfl) ⟨(Nat.le_of_ble_eq_true rfl), (Nat.le_of_ble_eq_true rfl)⟩ ⟨Nat.le_refl _, Nat.le_refl _⟩ dX8_comes_125 (fun H locs hd => ?_)
      refine lv_iadd hx hb dX8_comes_128 ?_
      refine lv_iconst (v := 1) hx hb dX8_comes_129 ic_1 ?_
      obtain ⟨n19, h⟩ := chk h
      obtain ⟨t20, et20, h⟩ := bnd_e h
      refine st_wM_19 C hd (inb_i n19) et20 dX8_comes_130 (fun H locs hd => ?_)
      refine lv_iload hx hb dX8_comes_131 (lv_at hl 1 rfl) ?_
      exact rIretS (w := wM g) C hr hd h dX8_comes_133
  · replace h := iteT c2 h
    refine lv_iconst (v := (-1 : Int32)) hx hb dX8_comes_8 ic_m1 ?_
    exact rIretS (w := wM g) C hr hd h dX8_comes_9
noncomputable def f_X8_add (F : Nat) (σ : St) (x1 : Int32) (x2 : Int32) : Option (Int32 × St) :=
  cal (f_X8_isPage F σ x1) (fun r1 => if r1 = 0 then (some ((-1 : Int32), σ)) else (cal2 (f_X8_comes F σ 1 x1 x2) (fun r3 t4 => some (r3, t4))))
set_option maxRecDepth 100000 in
set_option maxHeartbeats 4000000 in
theorem c_X8_add {l : Launch} {g : Gp} {X : va_W} (hE : E0 g) {F : Nat} {r' : Int32} {σ' : St} {σ : St} {x1 : Int32} {x2 : Int32} (h : f_X8_add F σ x1 x2 = some (r', σ')) : Ci l g yX8_add cX8_add 3 (some .int) 3 [.ref (ga g 40), .int x1, .int x2] (wM g σ ++ X) r' (wM g σ' ++ X) := by
  refine rHead hE (by decide +kernel) (Nat.le_of_ble_eq_true rfl) (fun p e s m below meth c C hr _ hd ls hl => ?_)
  have hx := C.1
  have hb := C.2.1
  have hl : lv_has ls 3 [(0, .ref (ga g 40)), (1, .int x1), (2, .int x2)] := hl
  generalize ([.ref (ga g 40), .int x1, .int x2] : List Value).toArray = args at C ⊢
  have C : Cx g p s m args meth c cX8_add 3 RX8 := C
  rw [f_X8_add] at h
  refine lv_aload_n hx hb dX8_add_0 rfl (lv_at hl 0 rfl) ?_
  refine lv_iload_n hx hb dX8_add_1 rfl (lv_at hl 1 rfl) ?_
  obtain ⟨r1, er1, h⟩ := cal_e h
  refine rCallI C hd (c_X8_isPage hE er1) kX8_334 0 rfl rfl rfl rfl hl.1 rfl (Nat.le_of_ble_eq_true rfl) ⟨(Nat.le_of_ble_eq_true rfl), (Nat.le_of_ble_eq_true rfl)⟩ ⟨Nat.le_refl _, Nat.le_refl _⟩ dX8_add_2 (fun H locs hd => ?_)
  refine lv_if_eq (tgt := 18) hx hb dX8_add_5 (by decide) (fun c2 => ?_) (fun c2 => ?_)
  · replace h := iteT c2 h
    refine lv_iconst (v := (-1 : Int32)) hx hb dX8_add_18 ic_m1 ?_
    exact rIretS (w := wM g) C hr hd h dX8_add_19
  · replace h := iteF c2 h
    refine lv_aload_n hx hb dX8_add_8 rfl (lv_at hl 0 rfl) ?_
    refine lv_iconst (v := 1) hx hb dX8_add_9 ic_1 ?_
    refine lv_iload_n hx hb dX8_add_10 rfl (lv_at hl 1 rfl) ?_
    refine lv_iload_n hx hb dX8_add_11 rfl (lv_at hl 2 rfl) ?_
    obtain ⟨r3, t4, et4, h⟩ := cal2_e h
    refine rCallI C hd (c_X8_comes hE et4) kX8_337 0 rfl rfl rfl rfl hl.1 rfl (Nat.le_of_ble_eq_true rfl) ⟨(Nat.le_of_ble_eq_true rfl), (Nat.le_of_ble_eq_true rfl)⟩ ⟨Nat.le_refl _, Nat.le_refl _⟩ dX8_add_12 (fun H locs hd => ?_)
    refine lv_goto (tgt := 19) hx hb dX8_add_15 (by decide) ?_
    exact rIretS (w := wM g) C hr hd h dX8_add_19
noncomputable def f_X8_again_22 (F : Nat) : Nat → St → Int32 → Int32 → Option (Int32 × St)
  | 0, _, _, _ => none
  | n + 1, σ, x1, x2 => if 7164 ≤ x2 then (some (1, σ)) else (if inb ((7164 * x1) + x2) 21492 = true then if inb x2 7164 = true then bnd (sr σ 19 x2.toNatClampNeg (σ.2.1 23 ((7164 * x1) + x2).toNatClampNeg)) (fun t4 => bnd (x2 + 1) (fun v5 => f_X8_again_22 F n t4 x1 v5)) else none else none)
set_option maxRecDepth 100000 in
set_option maxHeartbeats 4000000 in
theorem w_X8_again_22 {F : Nat} {r' : Int32} {σ' : St}  (C : Cx g p s m args meth c cX8_again 3 RX8) (hr : meth.sig.returnType = some .boolean) :
    (∀ (n : Nat) (σ : St) (x1 : Int32) (x2 : Int32), f_X8_again_22 F n σ x1 x2 = some (r', σ') → ∀ (H : Heap) (locs : List Loc) (ls : Array Slot), Dy g (wM g σ ++ X) s H locs → lv_has ls 3 [(0, .ref (ga g 40)), (1, .int x1), (2, .int x2)] → W p l e (rmD 1) s m args below meth c H locs 0 0 (QI g below args s (wM g σ' ++ X) r') (F0 m 22 ls [])) := by
  have hx := C.1
  have hb := C.2.1
  have hE := C.2.2.2.2.2.2.2.2
  intro n
  induction n with
  | zero =>
    intro σ x1 x2 h
    cases h
  | succ n ih =>
    intro σ x1 x2 h H locs ls hd hl
    rw [f_X8_again_22] at h
    refine lv_iload_n hx hb dX8_again_22 rfl (lv_at hl 2 rfl) ?_
    refine lv_sipush (v := 7164) hx hb dX8_again_23 si_7164 ?_
    refine lv_icmp_ge (tgt := 53) hx hb dX8_again_26 (by decide) (fun c1 => ?_) (fun c1 => ?_)
    · replace h := iteT c1 h
      refine lv_iconst (v := 1) hx hb dX8_again_53 ic_1 ?_
      exact rZretS (w := wM g) C hr hd h (by decide) dX8_again_54
    · replace h := iteF c1 h
      refine lv_aload_n hx hb dX8_again_29 rfl (lv_at hl 0 rfl) ?_
      refine gX8_73 C hd dX8_again_30 ?_
      refine lv_iload_n hx hb dX8_again_33 rfl (lv_at hl 2 rfl) ?_
      refine lv_aload_n hx hb dX8_again_34 rfl (lv_at hl 0 rfl) ?_
      refine gX8_86 C hd dX8_again_35 ?_
      refine lv_sipush (v := 7164) hx hb dX8_again_38 si_7164 ?_
      refine lv_iload_n hx hb dX8_again_41 rfl (lv_at hl 1 rfl) ?_
      refine lv_imul hx hb dX8_again_42 ?_
      refine lv_iload_n hx hb dX8_again_43 rfl (lv_at hl 2 rfl) ?_
      refine lv_iadd hx hb dX8_again_44 ?_
      obtain ⟨n2, h⟩ := chk h
      refine ld_wM_23 C hd (inb_i n2) dX8_again_45 ?_
      obtain ⟨n3, h⟩ := chk h
      obtain ⟨t4, et4, h⟩ := bnd_e h
      refine st_wM_19 C hd (inb_i n3) et4 dX8_again_46 (fun H locs hd => ?_)
      obtain ⟨v5, ev5, h⟩ := bnd_e h
      refine lv_iinc (v := v5) (lv' := [(2, .int v5), (0, .ref (ga g 40)), (1, .int x1)]) hx hb dX8_again_47 hl (k := 2) rfl ((ii_1 _).trans ev5.symm) (Nat.le_of_ble_eq_true rfl) rfl (fun ls hl => ?_)
      refine lv_goto (tgt := 22) hx hb dX8_again_50 (by decide) ?_
      exact ih t4 x1 v5 h _ _ _ hd (lv_sub hl [1, 2, 0] rfl)
noncomputable def f_X8_again (F : Nat) (σ : St) (x1 : Int32) : Option (Int32 × St) :=
  cal (f_X8_in F σ x1 0 2) (fun r1 => if r1 = 0 then (some (0, σ)) else (if inb x1 3 = true then if (σ.2.1 22 x1.toNatClampNeg) = 0 then (some (0, σ)) else (f_X8_again_22 F F σ x1 0) else none))
set_option maxRecDepth 100000 in
set_option maxHeartbeats 4000000 in
theorem c_X8_again {l : Launch} {g : Gp} {X : va_W} (hE : E0 g) {F : Nat} {r' : Int32} {σ' : St} {σ : St} {x1 : Int32} (h : f_X8_again F σ x1 = some (r', σ')) : Ci l g yX8_again cX8_again 3 (some .boolean) 1 [.ref (ga g 40), .int x1] (wM g σ ++ X) r' (wM g σ' ++ X) := by
  refine rHead hE (by decide +kernel) (Nat.le_of_ble_eq_true rfl) (fun p e s m below meth c C hr _ hd ls hl => ?_)
  have hx := C.1
  have hb := C.2.1
  have hl : lv_has ls 3 [(0, .ref (ga g 40)), (1, .int x1)] := hl
  generalize ([.ref (ga g 40), .int x1] : List Value).toArray = args at C ⊢
  have C : Cx g p s m args meth c cX8_again 3 RX8 := C
  rw [f_X8_again] at h
  refine lv_iload_n hx hb dX8_again_0 rfl (lv_at hl 1 rfl) ?_
  refine lv_iconst (v := 0) hx hb dX8_again_1 ic_0 ?_
  refine lv_iconst (v := 2) hx hb dX8_again_2 ic_2 ?_
  obtain ⟨r1, er1, h⟩ := cal_e h
  refine rCallSI C hd (c_X8_in hE er1) kX8_194 rfl hl.1 rfl (Nat.le_of_ble_eq_true rfl) ⟨(Nat.le_of_ble_eq_true rfl), (Nat.le_of_ble_eq_true rfl)⟩ ⟨Nat.le_refl _, Nat.le_refl _⟩ dX8_again_3 (fun H locs hd => ?_)
  refine lv_if_eq (tgt := 18) hx hb dX8_again_6 (by decide) (fun c2 => ?_) (fun c2 => ?_)
  · replace h := iteT c2 h
    refine lv_iconst (v := 0) hx hb dX8_again_18 ic_0 ?_
    exact rZretS (w := wM g) C hr hd h (by decide) dX8_again_19
  · replace h := iteF c2 h
    refine lv_aload_n hx hb dX8_again_9 rfl (lv_at hl 0 rfl) ?_
    refine gX8_82 C hd dX8_again_10 ?_
    refine lv_iload_n hx hb dX8_again_13 rfl (lv_at hl 1 rfl) ?_
    obtain ⟨n3, h⟩ := chk h
    refine ld_wM_22 C hd (inb_i n3) dX8_again_14 ?_
    refine lv_if_ne (tgt := 20) hx hb dX8_again_15 (by decide) (fun c4 => ?_) (fun c4 => ?_)
    · replace h := iteF c4 h
      refine lv_iconst (v := 0) hx hb dX8_again_20 ic_0 ?_
      refine lv_istore_n (lv' := [(2, .int 0), (0, .ref (ga g 40)), (1, .int x1)]) hx hb dX8_again_21 rfl hl (Nat.le_of_ble_eq_true rfl) rfl (fun ls hl => ?_)
      exact w_X8_again_22 C hr _ σ x1 0 h _ _ _ hd (lv_sub hl [1, 2, 0] rfl)
    · replace h := iteT c4 h
      refine lv_iconst (v := 0) hx hb dX8_again_18 ic_0 ?_
      exact rZretS (w := wM g) C hr hd h (by decide) dX8_again_19
noncomputable def f_X8_isCopy (F : Nat) (σ : St) (x1 : Int32) : Option Int32 :=
  cal (f_X8_in F σ x1 0 ((σ.2.1 19 5) - 1)) (fun r1 => if r1 = 0 ∨ r1 = 1 then some r1 else none)
set_option maxRecDepth 100000 in
set_option maxHeartbeats 4000000 in
theorem c_X8_isCopy {l : Launch} {g : Gp} {X : va_W} (hE : E0 g) {F : Nat} {r' : Int32} {σ : St} {x1 : Int32} (h : f_X8_isCopy F σ x1 = some r') : Ci l g yX8_isCopy cX8_isCopy 2 (some .boolean) 1 [.ref (ga g 40), .int x1] (wM g σ ++ X) r' (wM g σ ++ X) := by
  refine rHead hE (by decide +kernel) (Nat.le_of_ble_eq_true rfl) (fun p e s m below meth c C hr _ hd ls hl => ?_)
  have hx := C.1
  have hb := C.2.1
  have hl : lv_has ls 2 [(0, .ref (ga g 40)), (1, .int x1)] := hl
  generalize ([.ref (ga g 40), .int x1] : List Value).toArray = args at C ⊢
  have C : Cx g p s m args meth c cX8_isCopy 2 RX8 := C
  rw [f_X8_isCopy] at h
  refine lv_iload_n hx hb dX8_isCopy_0 rfl (lv_at hl 1 rfl) ?_
  refine lv_iconst (v := 0) hx hb dX8_isCopy_1 ic_0 ?_
  refine lv_aload_n hx hb dX8_isCopy_2 rfl (lv_at hl 0 rfl) ?_
  refine gX8_73 C hd dX8_isCopy_3 ?_
  refine lv_iconst (v := 5) hx hb dX8_isCopy_6 ic_5 ?_
  refine ldc_wM_19 C hd cl_5 (inb_i (by decide +kernel)) dX8_isCopy_7 ?_
  refine lv_iconst (v := 1) hx hb dX8_isCopy_8 ic_1 ?_
  refine lv_isub hx hb dX8_isCopy_9 ?_
  obtain ⟨r1, er1, h⟩ := cal_e h
  refine rCallSI C hd (c_X8_in hE er1) kX8_194 rfl hl.1 rfl (Nat.le_of_ble_eq_true rfl) ⟨(Nat.le_of_ble_eq_true rfl), (Nat.le_of_ble_eq_true rfl)⟩ ⟨Nat.le_refl _, Nat.le_refl _⟩ dX8_isCopy_10 (fun H locs hd => ?_)
  obtain ⟨n2, h⟩ := chk h
  exact rZretP C hr hd h n2 dX8_isCopy_13
noncomputable def f_X8_ofCopy (F : Nat) (σ : St) (x1 : Int32) (x2 : Int32) : Option Int32 :=
  if inb ((60 + (4 * x1)) + x2) 7164 = true then some (σ.2.1 19 ((60 + (4 * x1)) + x2).toNatClampNeg) else none
set_option maxRecDepth 100000 in
set_option maxHeartbeats 4000000 in
theorem c_X8_ofCopy {l : Launch} {g : Gp} {X : va_W} (hE : E0 g) {F : Nat} {r' : Int32} {σ : St} {x1 : Int32} {x2 : Int32} (h : f_X8_ofCopy F σ x1 x2 = some r') : Ci l g yX8_ofCopy cX8_ofCopy 3 (some .int) 0 [.ref (ga g 40), .int x1, .int x2] (wM g σ ++ X) r' (wM g σ ++ X) := by
  refine rHead hE (by decide +kernel) (Nat.le_of_ble_eq_true rfl) (fun p e s m below meth c C hr _ hd ls hl => ?_)
  have hx := C.1
  have hb := C.2.1
  have hl : lv_has ls 3 [(0, .ref (ga g 40)), (1, .int x1), (2, .int x2)] := hl
  generalize ([.ref (ga g 40), .int x1, .int x2] : List Value).toArray = args at C ⊢
  have C : Cx g p s m args meth c cX8_ofCopy 3 RX8 := C
  rw [f_X8_ofCopy] at h
  refine lv_aload_n hx hb dX8_ofCopy_0 rfl (lv_at hl 0 rfl) ?_
  refine gX8_73 C hd dX8_ofCopy_1 ?_
  refine lv_bipush (v := 60) hx hb dX8_ofCopy_4 bi_60 ?_
  refine lv_iconst (v := 4) hx hb dX8_ofCopy_6 ic_4 ?_
  refine lv_iload_n hx hb dX8_ofCopy_7 rfl (lv_at hl 1 rfl) ?_
  refine lv_imul hx hb dX8_ofCopy_8 ?_
  refine lv_iadd hx hb dX8_ofCopy_9 ?_
  refine lv_iload_n hx hb dX8_ofCopy_10 rfl (lv_at hl 2 rfl) ?_
  refine lv_iadd hx hb dX8_ofCopy_11 ?_
  obtain ⟨n1, h⟩ := chk h
  refine ld_wM_19 C hd (inb_i n1) dX8_ofCopy_12 ?_
  exact rIretP C hr hd h dX8_ofCopy_13
noncomputable def f_X8_takenAt_2 (F : Nat) : Nat → St → Int32 → Int32 → Option Int32
  | 0, _, _, _ => none
  | n + 1, σ, x2, x3 => if x3 < 0 then (some (-1 : Int32)) else (bnd (100 + (4 * ((8 * x3) + x2))) (fun v2 => if inb v2 7164 = true then if (σ.2.1 19 v2.toNatClampNeg) = 1 then (some v2) else (cal (f_X8_ofCopy F σ x3 1) (fun r5 => f_X8_takenAt_2 F n σ x2 r5)) else none))
set_option maxRecDepth 100000 in
set_option maxHeartbeats 4000000 in
theorem w_X8_takenAt_2 {F : Nat} {r' : Int32}  (C : Cx g p s m args meth c cX8_takenAt 5 RX8) (hr : meth.sig.returnType = some .int) :
    (∀ (n : Nat) (σ : St) (x2 : Int32) (x3 : Int32), f_X8_takenAt_2 F n σ x2 x3 = some r' → ∀ (H : Heap) (locs : List Loc) (ls : Array Slot), Dy g (wM g σ ++ X) s H locs → lv_has ls 5 [(0, .ref (ga g 40)), (2, .int x2), (3, .int x3)] → W p l e (rmD 1) s m args below meth c H locs 0 0 (QI g below args s (wM g σ ++ X) r') (F0 m 2 ls [])) := by
  have hx := C.1
  have hb := C.2.1
  have hE := C.2.2.2.2.2.2.2.2
  intro n
  induction n with
  | zero =>
    intro σ x2 x3 h
    cases h
  | succ n ih =>
    intro σ x2 x3 h H locs ls hd hl
    rw [f_X8_takenAt_2] at h
    refine lv_iload_n hx hb dX8_takenAt_2 rfl (lv_at hl 2 rfl) ?_
    refine lv_if_lt (tgt := 43) hx hb dX8_takenAt_3 (by decide) (fun c1 => ?_) (fun c1 => ?_)
    · replace h := iteT c1 h
      refine lv_iconst (v := (-1 : Int32)) hx hb dX8_takenAt_43 ic_m1 ?_
      exact rIretP C hr hd h dX8_takenAt_44
    · replace h := iteF c1 h
      refine lv_bipush (v := 100) hx hb dX8_takenAt_6 bi_100 ?_
      refine lv_iconst (v := 4) hx hb dX8_takenAt_8 ic_4 ?_
      refine lv_bipush (v := 8) hx hb dX8_takenAt_9 bi_8 ?_
      refine lv_iload_n hx hb dX8_takenAt_11 rfl (lv_at hl 2 rfl) ?_
      refine lv_imul hx hb dX8_takenAt_12 ?_
      refine lv_iload_n hx hb dX8_takenAt_13 rfl (lv_at hl 1 rfl) ?_
      refine lv_iadd hx hb dX8_takenAt_14 ?_
      refine lv_imul hx hb dX8_takenAt_15 ?_
      refine lv_iadd hx hb dX8_takenAt_16 ?_
      obtain ⟨v2, ev2, h⟩ := bnd_e h
      refine rTop ev2 ?_
      refine lv_istore (lv' := [(4, .int v2), (0, .ref (ga g 40)), (2, .int x2), (3, .int x3)]) hx hb dX8_takenAt_17 hl (Nat.le_of_ble_eq_true rfl) rfl (fun ls hl => ?_)
      refine lv_aload_n hx hb dX8_takenAt_19 rfl (lv_at hl 1 rfl) ?_
      refine gX8_73 C hd dX8_takenAt_20 ?_
      refine lv_iload hx hb dX8_takenAt_23 (lv_at hl 0 rfl) ?_
      obtain ⟨n3, h⟩ := chk h
      refine ld_wM_19 C hd (inb_i n3) dX8_takenAt_25 ?_
      refine lv_iconst (v := 1) hx hb dX8_takenAt_26 ic_1 ?_
      refine lv_icmp_ne (tgt := 33) hx hb dX8_takenAt_27 (by decide) (fun c4 => ?_) (fun c4 => ?_)
      · replace h := iteF c4 h
        refine lv_aload_n hx hb dX8_takenAt_33 rfl (lv_at hl 1 rfl) ?_
        refine lv_iload_n hx hb dX8_takenAt_34 rfl (lv_at hl 3 rfl) ?_
        refine lv_iconst (v := 1) hx hb dX8_takenAt_35 ic_1 ?_
        obtain ⟨r5, er5, h⟩ := cal_e h
        refine rCallI C hd (c_X8_ofCopy hE er5) kX8_286 0 rfl rfl rfl rfl hl.1 rfl (Nat.le_of_ble_eq_true rfl) ⟨(Nat.le_of_ble_eq_true rfl), (Nat.le_of_ble_eq_true rfl)⟩ ⟨Nat.le_refl _, Nat.le_refl _⟩ dX8_takenAt_36 (fun H locs hd => ?_)
        refine lv_istore_n (lv' := [(3, .int r5), (4, .int v2), (0, .ref (ga g 40)), (2, .int x2)]) hx hb dX8_takenAt_39 rfl hl (Nat.le_of_ble_eq_true rfl) rfl (fun ls hl => ?_)
        refine lv_goto (tgt := 2) hx hb dX8_takenAt_40 (by decide) ?_
        exact ih σ x2 r5 h _ _ _ hd (lv_sub hl [2, 3, 0] rfl)
      · replace h := iteT c4 h
        refine lv_iload hx hb dX8_takenAt_30 (lv_at hl 0 rfl) ?_
        exact rIretP C hr hd h dX8_takenAt_32
noncomputable def f_X8_takenAt (F : Nat) (σ : St) (x1 : Int32) (x2 : Int32) : Option Int32 :=
  f_X8_takenAt_2 F F σ x2 x1
set_option maxRecDepth 100000 in
set_option maxHeartbeats 4000000 in
theorem c_X8_takenAt {l : Launch} {g : Gp} {X : va_W} (hE : E0 g) {F : Nat} {r' : Int32} {σ : St} {x1 : Int32} {x2 : Int32} (h : f_X8_takenAt F σ x1 x2 = some r') : Ci l g yX8_takenAt cX8_takenAt 5 (some .int) 1 [.ref (ga g 40), .int x1, .int x2] (wM g σ ++ X) r' (wM g σ ++ X) := by
  refine rHead hE (by decide +kernel) (Nat.le_of_ble_eq_true rfl) (fun p e s m below meth c C hr _ hd ls hl => ?_)
  have hx := C.1
  have hb := C.2.1
  have hl : lv_has ls 5 [(0, .ref (ga g 40)), (1, .int x1), (2, .int x2)] := hl
  generalize ([.ref (ga g 40), .int x1, .int x2] : List Value).toArray = args at C ⊢
  have C : Cx g p s m args meth c cX8_takenAt 5 RX8 := C
  rw [f_X8_takenAt] at h
  refine lv_iload_n hx hb dX8_takenAt_0 rfl (lv_at hl 1 rfl) ?_
  refine lv_istore_n (lv' := [(3, .int x1), (0, .ref (ga g 40)), (1, .int x1), (2, .int x2)]) hx hb dX8_takenAt_1 rfl hl (Nat.le_of_ble_eq_true rfl) rfl (fun ls hl => ?_)
  exact w_X8_takenAt_2 C hr _ σ x2 x1 h _ _ _ hd (lv_sub hl [1, 3, 0] rfl)
noncomputable def f_X8_isFit_40 (F : Nat) : Nat → St → Int32 → Int32 → Option Int32
  | 0, _, _, _ => none
  | n + 1, σ, x1, x3 => if (σ.2.1 19 0) ≤ x3 then (some 1) else (cal (f_X8_takenAt F σ x1 x3) (fun r2 => if 0 ≤ r2 then (bnd (x3 + 1) (fun v4 => f_X8_isFit_40 F n σ x1 v4)) else (some 0)))
set_option maxRecDepth 100000 in
set_option maxHeartbeats 4000000 in
theorem w_X8_isFit_40 {F : Nat} {r' : Int32}  (C : Cx g p s m args meth c cX8_isFit 4 RX8) (hr : meth.sig.returnType = some .boolean) :
    (∀ (n : Nat) (σ : St) (x1 : Int32) (x3 : Int32), f_X8_isFit_40 F n σ x1 x3 = some r' → ∀ (H : Heap) (locs : List Loc) (ls : Array Slot), Dy g (wM g σ ++ X) s H locs → lv_has ls 4 [(0, .ref (ga g 40)), (1, .int x1), (3, .int x3)] → W p l e (rmD 2) s m args below meth c H locs 0 0 (QI g below args s (wM g σ ++ X) r') (F0 m 40 ls [])) := by
  have hx := C.1
  have hb := C.2.1
  have hE := C.2.2.2.2.2.2.2.2
  intro n
  induction n with
  | zero =>
    intro σ x1 x3 h
    cases h
  | succ n ih =>
    intro σ x1 x3 h H locs ls hd hl
    rw [f_X8_isFit_40] at h
    refine lv_iload_n hx hb dX8_isFit_40 rfl (lv_at hl 2 rfl) ?_
    refine lv_aload_n hx hb dX8_isFit_41 rfl (lv_at hl 0 rfl) ?_
    refine gX8_73 C hd dX8_isFit_42 ?_
    refine lv_iconst (v := 0) hx hb dX8_isFit_45 ic_0 ?_
    refine ldc_wM_19 C hd cl_0 (inb_i (by decide +kernel)) dX8_isFit_46 ?_
    refine lv_icmp_ge (tgt := 67) hx hb dX8_isFit_47 (by decide) (fun c1 => ?_) (fun c1 => ?_)
    · replace h := iteT c1 h
      refine lv_iconst (v := 1) hx hb dX8_isFit_67 ic_1 ?_
      exact rZretP C hr hd h (by decide) dX8_isFit_68
    · replace h := iteF c1 h
      refine lv_aload_n hx hb dX8_isFit_50 rfl (lv_at hl 0 rfl) ?_
      refine lv_iload_n hx hb dX8_isFit_51 rfl (lv_at hl 1 rfl) ?_
      refine lv_iload_n hx hb dX8_isFit_52 rfl (lv_at hl 2 rfl) ?_
      obtain ⟨r2, er2, h⟩ := cal_e h
      refine rCallI C hd (c_X8_takenAt hE er2) kX8_289 0 rfl rfl rfl rfl hl.1 rfl (Nat.le_of_ble_eq_true rfl) ⟨(Nat.le_of_ble_eq_true rfl), (Nat.le_of_ble_eq_true rfl)⟩ ⟨Nat.le_refl _, Nat.le_refl _⟩ dX8_isFit_53 (fun H locs hd => ?_)
      refine lv_if_ge (tgt := 61) hx hb dX8_isFit_56 (by decide) (fun c3 => ?_) (fun c3 => ?_)
      · replace h := iteT c3 h
        obtain ⟨v4, ev4, h⟩ := bnd_e h
        refine lv_iinc (v := v4) (lv' := [(3, .int v4), (0, .ref (ga g 40)), (1, .int x1)]) hx hb dX8_isFit_61 hl (k := 2) rfl ((ii_1 _).trans ev4.symm) (Nat.le_of_ble_eq_true rfl) rfl (fun ls hl => ?_)
        refine lv_goto (tgt := 40) hx hb dX8_isFit_64 (by decide) ?_
        exact ih σ x1 v4 h _ _ _ hd (lv_sub hl [1, 2, 0] rfl)
      · replace h := iteF c3 h
        refine lv_iconst (v := 0) hx hb dX8_isFit_59 ic_0 ?_
        exact rZretP C hr hd h (by decide) dX8_isFit_60
noncomputable def f_X8_isFit_2 (F : Nat) : Nat → St → Int32 → Int32 → Option Int32
  | 0, _, _, _ => none
  | n + 1, σ, x1, x2 => if x2 < 0 then (f_X8_isFit_40 F F σ x1 0) else (cal (f_X8_ofCopy F σ x2 2) (fun r2 => if r2 = 1 then (some 0) else (cal (f_X8_ofCopy F σ x2 3) (fun r4 => if r4 = 1 then (some 0) else (cal (f_X8_ofCopy F σ x2 1) (fun r6 => f_X8_isFit_2 F n σ x1 r6))))))
set_option maxRecDepth 100000 in
set_option maxHeartbeats 4000000 in
theorem w_X8_isFit_2 {F : Nat} {r' : Int32}  (C : Cx g p s m args meth c cX8_isFit 4 RX8) (hr : meth.sig.returnType = some .boolean) :
    (∀ (n : Nat) (σ : St) (x1 : Int32) (x2 : Int32), f_X8_isFit_2 F n σ x1 x2 = some r' → ∀ (H : Heap) (locs : List Loc) (ls : Array Slot), Dy g (wM g σ ++ X) s H locs → lv_has ls 4 [(0, .ref (ga g 40)), (1, .int x1), (2, .int x2)] → W p l e (rmD 2) s m args below meth c H locs 0 0 (QI g below args s (wM g σ ++ X) r') (F0 m 2 ls [])) := by
  have hx := C.1
  have hb := C.2.1
  have hE := C.2.2.2.2.2.2.2.2
  intro n
  induction n with
  | zero =>
    intro σ x1 x2 h
    cases h
  | succ n ih =>
    intro σ x1 x2 h H locs ls hd hl
    rw [f_X8_isFit_2] at h
    refine lv_iload_n hx hb dX8_isFit_2 rfl (lv_at hl 2 rfl) ?_
    refine lv_if_lt (tgt := 38) hx hb dX8_isFit_3 (by decide) (fun c1 => ?_) (fun c1 => ?_)
    · replace h := iteT c1 h
      refine lv_iconst (v := 0) hx hb dX8_isFit_38 ic_0 ?_
      refine lv_istore_n (lv' := [(3, .int 0), (0, .ref (ga g 40)), (1, .int x1), (2, .int x2)]) hx hb dX8_isFit_39 rfl hl (Nat.le_of_ble_eq_true rfl) rfl (fun ls hl => ?_)
      exact w_X8_isFit_40 C hr _ σ x1 0 h _ _ _ hd (lv_sub hl [1, 2, 0] rfl)
    · replace h := iteF c1 h
      refine lv_aload_n hx hb dX8_isFit_6 rfl (lv_at hl 0 rfl) ?_
      refine lv_iload_n hx hb dX8_isFit_7 rfl (lv_at hl 2 rfl) ?_
      refine lv_iconst (v := 2) hx hb dX8_isFit_8 ic_2 ?_
      obtain ⟨r2, er2, h⟩ := cal_e h
      refine rCallI C hd (c_X8_ofCopy hE er2) kX8_286 0 rfl rfl rfl rfl hl.1 rfl (Nat.le_of_ble_eq_true rfl) ⟨(Nat.le_of_ble_eq_true rfl), (Nat.le_of_ble_eq_true rfl)⟩ ⟨Nat.le_refl _, Nat.le_refl _⟩ dX8_isFit_9 (fun H locs hd => ?_)
      refine lv_iconst (v := 1) hx hb dX8_isFit_12 ic_1 ?_
      refine lv_icmp_eq (tgt := 26) hx hb dX8_isFit_13 (by decide) (fun c3 => ?_) (fun c3 => ?_)
      · replace h := iteT c3 h
        refine lv_iconst (v := 0) hx hb dX8_isFit_26 ic_0 ?_
        exact rZretP C hr hd h (by decide) dX8_isFit_27
      · replace h := iteF c3 h
        refine lv_aload_n hx hb dX8_isFit_16 rfl (lv_at hl 0 rfl) ?_
        refine lv_iload_n hx hb dX8_isFit_17 rfl (lv_at hl 2 rfl) ?_
        refine lv_iconst (v := 3) hx hb dX8_isFit_18 ic_3 ?_
        obtain ⟨r4, er4, h⟩ := cal_e h
        refine rCallI C hd (c_X8_ofCopy hE er4) kX8_286 0 rfl rfl rfl rfl hl.1 rfl (Nat.le_of_ble_eq_true rfl) ⟨(Nat.le_of_ble_eq_true rfl), (Nat.le_of_ble_eq_true rfl)⟩ ⟨Nat.le_refl _, Nat.le_refl _⟩ dX8_isFit_19 (fun H locs hd => ?_)
        refine lv_iconst (v := 1) hx hb dX8_isFit_22 ic_1 ?_
        refine lv_icmp_ne (tgt := 28) hx hb dX8_isFit_23 (by decide) (fun c5 => ?_) (fun c5 => ?_)
        · replace h := iteF c5 h
          refine lv_aload_n hx hb dX8_isFit_28 rfl (lv_at hl 0 rfl) ?_
          refine lv_iload_n hx hb dX8_isFit_29 rfl (lv_at hl 2 rfl) ?_
          refine lv_iconst (v := 1) hx hb dX8_isFit_30 ic_1 ?_
          obtain ⟨r6, er6, h⟩ := cal_e h
          refine rCallI C hd (c_X8_ofCopy hE er6) kX8_286 0 rfl rfl rfl rfl hl.1 rfl (Nat.le_of_ble_eq_true rfl) ⟨(Nat.le_of_ble_eq_true rfl), (Nat.le_of_ble_eq_true rfl)⟩ ⟨Nat.le_refl _, Nat.le_refl _⟩ dX8_isFit_31 (fun H locs hd => ?_)
          refine lv_istore_n (lv' := [(2, .int r6), (0, .ref (ga g 40)), (1, .int x1)]) hx hb dX8_isFit_34 rfl hl (Nat.le_of_ble_eq_true rfl) rfl (fun ls hl => ?_)
          refine lv_goto (tgt := 2) hx hb dX8_isFit_35 (by decide) ?_
          exact ih σ x1 r6 h _ _ _ hd (lv_sub hl [1, 2, 0] rfl)
        · replace h := iteT c5 h
          refine lv_iconst (v := 0) hx hb dX8_isFit_26 ic_0 ?_
          exact rZretP C hr hd h (by decide) dX8_isFit_27
noncomputable def f_X8_isFit (F : Nat) (σ : St) (x1 : Int32) : Option Int32 :=
  f_X8_isFit_2 F F σ x1 x1
set_option maxRecDepth 100000 in
set_option maxHeartbeats 4000000 in
theorem c_X8_isFit {l : Launch} {g : Gp} {X : va_W} (hE : E0 g) {F : Nat} {r' : Int32} {σ : St} {x1 : Int32} (h : f_X8_isFit F σ x1 = some r') : Ci l g yX8_isFit cX8_isFit 4 (some .boolean) 2 [.ref (ga g 40), .int x1] (wM g σ ++ X) r' (wM g σ ++ X) := by
  refine rHead hE (by decide +kernel) (Nat.le_of_ble_eq_true rfl) (fun p e s m below meth c C hr _ hd ls hl => ?_)
  have hx := C.1
  have hb := C.2.1
  have hl : lv_has ls 4 [(0, .ref (ga g 40)), (1, .int x1)] := hl
  generalize ([.ref (ga g 40), .int x1] : List Value).toArray = args at C ⊢
  have C : Cx g p s m args meth c cX8_isFit 4 RX8 := C
  rw [f_X8_isFit] at h
  refine lv_iload_n hx hb dX8_isFit_0 rfl (lv_at hl 1 rfl) ?_
  refine lv_istore_n (lv' := [(2, .int x1), (0, .ref (ga g 40)), (1, .int x1)]) hx hb dX8_isFit_1 rfl hl (Nat.le_of_ble_eq_true rfl) rfl (fun ls hl => ?_)
  exact w_X8_isFit_2 C hr _ σ x1 x1 h _ _ _ hd (lv_sub hl [1, 2, 0] rfl)
noncomputable def f_X8_latestTaken_45 (F : Nat) (k_4 : St → Int32 → Int32 → Int32 → Option Int32) (σ : St) (x1 : Int32) (x2 : Int32) (x3 : Int32) : Option Int32 :=
  bnd (x3 + 1) (fun v1 => k_4 σ x1 x2 v1)
set_option maxRecDepth 100000 in
set_option maxHeartbeats 4000000 in
theorem w_X8_latestTaken_45 {F : Nat} {r' : Int32}  (C : Cx g p s m args meth c cX8_latestTaken 4 RX8) (hr : meth.sig.returnType = some .int)
    {k_4 : St → Int32 → Int32 → Int32 → Option Int32} (hk_4 : (∀ (σ : St) (x1 : Int32) (x2 : Int32) (x3 : Int32), k_4 σ x1 x2 x3 = some r' → ∀ (H : Heap) (locs : List Loc) (ls : Array Slot), Dy g (wM g σ ++ X) s H locs → lv_has ls 4 [(0, .ref (ga g 40)), (1, .int x1), (2, .int x2), (3, .int x3)] → W p l e (rmD 2) s m args below meth c H locs 0 0 (QI g below args s (wM g σ ++ X) r') (F0 m 4 ls []))) :
    (∀ (σ : St) (x1 : Int32) (x2 : Int32) (x3 : Int32), f_X8_latestTaken_45 F k_4 σ x1 x2 x3 = some r' → ∀ (H : Heap) (locs : List Loc) (ls : Array Slot), Dy g (wM g σ ++ X) s H locs → lv_has ls 4 [(0, .ref (ga g 40)), (1, .int x1), (2, .int x2), (3, .int x3)] → W p l e (rmD 2) s m args below meth c H locs 0 0 (QI g below args s (wM g σ ++ X) r') (F0 m 45 ls [])) := by
  have hx := C.1
  have hb := C.2.1
  have hE := C.2.2.2.2.2.2.2.2
  intro σ x1 x2 x3 h H locs ls hd hl
  rw [f_X8_latestTaken_45] at h
  obtain ⟨v1, ev1, h⟩ := bnd_e h
  refine lv_iinc (v := v1) (lv' := [(3, .int v1), (0, .ref (ga g 40)), (1, .int x1), (2, .int x2)]) hx hb dX8_latestTaken_45 hl (k := 3) rfl ((ii_1 _).trans ev1.symm) (Nat.le_of_ble_eq_true rfl) rfl (fun ls hl => ?_)
  refine lv_goto (tgt := 4) hx hb dX8_latestTaken_48 (by decide) ?_
  exact hk_4 σ x1 x2 v1 h _ _ _ hd (lv_sub hl [1, 2, 3, 0] rfl)
noncomputable def f_X8_latestTaken_4 (F : Nat) : Nat → St → Int32 → Int32 → Int32 → Option Int32
  | 0, _, _, _, _ => none
  | n + 1, σ, x1, x2, x3 => if (σ.2.1 19 0) ≤ x3 then (some x2) else (cal (f_X8_takenAt F σ x1 x3) (fun r2 => if inb (r2 + 2) 7164 = true then if (σ.2.1 19 (r2 + 2).toNatClampNeg) ≤ x2 then (f_X8_latestTaken_45 F (f_X8_latestTaken_4 F n) σ x1 x2 x3) else (cal (f_X8_takenAt F σ x1 x3) (fun r5 => if inb (r5 + 2) 7164 = true then bnd (σ.2.1 19 (r5 + 2).toNatClampNeg) (fun v7 => f_X8_latestTaken_45 F (f_X8_latestTaken_4 F n) σ x1 v7 x3) else none)) else none))
set_option maxRecDepth 100000 in
set_option maxHeartbeats 4000000 in
theorem w_X8_latestTaken_4 {F : Nat} {r' : Int32}  (C : Cx g p s m args meth c cX8_latestTaken 4 RX8) (hr : meth.sig.returnType = some .int) :
    (∀ (n : Nat) (σ : St) (x1 : Int32) (x2 : Int32) (x3 : Int32), f_X8_latestTaken_4 F n σ x1 x2 x3 = some r' → ∀ (H : Heap) (locs : List Loc) (ls : Array Slot), Dy g (wM g σ ++ X) s H locs → lv_has ls 4 [(0, .ref (ga g 40)), (1, .int x1), (2, .int x2), (3, .int x3)] → W p l e (rmD 2) s m args below meth c H locs 0 0 (QI g below args s (wM g σ ++ X) r') (F0 m 4 ls [])) := by
  have hx := C.1
  have hb := C.2.1
  have hE := C.2.2.2.2.2.2.2.2
  intro n
  induction n with
  | zero =>
    intro σ x1 x2 x3 h
    cases h
  | succ n ih =>
    intro σ x1 x2 x3 h H locs ls hd hl
    rw [f_X8_latestTaken_4] at h
    refine lv_iload_n hx hb dX8_latestTaken_4 rfl (lv_at hl 3 rfl) ?_
    refine lv_aload_n hx hb dX8_latestTaken_5 rfl (lv_at hl 0 rfl) ?_
    refine gX8_73 C hd dX8_latestTaken_6 ?_
    refine lv_iconst (v := 0) hx hb dX8_latestTaken_9 ic_0 ?_
    refine ldc_wM_19 C hd cl_0 (inb_i (by decide +kernel)) dX8_latestTaken_10 ?_
    refine lv_icmp_ge (tgt := 51) hx hb dX8_latestTaken_11 (by decide) (fun c1 => ?_) (fun c1 => ?_)
    · replace h := iteT c1 h
      refine lv_iload_n hx hb dX8_latestTaken_51 rfl (lv_at hl 2 rfl) ?_
      exact rIretP C hr hd h dX8_latestTaken_52
    · replace h := iteF c1 h
      refine lv_aload_n hx hb dX8_latestTaken_14 rfl (lv_at hl 0 rfl) ?_
      refine gX8_73 C hd dX8_latestTaken_15 ?_
      refine lv_aload_n hx hb dX8_latestTaken_18 rfl (lv_at hl 0 rfl) ?_
      refine lv_iload_n hx hb dX8_latestTaken_19 rfl (lv_at hl 1 rfl) ?_
      refine lv_iload_n hx hb dX8_latestTaken_20 rfl (lv_at hl 3 rfl) ?_
      obtain ⟨r2, er2, h⟩ := cal_e h
      refine rCallI C hd (c_X8_takenAt hE er2) kX8_289 0 rfl rfl rfl rfl hl.1 rfl (Nat.le_of_ble_eq_true rfl) ⟨(Nat.le_of_ble_eq_true rfl), (Nat.le_of_ble_eq_true rfl)⟩ ⟨Nat.le_refl _, Nat.le_refl _⟩ dX8_latestTaken_21 (fun H locs hd => ?_)
      refine lv_iconst (v := 2) hx hb dX8_latestTaken_24 ic_2 ?_
      refine lv_iadd hx hb dX8_latestTaken_25 ?_
      obtain ⟨n3, h⟩ := chk h
      refine ld_wM_19 C hd (inb_i n3) dX8_latestTaken_26 ?_
      refine lv_iload_n hx hb dX8_latestTaken_27 rfl (lv_at hl 2 rfl) ?_
      refine lv_icmp_le (tgt := 45) hx hb dX8_latestTaken_28 (by decide) (fun c4 => ?_) (fun c4 => ?_)
      · replace h := iteT c4 h
        exact w_X8_latestTaken_45 C hr ih σ x1 x2 x3 h _ _ _ hd (lv_sub hl [0, 1, 2, 3] rfl)
      · replace h := iteF c4 h
        refine lv_aload_n hx hb dX8_latestTaken_31 rfl (lv_at hl 0 rfl) ?_
        refine gX8_73 C hd dX8_latestTaken_32 ?_
        refine lv_aload_n hx hb dX8_latestTaken_35 rfl (lv_at hl 0 rfl) ?_
        refine lv_iload_n hx hb dX8_latestTaken_36 rfl (lv_at hl 1 rfl) ?_
        refine lv_iload_n hx hb dX8_latestTaken_37 rfl (lv_at hl 3 rfl) ?_
        obtain ⟨r5, er5, h⟩ := cal_e h
        refine rCallI C hd (c_X8_takenAt hE er5) kX8_289 0 rfl rfl rfl rfl hl.1 rfl (Nat.le_of_ble_eq_true rfl) ⟨(Nat.le_of_ble_eq_true rfl), (Nat.le_of_ble_eq_true rfl)⟩ ⟨Nat.le_refl _, Nat.le_refl _⟩ dX8_latestTaken_38 (fun H locs hd => ?_)
        refine lv_iconst (v := 2) hx hb dX8_latestTaken_41 ic_2 ?_
        refine lv_iadd hx hb dX8_latestTaken_42 ?_
        obtain ⟨n6, h⟩ := chk h
        refine ld_wM_19 C hd (inb_i n6) dX8_latestTaken_43 ?_
        obtain ⟨v7, ev7, h⟩ := bnd_e h
        refine rTop ev7 ?_
        refine lv_istore_n (lv' := [(2, .int v7), (0, .ref (ga g 40)), (1, .int x1), (3, .int x3)]) hx hb dX8_latestTaken_44 rfl hl (Nat.le_of_ble_eq_true rfl) rfl (fun ls hl => ?_)
        exact w_X8_latestTaken_45 C hr ih σ x1 v7 x3 h _ _ _ hd (lv_sub hl [1, 2, 0, 3] rfl)
noncomputable def f_X8_latestTaken (F : Nat) (σ : St) (x1 : Int32) : Option Int32 :=
  f_X8_latestTaken_4 F F σ x1 0 0
set_option maxRecDepth 100000 in
set_option maxHeartbeats 4000000 in
theorem c_X8_latestTaken {l : Launch} {g : Gp} {X : va_W} (hE : E0 g) {F : Nat} {r' : Int32} {σ : St} {x1 : Int32} (h : f_X8_latestTaken F σ x1 = some r') : Ci l g yX8_latestTaken cX8_latestTaken 4 (some .int) 2 [.ref (ga g 40), .int x1] (wM g σ ++ X) r' (wM g σ ++ X) := by
  refine rHead hE (by decide +kernel) (Nat.le_of_ble_eq_true rfl) (fun p e s m below meth c C hr _ hd ls hl => ?_)
  have hx := C.1
  have hb := C.2.1
  have hl : lv_has ls 4 [(0, .ref (ga g 40)), (1, .int x1)] := hl
  generalize ([.ref (ga g 40), .int x1] : List Value).toArray = args at C ⊢
  have C : Cx g p s m args meth c cX8_latestTaken 4 RX8 := C
  rw [f_X8_latestTaken] at h
  refine lv_iconst (v := 0) hx hb dX8_latestTaken_0 ic_0 ?_
  refine lv_istore_n (lv' := [(2, .int 0), (0, .ref (ga g 40)), (1, .int x1)]) hx hb dX8_latestTaken_1 rfl hl (Nat.le_of_ble_eq_true rfl) rfl (fun ls hl => ?_)
  refine lv_iconst (v := 0) hx hb dX8_latestTaken_2 ic_0 ?_
  refine lv_istore_n (lv' := [(3, .int 0), (2, .int 0), (0, .ref (ga g 40)), (1, .int x1)]) hx hb dX8_latestTaken_3 rfl hl (Nat.le_of_ble_eq_true rfl) rfl (fun ls hl => ?_)
  exact w_X8_latestTaken_4 C hr _ σ x1 0 0 h _ _ _ hd (lv_sub hl [2, 3, 1, 0] rfl)
noncomputable def f_X8_age (F : Nat) (σ : St) (x1 : Int32) : Option Int32 :=
  cal (f_X8_isCopy F σ x1) (fun r1 => if r1 = 0 then (some (-1000 : Int32)) else (cal (f_X8_isFit F σ x1) (fun r3 => if r3 = 0 then (some (-1000 : Int32)) else (cal (f_X8_placeOf F σ (σ.2.1 19 3)) (fun r5 => cal (f_X8_latestTaken F σ x1) (fun r6 => some (r5 - r6)))))))
set_option maxRecDepth 100000 in
set_option maxHeartbeats 4000000 in
theorem c_X8_age {l : Launch} {g : Gp} {X : va_W} (hE : E0 g) {F : Nat} {r' : Int32} {σ : St} {x1 : Int32} (h : f_X8_age F σ x1 = some r') : Ci l g yX8_age cX8_age 2 (some .int) 3 [.ref (ga g 40), .int x1] (wM g σ ++ X) r' (wM g σ ++ X) := by
  refine rHead hE (by decide +kernel) (Nat.le_of_ble_eq_true rfl) (fun p e s m below meth c C hr _ hd ls hl => ?_)
  have hx := C.1
  have hb := C.2.1
  have hl : lv_has ls 2 [(0, .ref (ga g 40)), (1, .int x1)] := hl
  generalize ([.ref (ga g 40), .int x1] : List Value).toArray = args at C ⊢
  have C : Cx g p s m args meth c cX8_age 2 RX8 := C
  rw [f_X8_age] at h
  refine lv_aload_n hx hb dX8_age_0 rfl (lv_at hl 0 rfl) ?_
  refine lv_iload_n hx hb dX8_age_1 rfl (lv_at hl 1 rfl) ?_
  obtain ⟨r1, er1, h⟩ := cal_e h
  refine rCallI C hd (c_X8_isCopy hE er1) kX8_301 0 rfl rfl rfl rfl hl.1 rfl (Nat.le_of_ble_eq_true rfl) ⟨(Nat.le_of_ble_eq_true rfl), (Nat.le_of_ble_eq_true rfl)⟩ ⟨Nat.le_refl _, Nat.le_refl _⟩ dX8_age_2 (fun H locs hd => ?_)
  refine lv_if_eq (tgt := 35) hx hb dX8_age_5 (by decide) (fun c2 => ?_) (fun c2 => ?_)
  · replace h := iteT c2 h
    refine lv_sipush (v := (-1000 : Int32)) hx hb dX8_age_35 si_m1000 ?_
    exact rIretP C hr hd h dX8_age_38
  · replace h := iteF c2 h
    refine lv_aload_n hx hb dX8_age_8 rfl (lv_at hl 0 rfl) ?_
    refine lv_iload_n hx hb dX8_age_9 rfl (lv_at hl 1 rfl) ?_
    obtain ⟨r3, er3, h⟩ := cal_e h
    refine rCallI C hd (c_X8_isFit hE er3) kX8_307 0 rfl rfl rfl rfl hl.1 rfl (Nat.le_of_ble_eq_true rfl) ⟨(Nat.le_of_ble_eq_true rfl), (Nat.le_of_ble_eq_true rfl)⟩ ⟨Nat.le_refl _, Nat.le_refl _⟩ dX8_age_10 (fun H locs hd => ?_)
    refine lv_if_eq (tgt := 35) hx hb dX8_age_13 (by decide) (fun c4 => ?_) (fun c4 => ?_)
    · replace h := iteT c4 h
      refine lv_sipush (v := (-1000 : Int32)) hx hb dX8_age_35 si_m1000 ?_
      exact rIretP C hr hd h dX8_age_38
    · replace h := iteF c4 h
      refine lv_aload_n hx hb dX8_age_16 rfl (lv_at hl 0 rfl) ?_
      refine lv_aload_n hx hb dX8_age_17 rfl (lv_at hl 0 rfl) ?_
      refine gX8_73 C hd dX8_age_18 ?_
      refine lv_iconst (v := 3) hx hb dX8_age_21 ic_3 ?_
      refine ldc_wM_19 C hd cl_3 (inb_i (by decide +kernel)) dX8_age_22 ?_
      obtain ⟨r5, er5, h⟩ := cal_e h
      refine rCallI C hd (c_X8_placeOf hE er5) kX8_217 0 rfl rfl rfl rfl hl.1 rfl (Nat.le_of_ble_eq_true rfl) ⟨(Nat.le_of_ble_eq_true rfl), (Nat.le_of_ble_eq_true rfl)⟩ ⟨Nat.le_refl _, Nat.le_refl _⟩ dX8_age_23 (fun H locs hd => ?_)
      refine lv_aload_n hx hb dX8_age_26 rfl (lv_at hl 0 rfl) ?_
      refine lv_iload_n hx hb dX8_age_27 rfl (lv_at hl 1 rfl) ?_
      obtain ⟨r6, er6, h⟩ := cal_e h
      refine rCallI C hd (c_X8_latestTaken hE er6) kX8_313 0 rfl rfl rfl rfl hl.1 rfl (Nat.le_of_ble_eq_true rfl) ⟨(Nat.le_of_ble_eq_true rfl), (Nat.le_of_ble_eq_true rfl)⟩ ⟨Nat.le_refl _, Nat.le_refl _⟩ dX8_age_28 (fun H locs hd => ?_)
      refine lv_isub hx hb dX8_age_31 ?_
      refine lv_goto (tgt := 38) hx hb dX8_age_32 (by decide) ?_
      exact rIretP C hr hd h dX8_age_38
noncomputable def f_X8_appends (F : Nat) (σ : St) (x0 : Int64) (x2 : Int32) : Option Int64 :=
  if x2 = 0 then (some x0) else (some (((27 : Int64) * x0) + (Int32.toInt64 ((x2 - 97) + 1))))
set_option maxRecDepth 100000 in
set_option maxHeartbeats 4000000 in
theorem c_X8_appends {l : Launch} {g : Gp} {X : va_W} (hE : E0 g) {F : Nat} {r' : Int64} {σ : St} {x0 : Int64} {x2 : Int32} (h : f_X8_appends F σ x0 x2 = some r') : Cl l g yX8_appends cX8_appends 3 (some .long) 0 [.long x0, .int x2] (wM g σ ++ X) r' (wM g σ ++ X) := by
  refine rHead hE (by decide +kernel) (Nat.le_of_ble_eq_true rfl) (fun p e s m below meth c C hr _ hd ls hl => ?_)
  have hx := C.1
  have hb := C.2.1
  have hl : lv_has ls 3 [(0, .long x0), (2, .int x2)] := hl
  generalize ([.long x0, .int x2] : List Value).toArray = args at C ⊢
  have C : Cx g p s m args meth c cX8_appends 3 RX8 := C
  rw [f_X8_appends] at h
  refine lv_iload_n hx hb dX8_appends_0 rfl (lv_at hl 1 rfl) ?_
  refine lv_if_ne (tgt := 8) hx hb dX8_appends_1 (by decide) (fun c1 => ?_) (fun c1 => ?_)
  · replace h := iteF c1 h
    refine rLdc2 C (v := 27) (mT 1324 (by decide +kernel)) dX8_appends_8 ?_
    refine lv_lload_n hx hb dX8_appends_11 rfl (lv_at hl 0 rfl) ?_
    refine lv_lmul hx hb dX8_appends_12 ?_
    refine lv_iload_n hx hb dX8_appends_13 rfl (lv_at hl 1 rfl) ?_
    refine lv_bipush (v := 97) hx hb dX8_appends_14 bi_97 ?_
    refine lv_isub hx hb dX8_appends_16 ?_
    refine lv_iconst (v := 1) hx hb dX8_appends_17 ic_1 ?_
    refine lv_iadd hx hb dX8_appends_18 ?_
    refine lv_i2l hx hb dX8_appends_19 rfl ?_
    refine lv_ladd hx hb dX8_appends_20 ?_
    exact rLretP C hr hd h dX8_appends_21
  · replace h := iteT c1 h
    refine lv_lload_n hx hb dX8_appends_4 rfl (lv_at hl 0 rfl) ?_
    refine lv_goto (tgt := 21) hx hb dX8_appends_5 (by decide) ?_
    exact rLretP C hr hd h dX8_appends_21
noncomputable def f_X8_back (F : Nat) (σ : St) (x1 : Int32) : Option (Int32 × St) :=
  if x1 < 0 then (some ((-1 : Int32), σ)) else (if x1 ≤ (σ.1 1) then (bnd (ss σ 1 ((σ.1 1) - x1)) (fun t3 => some ((t3.1 1), t3))) else (some ((-1 : Int32), σ)))
set_option maxRecDepth 100000 in
set_option maxHeartbeats 4000000 in
theorem c_X8_back {l : Launch} {g : Gp} {X : va_W} (hE : E0 g) {F : Nat} {r' : Int32} {σ' : St} {σ : St} {x1 : Int32} (h : f_X8_back F σ x1 = some (r', σ')) : Ci l g yX8_back cX8_back 2 (some .int) 0 [.ref (ga g 40), .int x1] (wM g σ ++ X) r' (wM g σ' ++ X) := by
  refine rHead hE (by decide +kernel) (Nat.le_of_ble_eq_true rfl) (fun p e s m below meth c C hr _ hd ls hl => ?_)
  have hx := C.1
  have hb := C.2.1
  have hl : lv_has ls 2 [(0, .ref (ga g 40)), (1, .int x1)] := hl
  generalize ([.ref (ga g 40), .int x1] : List Value).toArray = args at C ⊢
  have C : Cx g p s m args meth c cX8_back 2 RX8 := C
  rw [f_X8_back] at h
  refine lv_iload_n hx hb dX8_back_0 rfl (lv_at hl 1 rfl) ?_
  refine lv_if_lt (tgt := 12) hx hb dX8_back_1 (by decide) (fun c1 => ?_) (fun c1 => ?_)
  · replace h := iteT c1 h
    refine lv_iconst (v := (-1 : Int32)) hx hb dX8_back_12 ic_m1 ?_
    exact rIretS (w := wM g) C hr hd h dX8_back_13
  · replace h := iteF c1 h
    refine lv_iload_n hx hb dX8_back_4 rfl (lv_at hl 1 rfl) ?_
    refine lv_aload_n hx hb dX8_back_5 rfl (lv_at hl 0 rfl) ?_
    refine gX8_97 C hd dX8_back_6 ?_
    refine lv_icmp_le (tgt := 14) hx hb dX8_back_9 (by decide) (fun c2 => ?_) (fun c2 => ?_)
    · replace h := iteT c2 h
      refine lv_aload_n hx hb dX8_back_14 rfl (lv_at hl 0 rfl) ?_
      refine lv_dup hx hb dX8_back_15 rfl ?_
      refine gX8_97 C hd dX8_back_16 ?_
      refine lv_iload_n hx hb dX8_back_19 rfl (lv_at hl 1 rfl) ?_
      refine lv_isub hx hb dX8_back_20 ?_
      obtain ⟨t3, et3, h⟩ := bnd_e h
      refine pX8_97 C hd et3 dX8_back_21 (fun H locs hd => ?_)
      refine lv_aload_n hx hb dX8_back_24 rfl (lv_at hl 0 rfl) ?_
      refine gX8_97 C hd dX8_back_25 ?_
      exact rIretS (w := wM g) C hr hd h dX8_back_28
    · replace h := iteF c2 h
      refine lv_iconst (v := (-1 : Int32)) hx hb dX8_back_12 ic_m1 ?_
      exact rIretS (w := wM g) C hr hd h dX8_back_13
noncomputable def f_X8_newLine (F : Nat) (σ : St) (x1 : Int32) (x2 : Int32) (x3 : Int32) : Option St :=
  bnd (20 + (4 * (σ.2.1 19 2))) (fun v1 => if inb v1 7164 = true then bnd (sr σ 19 v1.toNatClampNeg x3) (fun t3 => if inb (v1 + 1) 7164 = true then bnd (sr t3 19 (v1 + 1).toNatClampNeg x1) (fun t5 => if inb (v1 + 2) 7164 = true then bnd (sr t5 19 (v1 + 2).toNatClampNeg x2) (fun t7 => bnd (sr t7 19 3 (t7.2.1 19 2)) (fun t8 => bnd (sr t8 19 2 ((t8.2.1 19 2) + 1)) (fun t9 => some t9))) else none) else none) else none)
set_option maxRecDepth 100000 in
set_option maxHeartbeats 4000000 in
theorem c_X8_newLine {l : Launch} {g : Gp} {X : va_W} (hE : E0 g) {F : Nat} {σ' : St} {σ : St} {x1 : Int32} {x2 : Int32} {x3 : Int32} (h : f_X8_newLine F σ x1 x2 x3 = some σ') : Cv l g yX8_newLine cX8_newLine 5 0 [.ref (ga g 40), .int x1, .int x2, .int x3] (wM g σ ++ X) (wM g σ' ++ X) := by
  refine rHead hE (by decide +kernel) (Nat.le_of_ble_eq_true rfl) (fun p e s m below meth c C hr _ hd ls hl => ?_)
  have hx := C.1
  have hb := C.2.1
  have hl : lv_has ls 5 [(0, .ref (ga g 40)), (1, .int x1), (2, .int x2), (3, .int x3)] := hl
  generalize ([.ref (ga g 40), .int x1, .int x2, .int x3] : List Value).toArray = args at C ⊢
  have C : Cx g p s m args meth c cX8_newLine 5 RX8 := C
  rw [f_X8_newLine] at h
  refine lv_bipush (v := 20) hx hb dX8_newLine_0 bi_20 ?_
  refine lv_iconst (v := 4) hx hb dX8_newLine_2 ic_4 ?_
  refine lv_aload_n hx hb dX8_newLine_3 rfl (lv_at hl 0 rfl) ?_
  refine gX8_73 C hd dX8_newLine_4 ?_
  refine lv_iconst (v := 2) hx hb dX8_newLine_7 ic_2 ?_
  refine ldc_wM_19 C hd cl_2 (inb_i (by decide +kernel)) dX8_newLine_8 ?_
  refine lv_imul hx hb dX8_newLine_9 ?_
  refine lv_iadd hx hb dX8_newLine_10 ?_
  obtain ⟨v1, ev1, h⟩ := bnd_e h
  refine rTop ev1 ?_
  refine lv_istore (lv' := [(4, .int v1), (0, .ref (ga g 40)), (1, .int x1), (2, .int x2), (3, .int x3)]) hx hb dX8_newLine_11 hl (Nat.le_of_ble_eq_true rfl) rfl (fun ls hl => ?_)
  refine lv_aload_n hx hb dX8_newLine_13 rfl (lv_at hl 1 rfl) ?_
  refine gX8_73 C hd dX8_newLine_14 ?_
  refine lv_iload hx hb dX8_newLine_17 (lv_at hl 0 rfl) ?_
  refine lv_iload_n hx hb dX8_newLine_19 rfl (lv_at hl 4 rfl) ?_
  obtain ⟨n2, h⟩ := chk h
  obtain ⟨t3, et3, h⟩ := bnd_e h
  refine st_wM_19 C hd (inb_i n2) et3 dX8_newLine_20 (fun H locs hd => ?_)
  refine lv_aload_n hx hb dX8_newLine_21 rfl (lv_at hl 1 rfl) ?_
  refine gX8_73 C hd dX8_newLine_22 ?_
  refine lv_iload hx hb dX8_newLine_25 (lv_at hl 0 rfl) ?_
  refine lv_iconst (v := 1) hx hb dX8_newLine_27 ic_1 ?_
  refine lv_iadd hx hb dX8_newLine_28 ?_
  refine lv_iload_n hx hb dX8_newLine_29 rfl (lv_at hl 2 rfl) ?_
  obtain ⟨n4, h⟩ := chk h
  obtain ⟨t5, et5, h⟩ := bnd_e h
  refine st_wM_19 C hd (inb_i n4) et5 dX8_newLine_30 (fun H locs hd => ?_)
  refine lv_aload_n hx hb dX8_newLine_31 rfl (lv_at hl 1 rfl) ?_
  refine gX8_73 C hd dX8_newLine_32 ?_
  refine lv_iload hx hb dX8_newLine_35 (lv_at hl 0 rfl) ?_
  refine lv_iconst (v := 2) hx hb dX8_newLine_37 ic_2 ?_
  refine lv_iadd hx hb dX8_newLine_38 ?_
  refine lv_iload_n hx hb dX8_newLine_39 rfl (lv_at hl 3 rfl) ?_
  obtain ⟨n6, h⟩ := chk h
  obtain ⟨t7, et7, h⟩ := bnd_e h
  refine st_wM_19 C hd (inb_i n6) et7 dX8_newLine_40 (fun H locs hd => ?_)
  refine lv_aload_n hx hb dX8_newLine_41 rfl (lv_at hl 1 rfl) ?_
  refine gX8_73 C hd dX8_newLine_42 ?_
  refine lv_iconst (v := 3) hx hb dX8_newLine_45 ic_3 ?_
  refine lv_aload_n hx hb dX8_newLine_46 rfl (lv_at hl 1 rfl) ?_
  refine gX8_73 C hd dX8_newLine_47 ?_
  refine lv_iconst (v := 2) hx hb dX8_newLine_50 ic_2 ?_
  refine ldc_wM_19 C hd cl_2 (inb_i (by decide +kernel)) dX8_newLine_51 ?_
  obtain ⟨t8, et8, h⟩ := bnd_e h
  refine stc_wM_19 C hd cl_3 (inb_i (by decide +kernel)) et8 dX8_newLine_52 (fun H locs hd => ?_)
  refine lv_aload_n hx hb dX8_newLine_53 rfl (lv_at hl 1 rfl) ?_
  refine gX8_73 C hd dX8_newLine_54 ?_
  refine lv_iconst (v := 2) hx hb dX8_newLine_57 ic_2 ?_
  refine lv_dup2_11 hx hb dX8_newLine_58 rfl rfl ?_
  refine ldc_wM_19 C hd cl_2 (inb_i (by decide +kernel)) dX8_newLine_59 ?_
  refine lv_iconst (v := 1) hx hb dX8_newLine_60 ic_1 ?_
  refine lv_iadd hx hb dX8_newLine_61 ?_
  obtain ⟨t9, et9, h⟩ := bnd_e h
  refine stc_wM_19 C hd cl_2 (inb_i (by decide +kernel)) et9 dX8_newLine_62 (fun H locs hd => ?_)
  exact rVretS (w := wM g) C hr hd h dX8_newLine_63
noncomputable def f_X8_begins_2 (F : Nat) : Nat → St → Int32 → Int32 → Int32 → Option St
  | 0, _, _, _, _ => none
  | n + 1, σ, x1, x2, x3 => if 1380 ≤ x3 then (bnd (sr σ 19 0 x1) (fun t2 => bnd (sr t2 19 1 x2) (fun t3 => cal (f_X8_newLine F t3 (-2 : Int32) (-2 : Int32) 0) (fun t4 => some t4)))) else (if inb x3 7164 = true then bnd (sr σ 19 x3.toNatClampNeg 0) (fun t6 => bnd (x3 + 1) (fun v7 => f_X8_begins_2 F n t6 x1 x2 v7)) else none)
set_option maxRecDepth 100000 in
set_option maxHeartbeats 4000000 in
theorem w_X8_begins_2 {F : Nat} {σ' : St}  (C : Cx g p s m args meth c cX8_begins 4 RX8) (hr : meth.sig.returnType = none) :
    (∀ (n : Nat) (σ : St) (x1 : Int32) (x2 : Int32) (x3 : Int32), f_X8_begins_2 F n σ x1 x2 x3 = some σ' → ∀ (H : Heap) (locs : List Loc) (ls : Array Slot), Dy g (wM g σ ++ X) s H locs → lv_has ls 4 [(0, .ref (ga g 40)), (1, .int x1), (2, .int x2), (3, .int x3)] → W p l e (rmD 1) s m args below meth c H locs 0 0 (QV g below args s (wM g σ' ++ X)) (F0 m 2 ls [])) := by
  have hx := C.1
  have hb := C.2.1
  have hE := C.2.2.2.2.2.2.2.2
  intro n
  induction n with
  | zero =>
    intro σ x1 x2 x3 h
    cases h
  | succ n ih =>
    intro σ x1 x2 x3 h H locs ls hd hl
    rw [f_X8_begins_2] at h
    refine lv_iload_n hx hb dX8_begins_2 rfl (lv_at hl 3 rfl) ?_
    refine lv_sipush (v := 1380) hx hb dX8_begins_3 si_1380 ?_
    refine lv_icmp_ge (tgt := 22) hx hb dX8_begins_6 (by decide) (fun c1 => ?_) (fun c1 => ?_)
    · replace h := iteT c1 h
      refine lv_aload_n hx hb dX8_begins_22 rfl (lv_at hl 0 rfl) ?_
      refine gX8_73 C hd dX8_begins_23 ?_
      refine lv_iconst (v := 0) hx hb dX8_begins_26 ic_0 ?_
      refine lv_iload_n hx hb dX8_begins_27 rfl (lv_at hl 1 rfl) ?_
      obtain ⟨t2, et2, h⟩ := bnd_e h
      refine stc_wM_19 C hd cl_0 (inb_i (by decide +kernel)) et2 dX8_begins_28 (fun H locs hd => ?_)
      refine lv_aload_n hx hb dX8_begins_29 rfl (lv_at hl 0 rfl) ?_
      refine gX8_73 C hd dX8_begins_30 ?_
      refine lv_iconst (v := 1) hx hb dX8_begins_33 ic_1 ?_
      refine lv_iload_n hx hb dX8_begins_34 rfl (lv_at hl 2 rfl) ?_
      obtain ⟨t3, et3, h⟩ := bnd_e h
      refine stc_wM_19 C hd cl_1 (inb_i (by decide +kernel)) et3 dX8_begins_35 (fun H locs hd => ?_)
      refine lv_aload_n hx hb dX8_begins_36 rfl (lv_at hl 0 rfl) ?_
      refine lv_bipush (v := (-2 : Int32)) hx hb dX8_begins_37 bi_m2 ?_
      refine lv_bipush (v := (-2 : Int32)) hx hb dX8_begins_39 bi_m2 ?_
      refine lv_iconst (v := 0) hx hb dX8_begins_41 ic_0 ?_
      obtain ⟨t4, et4, h⟩ := cal_e h
      refine rCallV C hd (c_X8_newLine hE et4) kX8_258 0 rfl rfl rfl rfl hl.1 rfl (Nat.le_of_ble_eq_true rfl) ⟨(Nat.le_of_ble_eq_true rfl), (Nat.le_of_ble_eq_true rfl)⟩ ⟨Nat.le_refl _, Nat.le_refl _⟩ dX8_begins_42 (fun H locs hd => ?_)
      exact rVretS (w := wM g) C hr hd h dX8_begins_45
    · replace h := iteF c1 h
      refine lv_aload_n hx hb dX8_begins_9 rfl (lv_at hl 0 rfl) ?_
      refine gX8_73 C hd dX8_begins_10 ?_
      refine lv_iload_n hx hb dX8_begins_13 rfl (lv_at hl 3 rfl) ?_
      refine lv_iconst (v := 0) hx hb dX8_begins_14 ic_0 ?_
      obtain ⟨n5, h⟩ := chk h
      obtain ⟨t6, et6, h⟩ := bnd_e h
      refine st_wM_19 C hd (inb_i n5) et6 dX8_begins_15 (fun H locs hd => ?_)
      obtain ⟨v7, ev7, h⟩ := bnd_e h
      refine lv_iinc (v := v7) (lv' := [(3, .int v7), (0, .ref (ga g 40)), (1, .int x1), (2, .int x2)]) hx hb dX8_begins_16 hl (k := 3) rfl ((ii_1 _).trans ev7.symm) (Nat.le_of_ble_eq_true rfl) rfl (fun ls hl => ?_)
      refine lv_goto (tgt := 2) hx hb dX8_begins_19 (by decide) ?_
      exact ih t6 x1 x2 v7 h _ _ _ hd (lv_sub hl [1, 2, 3, 0] rfl)
noncomputable def f_X8_begins (F : Nat) (σ : St) (x1 : Int32) (x2 : Int32) : Option St :=
  f_X8_begins_2 F F σ x1 x2 0
set_option maxRecDepth 100000 in
set_option maxHeartbeats 4000000 in
theorem c_X8_begins {l : Launch} {g : Gp} {X : va_W} (hE : E0 g) {F : Nat} {σ' : St} {σ : St} {x1 : Int32} {x2 : Int32} (h : f_X8_begins F σ x1 x2 = some σ') : Cv l g yX8_begins cX8_begins 4 1 [.ref (ga g 40), .int x1, .int x2] (wM g σ ++ X) (wM g σ' ++ X) := by
  refine rHead hE (by decide +kernel) (Nat.le_of_ble_eq_true rfl) (fun p e s m below meth c C hr _ hd ls hl => ?_)
  have hx := C.1
  have hb := C.2.1
  have hl : lv_has ls 4 [(0, .ref (ga g 40)), (1, .int x1), (2, .int x2)] := hl
  generalize ([.ref (ga g 40), .int x1, .int x2] : List Value).toArray = args at C ⊢
  have C : Cx g p s m args meth c cX8_begins 4 RX8 := C
  rw [f_X8_begins] at h
  refine lv_iconst (v := 0) hx hb dX8_begins_0 ic_0 ?_
  refine lv_istore_n (lv' := [(3, .int 0), (0, .ref (ga g 40)), (1, .int x1), (2, .int x2)]) hx hb dX8_begins_1 rfl hl (Nat.le_of_ble_eq_true rfl) rfl (fun ls hl => ?_)
  exact w_X8_begins_2 C hr _ σ x1 x2 0 h _ _ _ hd (lv_sub hl [1, 2, 3, 0] rfl)
noncomputable def f_X8_isLine (F : Nat) (σ : St) (x1 : Int32) : Option Int32 :=
  cal (f_X8_in F σ x1 0 ((σ.2.1 19 2) - 1)) (fun r1 => if r1 = 0 ∨ r1 = 1 then some r1 else none)
set_option maxRecDepth 100000 in
set_option maxHeartbeats 4000000 in
theorem c_X8_isLine {l : Launch} {g : Gp} {X : va_W} (hE : E0 g) {F : Nat} {r' : Int32} {σ : St} {x1 : Int32} (h : f_X8_isLine F σ x1 = some r') : Ci l g yX8_isLine cX8_isLine 2 (some .boolean) 1 [.ref (ga g 40), .int x1] (wM g σ ++ X) r' (wM g σ ++ X) := by
  refine rHead hE (by decide +kernel) (Nat.le_of_ble_eq_true rfl) (fun p e s m below meth c C hr _ hd ls hl => ?_)
  have hx := C.1
  have hb := C.2.1
  have hl : lv_has ls 2 [(0, .ref (ga g 40)), (1, .int x1)] := hl
  generalize ([.ref (ga g 40), .int x1] : List Value).toArray = args at C ⊢
  have C : Cx g p s m args meth c cX8_isLine 2 RX8 := C
  rw [f_X8_isLine] at h
  refine lv_iload_n hx hb dX8_isLine_0 rfl (lv_at hl 1 rfl) ?_
  refine lv_iconst (v := 0) hx hb dX8_isLine_1 ic_0 ?_
  refine lv_aload_n hx hb dX8_isLine_2 rfl (lv_at hl 0 rfl) ?_
  refine gX8_73 C hd dX8_isLine_3 ?_
  refine lv_iconst (v := 2) hx hb dX8_isLine_6 ic_2 ?_
  refine ldc_wM_19 C hd cl_2 (inb_i (by decide +kernel)) dX8_isLine_7 ?_
  refine lv_iconst (v := 1) hx hb dX8_isLine_8 ic_1 ?_
  refine lv_isub hx hb dX8_isLine_9 ?_
  obtain ⟨r1, er1, h⟩ := cal_e h
  refine rCallSI C hd (c_X8_in hE er1) kX8_194 rfl hl.1 rfl (Nat.le_of_ble_eq_true rfl) ⟨(Nat.le_of_ble_eq_true rfl), (Nat.le_of_ble_eq_true rfl)⟩ ⟨Nat.le_refl _, Nat.le_refl _⟩ dX8_isLine_10 (fun H locs hd => ?_)
  obtain ⟨n2, h⟩ := chk h
  exact rZretP C hr hd h n2 dX8_isLine_13
noncomputable def f_X8_isAt (F : Nat) (σ : St) (x1 : Int32) (x2 : Int32) : Option Int32 :=
  cal (f_X8_isLine F σ x1) (fun r1 => if r1 = 0 then (some 0) else (cal (f_X8_placeOf F σ x1) (fun r3 => cal (f_X8_in F σ x2 0 r3) (fun r4 => if r4 = 0 then (some 0) else (some 1)))))
set_option maxRecDepth 100000 in
set_option maxHeartbeats 4000000 in
theorem c_X8_isAt {l : Launch} {g : Gp} {X : va_W} (hE : E0 g) {F : Nat} {r' : Int32} {σ : St} {x1 : Int32} {x2 : Int32} (h : f_X8_isAt F σ x1 x2 = some r') : Ci l g yX8_isAt cX8_isAt 3 (some .boolean) 2 [.ref (ga g 40), .int x1, .int x2] (wM g σ ++ X) r' (wM g σ ++ X) := by
  refine rHead hE (by decide +kernel) (Nat.le_of_ble_eq_true rfl) (fun p e s m below meth c C hr _ hd ls hl => ?_)
  have hx := C.1
  have hb := C.2.1
  have hl : lv_has ls 3 [(0, .ref (ga g 40)), (1, .int x1), (2, .int x2)] := hl
  generalize ([.ref (ga g 40), .int x1, .int x2] : List Value).toArray = args at C ⊢
  have C : Cx g p s m args meth c cX8_isAt 3 RX8 := C
  rw [f_X8_isAt] at h
  refine lv_aload_n hx hb dX8_isAt_0 rfl (lv_at hl 0 rfl) ?_
  refine lv_iload_n hx hb dX8_isAt_1 rfl (lv_at hl 1 rfl) ?_
  obtain ⟨r1, er1, h⟩ := cal_e h
  refine rCallI C hd (c_X8_isLine hE er1) kX8_262 0 rfl rfl rfl rfl hl.1 rfl (Nat.le_of_ble_eq_true rfl) ⟨(Nat.le_of_ble_eq_true rfl), (Nat.le_of_ble_eq_true rfl)⟩ ⟨Nat.le_refl _, Nat.le_refl _⟩ dX8_isAt_2 (fun H locs hd => ?_)
  refine lv_if_eq (tgt := 25) hx hb dX8_isAt_5 (by decide) (fun c2 => ?_) (fun c2 => ?_)
  · replace h := iteT c2 h
    refine lv_iconst (v := 0) hx hb dX8_isAt_25 ic_0 ?_
    exact rZretP C hr hd h (by decide) dX8_isAt_26
  · replace h := iteF c2 h
    refine lv_iload_n hx hb dX8_isAt_8 rfl (lv_at hl 2 rfl) ?_
    refine lv_iconst (v := 0) hx hb dX8_isAt_9 ic_0 ?_
    refine lv_aload_n hx hb dX8_isAt_10 rfl (lv_at hl 0 rfl) ?_
    refine lv_iload_n hx hb dX8_isAt_11 rfl (lv_at hl 1 rfl) ?_
    obtain ⟨r3, er3, h⟩ := cal_e h
    refine rCallI C hd (c_X8_placeOf hE er3) kX8_217 0 rfl rfl rfl rfl hl.1 rfl (Nat.le_of_ble_eq_true rfl) ⟨(Nat.le_of_ble_eq_true rfl), (Nat.le_of_ble_eq_true rfl)⟩ ⟨Nat.le_refl _, Nat.le_refl _⟩ dX8_isAt_12 (fun H locs hd => ?_)
    obtain ⟨r4, er4, h⟩ := cal_e h
    refine rCallSI C hd (c_X8_in hE er4) kX8_194 rfl hl.1 rfl (Nat.le_of_ble_eq_true rfl) ⟨(Nat.le_of_ble_eq_true rfl), (Nat.le_of_ble_eq_true rfl)⟩ ⟨Nat.le_refl _, Nat.le_refl _⟩ dX8_isAt_15 (fun H locs hd => ?_)
    refine lv_if_eq (tgt := 25) hx hb dX8_isAt_18 (by decide) (fun c5 => ?_) (fun c5 => ?_)
    · replace h := iteT c5 h
      refine lv_iconst (v := 0) hx hb dX8_isAt_25 ic_0 ?_
      exact rZretP C hr hd h (by decide) dX8_isAt_26
    · replace h := iteF c5 h
      refine lv_iconst (v := 1) hx hb dX8_isAt_21 ic_1 ?_
      refine lv_goto (tgt := 26) hx hb dX8_isAt_22 (by decide) ?_
      exact rZretP C hr hd h (by decide) dX8_isAt_26
noncomputable def f_X8_forkOf (F : Nat) (σ : St) (x1 : Int32) : Option Int32 :=
  if x1 = 0 then (some 0) else (if inb ((20 + (4 * x1)) + 2) 7164 = true then some (σ.2.1 19 ((20 + (4 * x1)) + 2).toNatClampNeg) else none)
set_option maxRecDepth 100000 in
set_option maxHeartbeats 4000000 in
theorem c_X8_forkOf {l : Launch} {g : Gp} {X : va_W} (hE : E0 g) {F : Nat} {r' : Int32} {σ : St} {x1 : Int32} (h : f_X8_forkOf F σ x1 = some r') : Ci l g yX8_forkOf cX8_forkOf 2 (some .int) 0 [.ref (ga g 40), .int x1] (wM g σ ++ X) r' (wM g σ ++ X) := by
  refine rHead hE (by decide +kernel) (Nat.le_of_ble_eq_true rfl) (fun p e s m below meth c C hr _ hd ls hl => ?_)
  have hx := C.1
  have hb := C.2.1
  have hl : lv_has ls 2 [(0, .ref (ga g 40)), (1, .int x1)] := hl
  generalize ([.ref (ga g 40), .int x1] : List Value).toArray = args at C ⊢
  have C : Cx g p s m args meth c cX8_forkOf 2 RX8 := C
  rw [f_X8_forkOf] at h
  refine lv_iload_n hx hb dX8_forkOf_0 rfl (lv_at hl 1 rfl) ?_
  refine lv_if_ne (tgt := 8) hx hb dX8_forkOf_1 (by decide) (fun c1 => ?_) (fun c1 => ?_)
  · replace h := iteF c1 h
    refine lv_aload_n hx hb dX8_forkOf_8 rfl (lv_at hl 0 rfl) ?_
    refine gX8_73 C hd dX8_forkOf_9 ?_
    refine lv_bipush (v := 20) hx hb dX8_forkOf_12 bi_20 ?_
    refine lv_iconst (v := 4) hx hb dX8_forkOf_14 ic_4 ?_
    refine lv_iload_n hx hb dX8_forkOf_15 rfl (lv_at hl 1 rfl) ?_
    refine lv_imul hx hb dX8_forkOf_16 ?_
    refine lv_iadd hx hb dX8_forkOf_17 ?_
    refine lv_iconst (v := 2) hx hb dX8_forkOf_18 ic_2 ?_
    refine lv_iadd hx hb dX8_forkOf_19 ?_
    obtain ⟨n2, h⟩ := chk h
    refine ld_wM_19 C hd (inb_i n2) dX8_forkOf_20 ?_
    exact rIretP C hr hd h dX8_forkOf_21
  · replace h := iteT c1 h
    refine lv_iconst (v := 0) hx hb dX8_forkOf_4 ic_0 ?_
    refine lv_goto (tgt := 21) hx hb dX8_forkOf_5 (by decide) ?_
    exact rIretP C hr hd h dX8_forkOf_21
noncomputable def f_X8_parentOf (F : Nat) (σ : St) (x1 : Int32) : Option Int32 :=
  if inb ((20 + (4 * x1)) + 1) 7164 = true then some (σ.2.1 19 ((20 + (4 * x1)) + 1).toNatClampNeg) else none
set_option maxRecDepth 100000 in
set_option maxHeartbeats 4000000 in
theorem c_X8_parentOf {l : Launch} {g : Gp} {X : va_W} (hE : E0 g) {F : Nat} {r' : Int32} {σ : St} {x1 : Int32} (h : f_X8_parentOf F σ x1 = some r') : Ci l g yX8_parentOf cX8_parentOf 2 (some .int) 0 [.ref (ga g 40), .int x1] (wM g σ ++ X) r' (wM g σ ++ X) := by
  refine rHead hE (by decide +kernel) (Nat.le_of_ble_eq_true rfl) (fun p e s m below meth c C hr _ hd ls hl => ?_)
  have hx := C.1
  have hb := C.2.1
  have hl : lv_has ls 2 [(0, .ref (ga g 40)), (1, .int x1)] := hl
  generalize ([.ref (ga g 40), .int x1] : List Value).toArray = args at C ⊢
  have C : Cx g p s m args meth c cX8_parentOf 2 RX8 := C
  rw [f_X8_parentOf] at h
  refine lv_aload_n hx hb dX8_parentOf_0 rfl (lv_at hl 0 rfl) ?_
  refine gX8_73 C hd dX8_parentOf_1 ?_
  refine lv_bipush (v := 20) hx hb dX8_parentOf_4 bi_20 ?_
  refine lv_iconst (v := 4) hx hb dX8_parentOf_6 ic_4 ?_
  refine lv_iload_n hx hb dX8_parentOf_7 rfl (lv_at hl 1 rfl) ?_
  refine lv_imul hx hb dX8_parentOf_8 ?_
  refine lv_iadd hx hb dX8_parentOf_9 ?_
  refine lv_iconst (v := 1) hx hb dX8_parentOf_10 ic_1 ?_
  refine lv_iadd hx hb dX8_parentOf_11 ?_
  obtain ⟨n1, h⟩ := chk h
  refine ld_wM_19 C hd (inb_i n1) dX8_parentOf_12 ?_
  exact rIretP C hr hd h dX8_parentOf_13
noncomputable def f_X8_isBranch_41 (F : Nat) (k_3 : St → Int32 → Int32 → Int32 → Option Int32) (σ : St) (x2 : Int32) (x3 : Int32) (y0 : Int32) : Option Int32 :=
  k_3 σ x2 x3 y0
set_option maxRecDepth 100000 in
set_option maxHeartbeats 4000000 in
theorem w_X8_isBranch_41 {F : Nat} {r' : Int32}  (C : Cx g p s m args meth c cX8_isBranch 5 RX8) (hr : meth.sig.returnType = some .boolean)
    {k_3 : St → Int32 → Int32 → Int32 → Option Int32} (hk_3 : (∀ (σ : St) (x2 : Int32) (x3 : Int32) (x4 : Int32), k_3 σ x2 x3 x4 = some r' → ∀ (H : Heap) (locs : List Loc) (ls : Array Slot), Dy g (wM g σ ++ X) s H locs → lv_has ls 5 [(0, .ref (ga g 40)), (2, .int x2), (3, .int x3), (4, .int x4)] → W p l e (rmD 1) s m args below meth c H locs 0 0 (QI g below args s (wM g σ ++ X) r') (F0 m 3 ls []))) :
    (∀ (σ : St) (x2 : Int32) (x3 : Int32) (y0 : Int32), f_X8_isBranch_41 F k_3 σ x2 x3 y0 = some r' → ∀ (H : Heap) (locs : List Loc) (ls : Array Slot), Dy g (wM g σ ++ X) s H locs → lv_has ls 5 [(0, .ref (ga g 40)), (2, .int x2), (3, .int x3)] → W p l e (rmD 1) s m args below meth c H locs 0 0 (QI g below args s (wM g σ ++ X) r') (F0 m 41 ls [.int y0])) := by
  have hx := C.1
  have hb := C.2.1
  have hE := C.2.2.2.2.2.2.2.2
  intro σ x2 x3 y0 h H locs ls hd hl
  rw [f_X8_isBranch_41] at h
  refine lv_istore (lv' := [(4, .int y0), (0, .ref (ga g 40)), (2, .int x2), (3, .int x3)]) hx hb dX8_isBranch_41 hl (Nat.le_of_ble_eq_true rfl) rfl (fun ls hl => ?_)
  refine lv_goto (tgt := 3) hx hb dX8_isBranch_43 (by decide) ?_
  exact hk_3 σ x2 x3 y0 h _ _ _ hd (lv_sub hl [1, 2, 3, 0] rfl)
noncomputable def f_X8_isBranch_3 (F : Nat) : Nat → St → Int32 → Int32 → Int32 → Option Int32
  | 0, _, _, _, _ => none
  | n + 1, σ, x2, x3, x4 => if x4 < 0 then (if 0 ≤ x4 then (some 0) else (some 1)) else (if x4 = x2 then (if 0 ≤ x4 then (some 0) else (some 1)) else (cal (f_X8_forkOf F σ x4) (fun r5 => if x3 ≤ r5 then (if x4 = 0 then (f_X8_isBranch_41 F (f_X8_isBranch_3 F n) σ x2 x3 (-1 : Int32)) else (cal (f_X8_parentOf F σ x4) (fun r8 => f_X8_isBranch_41 F (f_X8_isBranch_3 F n) σ x2 x3 r8))) else (some 1))))
set_option maxRecDepth 100000 in
set_option maxHeartbeats 4000000 in
theorem w_X8_isBranch_3 {F : Nat} {r' : Int32}  (C : Cx g p s m args meth c cX8_isBranch 5 RX8) (hr : meth.sig.returnType = some .boolean) :
    (∀ (n : Nat) (σ : St) (x2 : Int32) (x3 : Int32) (x4 : Int32), f_X8_isBranch_3 F n σ x2 x3 x4 = some r' → ∀ (H : Heap) (locs : List Loc) (ls : Array Slot), Dy g (wM g σ ++ X) s H locs → lv_has ls 5 [(0, .ref (ga g 40)), (2, .int x2), (3, .int x3), (4, .int x4)] → W p l e (rmD 1) s m args below meth c H locs 0 0 (QI g below args s (wM g σ ++ X) r') (F0 m 3 ls [])) := by
  have hx := C.1
  have hb := C.2.1
  have hE := C.2.2.2.2.2.2.2.2
  intro n
  induction n with
  | zero =>
    intro σ x2 x3 x4 h
    cases h
  | succ n ih =>
    intro σ x2 x3 x4 h H locs ls hd hl
    rw [f_X8_isBranch_3] at h
    refine lv_iload hx hb dX8_isBranch_3 (lv_at hl 3 rfl) ?_
    refine lv_if_lt (tgt := 46) hx hb dX8_isBranch_5 (by decide) (fun c1 => ?_) (fun c1 => ?_)
    · replace h := iteT c1 h
      refine lv_iload hx hb dX8_isBranch_46 (lv_at hl 3 rfl) ?_
      refine lv_if_ge (tgt := 55) hx hb dX8_isBranch_48 (by decide) (fun c2 => ?_) (fun c2 => ?_)
      · replace h := iteT c2 h
        refine lv_iconst (v := 0) hx hb dX8_isBranch_55 ic_0 ?_
        exact rZretP C hr hd h (by decide) dX8_isBranch_56
      · replace h := iteF c2 h
        refine lv_iconst (v := 1) hx hb dX8_isBranch_51 ic_1 ?_
        refine lv_goto (tgt := 56) hx hb dX8_isBranch_52 (by decide) ?_
        exact rZretP C hr hd h (by decide) dX8_isBranch_56
    · replace h := iteF c1 h
      refine lv_iload hx hb dX8_isBranch_8 (lv_at hl 3 rfl) ?_
      refine lv_iload_n hx hb dX8_isBranch_10 rfl (lv_at hl 1 rfl) ?_
      refine lv_icmp_eq (tgt := 46) hx hb dX8_isBranch_11 (by decide) (fun c3 => ?_) (fun c3 => ?_)
      · replace h := iteT c3 h
        refine lv_iload hx hb dX8_isBranch_46 (lv_at hl 3 rfl) ?_
        refine lv_if_ge (tgt := 55) hx hb dX8_isBranch_48 (by decide) (fun c4 => ?_) (fun c4 => ?_)
        · replace h := iteT c4 h
          refine lv_iconst (v := 0) hx hb dX8_isBranch_55 ic_0 ?_
          exact rZretP C hr hd h (by decide) dX8_isBranch_56
        · replace h := iteF c4 h
          refine lv_iconst (v := 1) hx hb dX8_isBranch_51 ic_1 ?_
          refine lv_goto (tgt := 56) hx hb dX8_isBranch_52 (by decide) ?_
          exact rZretP C hr hd h (by decide) dX8_isBranch_56
      · replace h := iteF c3 h
        refine lv_iload_n hx hb dX8_isBranch_14 rfl (lv_at hl 2 rfl) ?_
        refine lv_aload_n hx hb dX8_isBranch_15 rfl (lv_at hl 0 rfl) ?_
        refine lv_iload hx hb dX8_isBranch_16 (lv_at hl 3 rfl) ?_
        obtain ⟨r5, er5, h⟩ := cal_e h
        refine rCallI C hd (c_X8_forkOf hE er5) kX8_265 0 rfl rfl rfl rfl hl.1 rfl (Nat.le_of_ble_eq_true rfl) ⟨(Nat.le_of_ble_eq_true rfl), (Nat.le_of_ble_eq_true rfl)⟩ ⟨Nat.le_refl _, Nat.le_refl _⟩ dX8_isBranch_18 (fun H locs hd => ?_)
        refine lv_icmp_le (tgt := 26) hx hb dX8_isBranch_21 (by decide) (fun c6 => ?_) (fun c6 => ?_)
        · replace h := iteT c6 h
          refine lv_iload hx hb dX8_isBranch_26 (lv_at hl 3 rfl) ?_
          refine lv_if_ne (tgt := 35) hx hb dX8_isBranch_28 (by decide) (fun c7 => ?_) (fun c7 => ?_)
          · replace h := iteF c7 h
            refine lv_aload_n hx hb dX8_isBranch_35 rfl (lv_at hl 0 rfl) ?_
            refine lv_iload hx hb dX8_isBranch_36 (lv_at hl 3 rfl) ?_
            obtain ⟨r8, er8, h⟩ := cal_e h
            refine rCallI C hd (c_X8_parentOf hE er8) kX8_268 0 rfl rfl rfl rfl hl.1 rfl (Nat.le_of_ble_eq_true rfl) ⟨(Nat.le_of_ble_eq_true rfl), (Nat.le_of_ble_eq_true rfl)⟩ ⟨Nat.le_refl _, Nat.le_refl _⟩ dX8_isBranch_38 (fun H locs hd => ?_)
            exact w_X8_isBranch_41 C hr ih σ x2 x3 r8 h _ _ _ hd (lv_sub hl [0, 1, 2] rfl)
          · replace h := iteT c7 h
            refine lv_iconst (v := (-1 : Int32)) hx hb dX8_isBranch_31 ic_m1 ?_
            refine lv_goto (tgt := 41) hx hb dX8_isBranch_32 (by decide) ?_
            exact w_X8_isBranch_41 C hr ih σ x2 x3 (-1 : Int32) h _ _ _ hd (lv_sub hl [0, 1, 2] rfl)
        · replace h := iteF c6 h
          refine lv_iconst (v := 1) hx hb dX8_isBranch_24 ic_1 ?_
          exact rZretP C hr hd h (by decide) dX8_isBranch_25
noncomputable def f_X8_isBranch (F : Nat) (σ : St) (x1 : Int32) (x2 : Int32) (x3 : Int32) : Option Int32 :=
  f_X8_isBranch_3 F F σ x2 x3 x1
set_option maxRecDepth 100000 in
set_option maxHeartbeats 4000000 in
theorem c_X8_isBranch {l : Launch} {g : Gp} {X : va_W} (hE : E0 g) {F : Nat} {r' : Int32} {σ : St} {x1 : Int32} {x2 : Int32} {x3 : Int32} (h : f_X8_isBranch F σ x1 x2 x3 = some r') : Ci l g yX8_isBranch cX8_isBranch 5 (some .boolean) 1 [.ref (ga g 40), .int x1, .int x2, .int x3] (wM g σ ++ X) r' (wM g σ ++ X) := by
  refine rHead hE (by decide +kernel) (Nat.le_of_ble_eq_true rfl) (fun p e s m below meth c C hr _ hd ls hl => ?_)
  have hx := C.1
  have hb := C.2.1
  have hl : lv_has ls 5 [(0, .ref (ga g 40)), (1, .int x1), (2, .int x2), (3, .int x3)] := hl
  generalize ([.ref (ga g 40), .int x1, .int x2, .int x3] : List Value).toArray = args at C ⊢
  have C : Cx g p s m args meth c cX8_isBranch 5 RX8 := C
  rw [f_X8_isBranch] at h
  refine lv_iload_n hx hb dX8_isBranch_0 rfl (lv_at hl 1 rfl) ?_
  refine lv_istore (lv' := [(4, .int x1), (0, .ref (ga g 40)), (1, .int x1), (2, .int x2), (3, .int x3)]) hx hb dX8_isBranch_1 hl (Nat.le_of_ble_eq_true rfl) rfl (fun ls hl => ?_)
  exact w_X8_isBranch_3 C hr _ σ x2 x3 x1 h _ _ _ hd (lv_sub hl [1, 3, 4, 0] rfl)
noncomputable def f_X8_isAnyBranch_2 (F : Nat) : Nat → St → Int32 → Int32 → Int32 → Option Int32
  | 0, _, _, _, _ => none
  | n + 1, σ, x1, x2, x3 => if (σ.2.1 19 0) ≤ x3 then (some 0) else (cal (f_X8_takenAt F σ x1 x3) (fun r2 => if inb (r2 + 1) 7164 = true then if inb (r2 + 2) 7164 = true then cal (f_X8_isBranch F σ x2 (σ.2.1 19 (r2 + 1).toNatClampNeg) (σ.2.1 19 (r2 + 2).toNatClampNeg)) (fun r5 => if r5 = 0 then (bnd (x3 + 1) (fun v7 => f_X8_isAnyBranch_2 F n σ x1 x2 v7)) else (some 1)) else none else none))
set_option maxRecDepth 100000 in
set_option maxHeartbeats 4000000 in
theorem w_X8_isAnyBranch_2 {F : Nat} {r' : Int32}  (C : Cx g p s m args meth c cX8_isAnyBranch 5 RX8) (hr : meth.sig.returnType = some .boolean) :
    (∀ (n : Nat) (σ : St) (x1 : Int32) (x2 : Int32) (x3 : Int32), f_X8_isAnyBranch_2 F n σ x1 x2 x3 = some r' → ∀ (H : Heap) (locs : List Loc) (ls : Array Slot), Dy g (wM g σ ++ X) s H locs → lv_has ls 5 [(0, .ref (ga g 40)), (1, .int x1), (2, .int x2), (3, .int x3)] → W p l e (rmD 2) s m args below meth c H locs 0 0 (QI g below args s (wM g σ ++ X) r') (F0 m 2 ls [])) := by
  have hx := C.1
  have hb := C.2.1
  have hE := C.2.2.2.2.2.2.2.2
  intro n
  induction n with
  | zero =>
    intro σ x1 x2 x3 h
    cases h
  | succ n ih =>
    intro σ x1 x2 x3 h H locs ls hd hl
    rw [f_X8_isAnyBranch_2] at h
    refine lv_iload_n hx hb dX8_isAnyBranch_2 rfl (lv_at hl 3 rfl) ?_
    refine lv_aload_n hx hb dX8_isAnyBranch_3 rfl (lv_at hl 0 rfl) ?_
    refine gX8_73 C hd dX8_isAnyBranch_4 ?_
    refine lv_iconst (v := 0) hx hb dX8_isAnyBranch_7 ic_0 ?_
    refine ldc_wM_19 C hd cl_0 (inb_i (by decide +kernel)) dX8_isAnyBranch_8 ?_
    refine lv_icmp_ge (tgt := 54) hx hb dX8_isAnyBranch_9 (by decide) (fun c1 => ?_) (fun c1 => ?_)
    · replace h := iteT c1 h
      refine lv_iconst (v := 0) hx hb dX8_isAnyBranch_54 ic_0 ?_
      exact rZretP C hr hd h (by decide) dX8_isAnyBranch_55
    · replace h := iteF c1 h
      refine lv_aload_n hx hb dX8_isAnyBranch_12 rfl (lv_at hl 0 rfl) ?_
      refine lv_iload_n hx hb dX8_isAnyBranch_13 rfl (lv_at hl 1 rfl) ?_
      refine lv_iload_n hx hb dX8_isAnyBranch_14 rfl (lv_at hl 3 rfl) ?_
      obtain ⟨r2, er2, h⟩ := cal_e h
      refine rCallI C hd (c_X8_takenAt hE er2) kX8_289 0 rfl rfl rfl rfl hl.1 rfl (Nat.le_of_ble_eq_true rfl) ⟨(Nat.le_of_ble_eq_true rfl), (Nat.le_of_ble_eq_true rfl)⟩ ⟨Nat.le_refl _, Nat.le_refl _⟩ dX8_isAnyBranch_15 (fun H locs hd => ?_)
      refine lv_istore (lv' := [(4, .int r2), (0, .ref (ga g 40)), (1, .int x1), (2, .int x2), (3, .int x3)]) hx hb dX8_isAnyBranch_18 hl (Nat.le_of_ble_eq_true rfl) rfl (fun ls hl => ?_)
      refine lv_aload_n hx hb dX8_isAnyBranch_20 rfl (lv_at hl 1 rfl) ?_
      refine lv_iload_n hx hb dX8_isAnyBranch_21 rfl (lv_at hl 3 rfl) ?_
      refine lv_aload_n hx hb dX8_isAnyBranch_22 rfl (lv_at hl 1 rfl) ?_
      refine gX8_73 C hd dX8_isAnyBranch_23 ?_
      refine lv_iload hx hb dX8_isAnyBranch_26 (lv_at hl 0 rfl) ?_
      refine lv_iconst (v := 1) hx hb dX8_isAnyBranch_28 ic_1 ?_
      refine lv_iadd hx hb dX8_isAnyBranch_29 ?_
      obtain ⟨n3, h⟩ := chk h
      refine ld_wM_19 C hd (inb_i n3) dX8_isAnyBranch_30 ?_
      refine lv_aload_n hx hb dX8_isAnyBranch_31 rfl (lv_at hl 1 rfl) ?_
      refine gX8_73 C hd dX8_isAnyBranch_32 ?_
      refine lv_iload hx hb dX8_isAnyBranch_35 (lv_at hl 0 rfl) ?_
      refine lv_iconst (v := 2) hx hb dX8_isAnyBranch_37 ic_2 ?_
      refine lv_iadd hx hb dX8_isAnyBranch_38 ?_
      obtain ⟨n4, h⟩ := chk h
      refine ld_wM_19 C hd (inb_i n4) dX8_isAnyBranch_39 ?_
      obtain ⟨r5, er5, h⟩ := cal_e h
      refine rCallI C hd (c_X8_isBranch hE er5) kX8_298 0 rfl rfl rfl rfl hl.1 rfl (Nat.le_of_ble_eq_true rfl) ⟨(Nat.le_of_ble_eq_true rfl), (Nat.le_of_ble_eq_true rfl)⟩ ⟨Nat.le_refl _, Nat.le_refl _⟩ dX8_isAnyBranch_40 (fun H locs hd => ?_)
      refine lv_if_eq (tgt := 48) hx hb dX8_isAnyBranch_43 (by decide) (fun c6 => ?_) (fun c6 => ?_)
      · replace h := iteT c6 h
        obtain ⟨v7, ev7, h⟩ := bnd_e h
        refine lv_iinc (v := v7) (lv' := [(3, .int v7), (4, .int r2), (0, .ref (ga g 40)), (1, .int x1), (2, .int x2)]) hx hb dX8_isAnyBranch_48 hl (k := 4) rfl ((ii_1 _).trans ev7.symm) (Nat.le_of_ble_eq_true rfl) rfl (fun ls hl => ?_)
        refine lv_goto (tgt := 2) hx hb dX8_isAnyBranch_51 (by decide) ?_
        exact ih σ x1 x2 v7 h _ _ _ hd (lv_sub hl [2, 3, 4, 0] rfl)
      · replace h := iteF c6 h
        refine lv_iconst (v := 1) hx hb dX8_isAnyBranch_46 ic_1 ?_
        exact rZretP C hr hd h (by decide) dX8_isAnyBranch_47
noncomputable def f_X8_isAnyBranch (F : Nat) (σ : St) (x1 : Int32) (x2 : Int32) : Option Int32 :=
  f_X8_isAnyBranch_2 F F σ x1 x2 0
set_option maxRecDepth 100000 in
set_option maxHeartbeats 4000000 in
theorem c_X8_isAnyBranch {l : Launch} {g : Gp} {X : va_W} (hE : E0 g) {F : Nat} {r' : Int32} {σ : St} {x1 : Int32} {x2 : Int32} (h : f_X8_isAnyBranch F σ x1 x2 = some r') : Ci l g yX8_isAnyBranch cX8_isAnyBranch 5 (some .boolean) 2 [.ref (ga g 40), .int x1, .int x2] (wM g σ ++ X) r' (wM g σ ++ X) := by
  refine rHead hE (by decide +kernel) (Nat.le_of_ble_eq_true rfl) (fun p e s m below meth c C hr _ hd ls hl => ?_)
  have hx := C.1
  have hb := C.2.1
  have hl : lv_has ls 5 [(0, .ref (ga g 40)), (1, .int x1), (2, .int x2)] := hl
  generalize ([.ref (ga g 40), .int x1, .int x2] : List Value).toArray = args at C ⊢
  have C : Cx g p s m args meth c cX8_isAnyBranch 5 RX8 := C
  rw [f_X8_isAnyBranch] at h
  refine lv_iconst (v := 0) hx hb dX8_isAnyBranch_0 ic_0 ?_
  refine lv_istore_n (lv' := [(3, .int 0), (0, .ref (ga g 40)), (1, .int x1), (2, .int x2)]) hx hb dX8_isAnyBranch_1 rfl hl (Nat.le_of_ble_eq_true rfl) rfl (fun ls hl => ?_)
  exact w_X8_isAnyBranch_2 C hr _ σ x1 x2 0 h _ _ _ hd (lv_sub hl [1, 2, 3, 0] rfl)
noncomputable def f_X8_ownerOf_2 (F : Nat) : Nat → St → Int32 → Int32 → Option Int32
  | 0, _, _, _ => none
  | n + 1, σ, x2, x3 => if x3 ≤ 0 then (some x3) else (cal (f_X8_forkOf F σ x3) (fun r2 => if r2 < x2 then (some x3) else (cal (f_X8_parentOf F σ x3) (fun r4 => f_X8_ownerOf_2 F n σ x2 r4))))
set_option maxRecDepth 100000 in
set_option maxHeartbeats 4000000 in
theorem w_X8_ownerOf_2 {F : Nat} {r' : Int32}  (C : Cx g p s m args meth c cX8_ownerOf 4 RX8) (hr : meth.sig.returnType = some .int) :
    (∀ (n : Nat) (σ : St) (x2 : Int32) (x3 : Int32), f_X8_ownerOf_2 F n σ x2 x3 = some r' → ∀ (H : Heap) (locs : List Loc) (ls : Array Slot), Dy g (wM g σ ++ X) s H locs → lv_has ls 4 [(0, .ref (ga g 40)), (2, .int x2), (3, .int x3)] → W p l e (rmD 1) s m args below meth c H locs 0 0 (QI g below args s (wM g σ ++ X) r') (F0 m 2 ls [])) := by
  have hx := C.1
  have hb := C.2.1
  have hE := C.2.2.2.2.2.2.2.2
  intro n
  induction n with
  | zero =>
    intro σ x2 x3 h
    cases h
  | succ n ih =>
    intro σ x2 x3 h H locs ls hd hl
    rw [f_X8_ownerOf_2] at h
    refine lv_iload_n hx hb dX8_ownerOf_2 rfl (lv_at hl 2 rfl) ?_
    refine lv_if_le (tgt := 24) hx hb dX8_ownerOf_3 (by decide) (fun c1 => ?_) (fun c1 => ?_)
    · replace h := iteT c1 h
      refine lv_iload_n hx hb dX8_ownerOf_24 rfl (lv_at hl 2 rfl) ?_
      exact rIretP C hr hd h dX8_ownerOf_25
    · replace h := iteF c1 h
      refine lv_iload_n hx hb dX8_ownerOf_6 rfl (lv_at hl 1 rfl) ?_
      refine lv_aload_n hx hb dX8_ownerOf_7 rfl (lv_at hl 0 rfl) ?_
      refine lv_iload_n hx hb dX8_ownerOf_8 rfl (lv_at hl 2 rfl) ?_
      obtain ⟨r2, er2, h⟩ := cal_e h
      refine rCallI C hd (c_X8_forkOf hE er2) kX8_265 0 rfl rfl rfl rfl hl.1 rfl (Nat.le_of_ble_eq_true rfl) ⟨(Nat.le_of_ble_eq_true rfl), (Nat.le_of_ble_eq_true rfl)⟩ ⟨Nat.le_refl _, Nat.le_refl _⟩ dX8_ownerOf_9 (fun H locs hd => ?_)
      refine lv_icmp_gt (tgt := 24) hx hb dX8_ownerOf_12 (by decide) (fun c3 => ?_) (fun c3 => ?_)
      · replace h := iteT c3 h
        refine lv_iload_n hx hb dX8_ownerOf_24 rfl (lv_at hl 2 rfl) ?_
        exact rIretP C hr hd h dX8_ownerOf_25
      · replace h := iteF c3 h
        refine lv_aload_n hx hb dX8_ownerOf_15 rfl (lv_at hl 0 rfl) ?_
        refine lv_iload_n hx hb dX8_ownerOf_16 rfl (lv_at hl 2 rfl) ?_
        obtain ⟨r4, er4, h⟩ := cal_e h
        refine rCallI C hd (c_X8_parentOf hE er4) kX8_268 0 rfl rfl rfl rfl hl.1 rfl (Nat.le_of_ble_eq_true rfl) ⟨(Nat.le_of_ble_eq_true rfl), (Nat.le_of_ble_eq_true rfl)⟩ ⟨Nat.le_refl _, Nat.le_refl _⟩ dX8_ownerOf_17 (fun H locs hd => ?_)
        refine lv_istore_n (lv' := [(3, .int r4), (0, .ref (ga g 40)), (2, .int x2)]) hx hb dX8_ownerOf_20 rfl hl (Nat.le_of_ble_eq_true rfl) rfl (fun ls hl => ?_)
        refine lv_goto (tgt := 2) hx hb dX8_ownerOf_21 (by decide) ?_
        exact ih σ x2 r4 h _ _ _ hd (lv_sub hl [1, 2, 0] rfl)
noncomputable def f_X8_ownerOf (F : Nat) (σ : St) (x1 : Int32) (x2 : Int32) : Option Int32 :=
  f_X8_ownerOf_2 F F σ x2 x1
set_option maxRecDepth 100000 in
set_option maxHeartbeats 4000000 in
theorem c_X8_ownerOf {l : Launch} {g : Gp} {X : va_W} (hE : E0 g) {F : Nat} {r' : Int32} {σ : St} {x1 : Int32} {x2 : Int32} (h : f_X8_ownerOf F σ x1 x2 = some r') : Ci l g yX8_ownerOf cX8_ownerOf 4 (some .int) 1 [.ref (ga g 40), .int x1, .int x2] (wM g σ ++ X) r' (wM g σ ++ X) := by
  refine rHead hE (by decide +kernel) (Nat.le_of_ble_eq_true rfl) (fun p e s m below meth c C hr _ hd ls hl => ?_)
  have hx := C.1
  have hb := C.2.1
  have hl : lv_has ls 4 [(0, .ref (ga g 40)), (1, .int x1), (2, .int x2)] := hl
  generalize ([.ref (ga g 40), .int x1, .int x2] : List Value).toArray = args at C ⊢
  have C : Cx g p s m args meth c cX8_ownerOf 4 RX8 := C
  rw [f_X8_ownerOf] at h
  refine lv_iload_n hx hb dX8_ownerOf_0 rfl (lv_at hl 1 rfl) ?_
  refine lv_istore_n (lv' := [(3, .int x1), (0, .ref (ga g 40)), (1, .int x1), (2, .int x2)]) hx hb dX8_ownerOf_1 rfl hl (Nat.le_of_ble_eq_true rfl) rfl (fun ls hl => ?_)
  exact w_X8_ownerOf_2 C hr _ σ x2 x1 h _ _ _ hd (lv_sub hl [1, 3, 0] rfl)
noncomputable def f_X8_recordAt (F : Nat) (σ : St) (x1 : Int32) (x2 : Int32) : Option Int32 :=
  cal (f_X8_ownerOf F σ x1 x2) (fun r1 => some (1380 + (3 * ((241 * r1) + x2))))
set_option maxRecDepth 100000 in
set_option maxHeartbeats 4000000 in
theorem c_X8_recordAt {l : Launch} {g : Gp} {X : va_W} (hE : E0 g) {F : Nat} {r' : Int32} {σ : St} {x1 : Int32} {x2 : Int32} (h : f_X8_recordAt F σ x1 x2 = some r') : Ci l g yX8_recordAt cX8_recordAt 3 (some .int) 2 [.ref (ga g 40), .int x1, .int x2] (wM g σ ++ X) r' (wM g σ ++ X) := by
  refine rHead hE (by decide +kernel) (Nat.le_of_ble_eq_true rfl) (fun p e s m below meth c C hr _ hd ls hl => ?_)
  have hx := C.1
  have hb := C.2.1
  have hl : lv_has ls 3 [(0, .ref (ga g 40)), (1, .int x1), (2, .int x2)] := hl
  generalize ([.ref (ga g 40), .int x1, .int x2] : List Value).toArray = args at C ⊢
  have C : Cx g p s m args meth c cX8_recordAt 3 RX8 := C
  rw [f_X8_recordAt] at h
  refine lv_sipush (v := 1380) hx hb dX8_recordAt_0 si_1380 ?_
  refine lv_iconst (v := 3) hx hb dX8_recordAt_3 ic_3 ?_
  refine lv_sipush (v := 241) hx hb dX8_recordAt_4 si_241 ?_
  refine lv_aload_n hx hb dX8_recordAt_7 rfl (lv_at hl 0 rfl) ?_
  refine lv_iload_n hx hb dX8_recordAt_8 rfl (lv_at hl 1 rfl) ?_
  refine lv_iload_n hx hb dX8_recordAt_9 rfl (lv_at hl 2 rfl) ?_
  obtain ⟨r1, er1, h⟩ := cal_e h
  refine rCallI C hd (c_X8_ownerOf hE er1) kX8_271 0 rfl rfl rfl rfl hl.1 rfl (Nat.le_of_ble_eq_true rfl) ⟨(Nat.le_of_ble_eq_true rfl), (Nat.le_of_ble_eq_true rfl)⟩ ⟨Nat.le_refl _, Nat.le_refl _⟩ dX8_recordAt_10 (fun H locs hd => ?_)
  refine lv_imul hx hb dX8_recordAt_13 ?_
  refine lv_iload_n hx hb dX8_recordAt_14 rfl (lv_at hl 2 rfl) ?_
  refine lv_iadd hx hb dX8_recordAt_15 ?_
  refine lv_imul hx hb dX8_recordAt_16 ?_
  refine lv_iadd hx hb dX8_recordAt_17 ?_
  exact rIretP C hr hd h dX8_recordAt_18
noncomputable def f_X8_changedBy (F : Nat) (σ : St) (x1 : Int32) (x2 : Int32) : Option Int32 :=
  cal (f_X8_recordAt F σ x1 x2) (fun r1 => if inb r1 7164 = true then if 2 ≤ (σ.2.1 19 r1.toNatClampNeg) then (some (-1 : Int32)) else (if inb (r1 + 1) 7164 = true then some (σ.2.1 19 (r1 + 1).toNatClampNeg) else none) else none)
set_option maxRecDepth 100000 in
set_option maxHeartbeats 4000000 in
theorem c_X8_changedBy {l : Launch} {g : Gp} {X : va_W} (hE : E0 g) {F : Nat} {r' : Int32} {σ : St} {x1 : Int32} {x2 : Int32} (h : f_X8_changedBy F σ x1 x2 = some r') : Ci l g yX8_changedBy cX8_changedBy 4 (some .int) 3 [.ref (ga g 40), .int x1, .int x2] (wM g σ ++ X) r' (wM g σ ++ X) := by
  refine rHead hE (by decide +kernel) (Nat.le_of_ble_eq_true rfl) (fun p e s m below meth c C hr _ hd ls hl => ?_)
  have hx := C.1
  have hb := C.2.1
  have hl : lv_has ls 4 [(0, .ref (ga g 40)), (1, .int x1), (2, .int x2)] := hl
  generalize ([.ref (ga g 40), .int x1, .int x2] : List Value).toArray = args at C ⊢
  have C : Cx g p s m args meth c cX8_changedBy 4 RX8 := C
  rw [f_X8_changedBy] at h
  refine lv_aload_n hx hb dX8_changedBy_0 rfl (lv_at hl 0 rfl) ?_
  refine lv_iload_n hx hb dX8_changedBy_1 rfl (lv_at hl 1 rfl) ?_
  refine lv_iload_n hx hb dX8_changedBy_2 rfl (lv_at hl 2 rfl) ?_
  obtain ⟨r1, er1, h⟩ := cal_e h
  refine rCallI C hd (c_X8_recordAt hE er1) kX8_280 0 rfl rfl rfl rfl hl.1 rfl (Nat.le_of_ble_eq_true rfl) ⟨(Nat.le_of_ble_eq_true rfl), (Nat.le_of_ble_eq_true rfl)⟩ ⟨Nat.le_refl _, Nat.le_refl _⟩ dX8_changedBy_3 (fun H locs hd => ?_)
  refine lv_istore_n (lv' := [(3, .int r1), (0, .ref (ga g 40)), (1, .int x1), (2, .int x2)]) hx hb dX8_changedBy_6 rfl hl (Nat.le_of_ble_eq_true rfl) rfl (fun ls hl => ?_)
  refine lv_aload_n hx hb dX8_changedBy_7 rfl (lv_at hl 1 rfl) ?_
  refine gX8_73 C hd dX8_changedBy_8 ?_
  refine lv_iload_n hx hb dX8_changedBy_11 rfl (lv_at hl 0 rfl) ?_
  obtain ⟨n2, h⟩ := chk h
  refine ld_wM_19 C hd (inb_i n2) dX8_changedBy_12 ?_
  refine lv_iconst (v := 2) hx hb dX8_changedBy_13 ic_2 ?_
  refine lv_icmp_ge (tgt := 28) hx hb dX8_changedBy_14 (by decide) (fun c3 => ?_) (fun c3 => ?_)
  · replace h := iteT c3 h
    refine lv_iconst (v := (-1 : Int32)) hx hb dX8_changedBy_28 ic_m1 ?_
    exact rIretP C hr hd h dX8_changedBy_29
  · replace h := iteF c3 h
    refine lv_aload_n hx hb dX8_changedBy_17 rfl (lv_at hl 1 rfl) ?_
    refine gX8_73 C hd dX8_changedBy_18 ?_
    refine lv_iload_n hx hb dX8_changedBy_21 rfl (lv_at hl 0 rfl) ?_
    refine lv_iconst (v := 1) hx hb dX8_changedBy_22 ic_1 ?_
    refine lv_iadd hx hb dX8_changedBy_23 ?_
    obtain ⟨n4, h⟩ := chk h
    refine ld_wM_19 C hd (inb_i n4) dX8_changedBy_24 ?_
    refine lv_goto (tgt := 29) hx hb dX8_changedBy_25 (by decide) ?_
    exact rIretP C hr hd h dX8_changedBy_29
noncomputable def f_X8_firstChange_45 (F : Nat) (k_3 : St → Int32 → Int32 → Int32 → Int32 → Option Int32) (σ : St) (x1 : Int32) (x2 : Int32) (x3 : Int32) (x4 : Int32) : Option Int32 :=
  bnd (x4 + 1) (fun v1 => k_3 σ x1 x2 x3 v1)
set_option maxRecDepth 100000 in
set_option maxHeartbeats 4000000 in
theorem w_X8_firstChange_45 {F : Nat} {r' : Int32}  (C : Cx g p s m args meth c cX8_firstChange 6 RX8) (hr : meth.sig.returnType = some .int)
    {k_3 : St → Int32 → Int32 → Int32 → Int32 → Option Int32} (hk_3 : (∀ (σ : St) (x1 : Int32) (x2 : Int32) (x3 : Int32) (x4 : Int32), k_3 σ x1 x2 x3 x4 = some r' → ∀ (H : Heap) (locs : List Loc) (ls : Array Slot), Dy g (wM g σ ++ X) s H locs → lv_has ls 6 [(0, .ref (ga g 40)), (1, .int x1), (2, .int x2), (3, .int x3), (4, .int x4)] → W p l e (rmD 4) s m args below meth c H locs 0 0 (QI g below args s (wM g σ ++ X) r') (F0 m 3 ls []))) :
    (∀ (σ : St) (x1 : Int32) (x2 : Int32) (x3 : Int32) (x4 : Int32), f_X8_firstChange_45 F k_3 σ x1 x2 x3 x4 = some r' → ∀ (H : Heap) (locs : List Loc) (ls : Array Slot), Dy g (wM g σ ++ X) s H locs → lv_has ls 6 [(0, .ref (ga g 40)), (1, .int x1), (2, .int x2), (3, .int x3), (4, .int x4)] → W p l e (rmD 4) s m args below meth c H locs 0 0 (QI g below args s (wM g σ ++ X) r') (F0 m 45 ls [])) := by
  have hx := C.1
  have hb := C.2.1
  have hE := C.2.2.2.2.2.2.2.2
  intro σ x1 x2 x3 x4 h H locs ls hd hl
  rw [f_X8_firstChange_45] at h
  obtain ⟨v1, ev1, h⟩ := bnd_e h
  refine lv_iinc (v := v1) (lv' := [(4, .int v1), (0, .ref (ga g 40)), (1, .int x1), (2, .int x2), (3, .int x3)]) hx hb dX8_firstChange_45 hl (k := 4) rfl ((ii_1 _).trans ev1.symm) (Nat.le_of_ble_eq_true rfl) rfl (fun ls hl => ?_)
  refine lv_goto (tgt := 3) hx hb dX8_firstChange_48 (by decide) ?_
  exact hk_3 σ x1 x2 x3 v1 h _ _ _ hd (lv_sub hl [1, 2, 3, 4, 0] rfl)
noncomputable def f_X8_firstChange_3 (F : Nat) : Nat → St → Int32 → Int32 → Int32 → Int32 → Option Int32
  | 0, _, _, _, _, _ => none
  | n + 1, σ, x1, x2, x3, x4 => if x3 < x4 then (some (-1 : Int32)) else (cal (f_X8_changedBy F σ x2 x4) (fun r2 => if r2 < 0 then (f_X8_firstChange_45 F (f_X8_firstChange_3 F n) σ x1 x2 x3 x4) else (cal (f_X8_takenAt F σ x1 r2) (fun r4 => if inb (r4 + 2) 7164 = true then if x4 ≤ (σ.2.1 19 (r4 + 2).toNatClampNeg) then (f_X8_firstChange_45 F (f_X8_firstChange_3 F n) σ x1 x2 x3 x4) else (some x4) else none))))
set_option maxRecDepth 100000 in
set_option maxHeartbeats 4000000 in
theorem w_X8_firstChange_3 {F : Nat} {r' : Int32}  (C : Cx g p s m args meth c cX8_firstChange 6 RX8) (hr : meth.sig.returnType = some .int) :
    (∀ (n : Nat) (σ : St) (x1 : Int32) (x2 : Int32) (x3 : Int32) (x4 : Int32), f_X8_firstChange_3 F n σ x1 x2 x3 x4 = some r' → ∀ (H : Heap) (locs : List Loc) (ls : Array Slot), Dy g (wM g σ ++ X) s H locs → lv_has ls 6 [(0, .ref (ga g 40)), (1, .int x1), (2, .int x2), (3, .int x3), (4, .int x4)] → W p l e (rmD 4) s m args below meth c H locs 0 0 (QI g below args s (wM g σ ++ X) r') (F0 m 3 ls [])) := by
  have hx := C.1
  have hb := C.2.1
  have hE := C.2.2.2.2.2.2.2.2
  intro n
  induction n with
  | zero =>
    intro σ x1 x2 x3 x4 h
    cases h
  | succ n ih =>
    intro σ x1 x2 x3 x4 h H locs ls hd hl
    rw [f_X8_firstChange_3] at h
    refine lv_iload hx hb dX8_firstChange_3 (lv_at hl 4 rfl) ?_
    refine lv_iload_n hx hb dX8_firstChange_5 rfl (lv_at hl 3 rfl) ?_
    refine lv_icmp_gt (tgt := 51) hx hb dX8_firstChange_6 (by decide) (fun c1 => ?_) (fun c1 => ?_)
    · replace h := iteT c1 h
      refine lv_iconst (v := (-1 : Int32)) hx hb dX8_firstChange_51 ic_m1 ?_
      exact rIretP C hr hd h dX8_firstChange_52
    · replace h := iteF c1 h
      refine lv_aload_n hx hb dX8_firstChange_9 rfl (lv_at hl 0 rfl) ?_
      refine lv_iload_n hx hb dX8_firstChange_10 rfl (lv_at hl 2 rfl) ?_
      refine lv_iload hx hb dX8_firstChange_11 (lv_at hl 4 rfl) ?_
      obtain ⟨r2, er2, h⟩ := cal_e h
      refine rCallI C hd (c_X8_changedBy hE er2) kX8_283 0 rfl rfl rfl rfl hl.1 rfl (Nat.le_of_ble_eq_true rfl) ⟨(Nat.le_of_ble_eq_true rfl), (Nat.le_of_ble_eq_true rfl)⟩ ⟨Nat.le_refl _, Nat.le_refl _⟩ dX8_firstChange_13 (fun H locs hd => ?_)
      refine lv_istore (lv' := [(5, .int r2), (0, .ref (ga g 40)), (1, .int x1), (2, .int x2), (3, .int x3), (4, .int x4)]) hx hb dX8_firstChange_16 hl (Nat.le_of_ble_eq_true rfl) rfl (fun ls hl => ?_)
      refine lv_iload hx hb dX8_firstChange_18 (lv_at hl 0 rfl) ?_
      refine lv_if_lt (tgt := 45) hx hb dX8_firstChange_20 (by decide) (fun c3 => ?_) (fun c3 => ?_)
      · replace h := iteT c3 h
        exact w_X8_firstChange_45 C hr ih σ x1 x2 x3 x4 h _ _ _ hd (lv_sub hl [1, 2, 3, 4, 5] rfl)
      · replace h := iteF c3 h
        refine lv_iload hx hb dX8_firstChange_23 (lv_at hl 5 rfl) ?_
        refine lv_aload_n hx hb dX8_firstChange_25 rfl (lv_at hl 1 rfl) ?_
        refine gX8_73 C hd dX8_firstChange_26 ?_
        refine lv_aload_n hx hb dX8_firstChange_29 rfl (lv_at hl 1 rfl) ?_
        refine lv_iload_n hx hb dX8_firstChange_30 rfl (lv_at hl 2 rfl) ?_
        refine lv_iload hx hb dX8_firstChange_31 (lv_at hl 0 rfl) ?_
        obtain ⟨r4, er4, h⟩ := cal_e h
        refine rCallI C hd (c_X8_takenAt hE er4) kX8_289 0 rfl rfl rfl rfl hl.1 rfl (Nat.le_of_ble_eq_true rfl) ⟨(Nat.le_of_ble_eq_true rfl), (Nat.le_of_ble_eq_true rfl)⟩ ⟨Nat.le_refl _, Nat.le_refl _⟩ dX8_firstChange_33 (fun H locs hd => ?_)
        refine lv_iconst (v := 2) hx hb dX8_firstChange_36 ic_2 ?_
        refine lv_iadd hx hb dX8_firstChange_37 ?_
        obtain ⟨n5, h⟩ := chk h
        refine ld_wM_19 C hd (inb_i n5) dX8_firstChange_38 ?_
        refine lv_icmp_le (tgt := 45) hx hb dX8_firstChange_39 (by decide) (fun c6 => ?_) (fun c6 => ?_)
        · replace h := iteT c6 h
          exact w_X8_firstChange_45 C hr ih σ x1 x2 x3 x4 h _ _ _ hd (lv_sub hl [1, 2, 3, 4, 5] rfl)
        · replace h := iteF c6 h
          refine lv_iload hx hb dX8_firstChange_42 (lv_at hl 5 rfl) ?_
          exact rIretP C hr hd h dX8_firstChange_44
noncomputable def f_X8_firstChange (F : Nat) (σ : St) (x1 : Int32) (x2 : Int32) (x3 : Int32) : Option Int32 :=
  f_X8_firstChange_3 F F σ x1 x2 x3 1
set_option maxRecDepth 100000 in
set_option maxHeartbeats 4000000 in
theorem c_X8_firstChange {l : Launch} {g : Gp} {X : va_W} (hE : E0 g) {F : Nat} {r' : Int32} {σ : St} {x1 : Int32} {x2 : Int32} {x3 : Int32} (h : f_X8_firstChange F σ x1 x2 x3 = some r') : Ci l g yX8_firstChange cX8_firstChange 6 (some .int) 4 [.ref (ga g 40), .int x1, .int x2, .int x3] (wM g σ ++ X) r' (wM g σ ++ X) := by
  refine rHead hE (by decide +kernel) (Nat.le_of_ble_eq_true rfl) (fun p e s m below meth c C hr _ hd ls hl => ?_)
  have hx := C.1
  have hb := C.2.1
  have hl : lv_has ls 6 [(0, .ref (ga g 40)), (1, .int x1), (2, .int x2), (3, .int x3)] := hl
  generalize ([.ref (ga g 40), .int x1, .int x2, .int x3] : List Value).toArray = args at C ⊢
  have C : Cx g p s m args meth c cX8_firstChange 6 RX8 := C
  rw [f_X8_firstChange] at h
  refine lv_iconst (v := 1) hx hb dX8_firstChange_0 ic_1 ?_
  refine lv_istore (lv' := [(4, .int 1), (0, .ref (ga g 40)), (1, .int x1), (2, .int x2), (3, .int x3)]) hx hb dX8_firstChange_1 hl (Nat.le_of_ble_eq_true rfl) rfl (fun ls hl => ?_)
  exact w_X8_firstChange_3 C hr _ σ x1 x2 x3 1 h _ _ _ hd (lv_sub hl [1, 2, 3, 4, 0] rfl)
noncomputable def f_X8_firstPiece (F : Nat) (σ : St) (x1 : Int32) : Option Int32 :=
  cal (f_X8_forkOf F σ x1) (fun r1 => if ¬ (σ.2.1 19 1) = 0 then some (r1 / (σ.2.1 19 1)) else none)
set_option maxRecDepth 100000 in
set_option maxHeartbeats 4000000 in
theorem c_X8_firstPiece {l : Launch} {g : Gp} {X : va_W} (hE : E0 g) {F : Nat} {r' : Int32} {σ : St} {x1 : Int32} (h : f_X8_firstPiece F σ x1 = some r') : Ci l g yX8_firstPiece cX8_firstPiece 2 (some .int) 1 [.ref (ga g 40), .int x1] (wM g σ ++ X) r' (wM g σ ++ X) := by
  refine rHead hE (by decide +kernel) (Nat.le_of_ble_eq_true rfl) (fun p e s m below meth c C hr _ hd ls hl => ?_)
  have hx := C.1
  have hb := C.2.1
  have hl : lv_has ls 2 [(0, .ref (ga g 40)), (1, .int x1)] := hl
  generalize ([.ref (ga g 40), .int x1] : List Value).toArray = args at C ⊢
  have C : Cx g p s m args meth c cX8_firstPiece 2 RX8 := C
  rw [f_X8_firstPiece] at h
  refine lv_aload_n hx hb dX8_firstPiece_0 rfl (lv_at hl 0 rfl) ?_
  refine lv_iload_n hx hb dX8_firstPiece_1 rfl (lv_at hl 1 rfl) ?_
  obtain ⟨r1, er1, h⟩ := cal_e h
  refine rCallI C hd (c_X8_forkOf hE er1) kX8_265 0 rfl rfl rfl rfl hl.1 rfl (Nat.le_of_ble_eq_true rfl) ⟨(Nat.le_of_ble_eq_true rfl), (Nat.le_of_ble_eq_true rfl)⟩ ⟨Nat.le_refl _, Nat.le_refl _⟩ dX8_firstPiece_2 (fun H locs hd => ?_)
  refine lv_aload_n hx hb dX8_firstPiece_5 rfl (lv_at hl 0 rfl) ?_
  refine gX8_73 C hd dX8_firstPiece_6 ?_
  refine lv_iconst (v := 1) hx hb dX8_firstPiece_9 ic_1 ?_
  refine ldc_wM_19 C hd cl_1 (inb_i (by decide +kernel)) dX8_firstPiece_10 ?_
  obtain ⟨n2, h⟩ := chk h
  refine lv_idiv hx hb dX8_firstPiece_11 n2 ?_
  exact rIretP C hr hd h dX8_firstPiece_12
noncomputable def f_X8_holderOf_2 (F : Nat) : Nat → St → Int32 → Int32 → Option Int32
  | 0, _, _, _ => none
  | n + 1, σ, x2, x3 => if x3 ≤ 0 then (some x3) else (cal (f_X8_firstPiece F σ x3) (fun r2 => if r2 ≤ x2 then (some x3) else (cal (f_X8_parentOf F σ x3) (fun r4 => f_X8_holderOf_2 F n σ x2 r4))))
set_option maxRecDepth 100000 in
set_option maxHeartbeats 4000000 in
theorem w_X8_holderOf_2 {F : Nat} {r' : Int32}  (C : Cx g p s m args meth c cX8_holderOf 4 RX8) (hr : meth.sig.returnType = some .int) :
    (∀ (n : Nat) (σ : St) (x2 : Int32) (x3 : Int32), f_X8_holderOf_2 F n σ x2 x3 = some r' → ∀ (H : Heap) (locs : List Loc) (ls : Array Slot), Dy g (wM g σ ++ X) s H locs → lv_has ls 4 [(0, .ref (ga g 40)), (2, .int x2), (3, .int x3)] → W p l e (rmD 2) s m args below meth c H locs 0 0 (QI g below args s (wM g σ ++ X) r') (F0 m 2 ls [])) := by
  have hx := C.1
  have hb := C.2.1
  have hE := C.2.2.2.2.2.2.2.2
  intro n
  induction n with
  | zero =>
    intro σ x2 x3 h
    cases h
  | succ n ih =>
    intro σ x2 x3 h H locs ls hd hl
    rw [f_X8_holderOf_2] at h
    refine lv_iload_n hx hb dX8_holderOf_2 rfl (lv_at hl 2 rfl) ?_
    refine lv_if_le (tgt := 24) hx hb dX8_holderOf_3 (by decide) (fun c1 => ?_) (fun c1 => ?_)
    · replace h := iteT c1 h
      refine lv_iload_n hx hb dX8_holderOf_24 rfl (lv_at hl 2 rfl) ?_
      exact rIretP C hr hd h dX8_holderOf_25
    · replace h := iteF c1 h
      refine lv_aload_n hx hb dX8_holderOf_6 rfl (lv_at hl 0 rfl) ?_
      refine lv_iload_n hx hb dX8_holderOf_7 rfl (lv_at hl 2 rfl) ?_
      obtain ⟨r2, er2, h⟩ := cal_e h
      refine rCallI C hd (c_X8_firstPiece hE er2) kX8_292 0 rfl rfl rfl rfl hl.1 rfl (Nat.le_of_ble_eq_true rfl) ⟨(Nat.le_of_ble_eq_true rfl), (Nat.le_of_ble_eq_true rfl)⟩ ⟨Nat.le_refl _, Nat.le_refl _⟩ dX8_holderOf_8 (fun H locs hd => ?_)
      refine lv_iload_n hx hb dX8_holderOf_11 rfl (lv_at hl 1 rfl) ?_
      refine lv_icmp_le (tgt := 24) hx hb dX8_holderOf_12 (by decide) (fun c3 => ?_) (fun c3 => ?_)
      · replace h := iteT c3 h
        refine lv_iload_n hx hb dX8_holderOf_24 rfl (lv_at hl 2 rfl) ?_
        exact rIretP C hr hd h dX8_holderOf_25
      · replace h := iteF c3 h
        refine lv_aload_n hx hb dX8_holderOf_15 rfl (lv_at hl 0 rfl) ?_
        refine lv_iload_n hx hb dX8_holderOf_16 rfl (lv_at hl 2 rfl) ?_
        obtain ⟨r4, er4, h⟩ := cal_e h
        refine rCallI C hd (c_X8_parentOf hE er4) kX8_268 0 rfl rfl rfl rfl hl.1 rfl (Nat.le_of_ble_eq_true rfl) ⟨(Nat.le_of_ble_eq_true rfl), (Nat.le_of_ble_eq_true rfl)⟩ ⟨Nat.le_refl _, Nat.le_refl _⟩ dX8_holderOf_17 (fun H locs hd => ?_)
        refine lv_istore_n (lv' := [(3, .int r4), (0, .ref (ga g 40)), (2, .int x2)]) hx hb dX8_holderOf_20 rfl hl (Nat.le_of_ble_eq_true rfl) rfl (fun ls hl => ?_)
        refine lv_goto (tgt := 2) hx hb dX8_holderOf_21 (by decide) ?_
        exact ih σ x2 r4 h _ _ _ hd (lv_sub hl [1, 2, 0] rfl)
noncomputable def f_X8_holderOf (F : Nat) (σ : St) (x1 : Int32) (x2 : Int32) : Option Int32 :=
  f_X8_holderOf_2 F F σ x2 x1
set_option maxRecDepth 100000 in
set_option maxHeartbeats 4000000 in
theorem c_X8_holderOf {l : Launch} {g : Gp} {X : va_W} (hE : E0 g) {F : Nat} {r' : Int32} {σ : St} {x1 : Int32} {x2 : Int32} (h : f_X8_holderOf F σ x1 x2 = some r') : Ci l g yX8_holderOf cX8_holderOf 4 (some .int) 2 [.ref (ga g 40), .int x1, .int x2] (wM g σ ++ X) r' (wM g σ ++ X) := by
  refine rHead hE (by decide +kernel) (Nat.le_of_ble_eq_true rfl) (fun p e s m below meth c C hr _ hd ls hl => ?_)
  have hx := C.1
  have hb := C.2.1
  have hl : lv_has ls 4 [(0, .ref (ga g 40)), (1, .int x1), (2, .int x2)] := hl
  generalize ([.ref (ga g 40), .int x1, .int x2] : List Value).toArray = args at C ⊢
  have C : Cx g p s m args meth c cX8_holderOf 4 RX8 := C
  rw [f_X8_holderOf] at h
  refine lv_iload_n hx hb dX8_holderOf_0 rfl (lv_at hl 1 rfl) ?_
  refine lv_istore_n (lv' := [(3, .int x1), (0, .ref (ga g 40)), (1, .int x1), (2, .int x2)]) hx hb dX8_holderOf_1 rfl hl (Nat.le_of_ble_eq_true rfl) rfl (fun ls hl => ?_)
  exact w_X8_holderOf_2 C hr _ σ x2 x1 h _ _ _ hd (lv_sub hl [1, 3, 0] rfl)
noncomputable def f_X8_keptOf (F : Nat) (σ : St) (x1 : Int32) (x2 : Int32) : Option Int32 :=
  if inb ((420 + (120 * x1)) + x2) 7164 = true then some (σ.2.1 19 ((420 + (120 * x1)) + x2).toNatClampNeg) else none
set_option maxRecDepth 100000 in
set_option maxHeartbeats 4000000 in
theorem c_X8_keptOf {l : Launch} {g : Gp} {X : va_W} (hE : E0 g) {F : Nat} {r' : Int32} {σ : St} {x1 : Int32} {x2 : Int32} (h : f_X8_keptOf F σ x1 x2 = some r') : Ci l g yX8_keptOf cX8_keptOf 3 (some .int) 0 [.ref (ga g 40), .int x1, .int x2] (wM g σ ++ X) r' (wM g σ ++ X) := by
  refine rHead hE (by decide +kernel) (Nat.le_of_ble_eq_true rfl) (fun p e s m below meth c C hr _ hd ls hl => ?_)
  have hx := C.1
  have hb := C.2.1
  have hl : lv_has ls 3 [(0, .ref (ga g 40)), (1, .int x1), (2, .int x2)] := hl
  generalize ([.ref (ga g 40), .int x1, .int x2] : List Value).toArray = args at C ⊢
  have C : Cx g p s m args meth c cX8_keptOf 3 RX8 := C
  rw [f_X8_keptOf] at h
  refine lv_aload_n hx hb dX8_keptOf_0 rfl (lv_at hl 0 rfl) ?_
  refine gX8_73 C hd dX8_keptOf_1 ?_
  refine lv_sipush (v := 420) hx hb dX8_keptOf_4 si_420 ?_
  refine lv_bipush (v := 120) hx hb dX8_keptOf_7 bi_120 ?_
  refine lv_iload_n hx hb dX8_keptOf_9 rfl (lv_at hl 1 rfl) ?_
  refine lv_imul hx hb dX8_keptOf_10 ?_
  refine lv_iadd hx hb dX8_keptOf_11 ?_
  refine lv_iload_n hx hb dX8_keptOf_12 rfl (lv_at hl 2 rfl) ?_
  refine lv_iadd hx hb dX8_keptOf_13 ?_
  obtain ⟨n1, h⟩ := chk h
  refine ld_wM_19 C hd (inb_i n1) dX8_keptOf_14 ?_
  exact rIretP C hr hd h dX8_keptOf_15
noncomputable def f_X8_isAtHand (F : Nat) (σ : St) (x1 : Int32) (x2 : Int32) : Option Int32 :=
  cal (f_X8_keptOf F σ x1 x2) (fun r1 => if 0 < r1 then (some 1) else (if x1 = (σ.2.1 19 3) then (cal (f_X8_placeOf F σ x1) (fun r4 => if ((x2 + 1) * (σ.2.1 19 1)) ≤ r4 then (some 0) else (some 1))) else (some 0)))
set_option maxRecDepth 100000 in
set_option maxHeartbeats 4000000 in
theorem c_X8_isAtHand {l : Launch} {g : Gp} {X : va_W} (hE : E0 g) {F : Nat} {r' : Int32} {σ : St} {x1 : Int32} {x2 : Int32} (h : f_X8_isAtHand F σ x1 x2 = some r') : Ci l g yX8_isAtHand cX8_isAtHand 3 (some .boolean) 1 [.ref (ga g 40), .int x1, .int x2] (wM g σ ++ X) r' (wM g σ ++ X) := by
  refine rHead hE (by decide +kernel) (Nat.le_of_ble_eq_true rfl) (fun p e s m below meth c C hr _ hd ls hl => ?_)
  have hx := C.1
  have hb := C.2.1
  have hl : lv_has ls 3 [(0, .ref (ga g 40)), (1, .int x1), (2, .int x2)] := hl
  generalize ([.ref (ga g 40), .int x1, .int x2] : List Value).toArray = args at C ⊢
  have C : Cx g p s m args meth c cX8_isAtHand 3 RX8 := C
  rw [f_X8_isAtHand] at h
  refine lv_aload_n hx hb dX8_isAtHand_0 rfl (lv_at hl 0 rfl) ?_
  refine lv_iload_n hx hb dX8_isAtHand_1 rfl (lv_at hl 1 rfl) ?_
  refine lv_iload_n hx hb dX8_isAtHand_2 rfl (lv_at hl 2 rfl) ?_
  obtain ⟨r1, er1, h⟩ := cal_e h
  refine rCallI C hd (c_X8_keptOf hE er1) kX8_295 0 rfl rfl rfl rfl hl.1 rfl (Nat.le_of_ble_eq_true rfl) ⟨(Nat.le_of_ble_eq_true rfl), (Nat.le_of_ble_eq_true rfl)⟩ ⟨Nat.le_refl _, Nat.le_refl _⟩ dX8_isAtHand_3 (fun H locs hd => ?_)
  refine lv_if_gt (tgt := 37) hx hb dX8_isAtHand_6 (by decide) (fun c2 => ?_) (fun c2 => ?_)
  · replace h := iteT c2 h
    refine lv_iconst (v := 1) hx hb dX8_isAtHand_37 ic_1 ?_
    refine lv_goto (tgt := 42) hx hb dX8_isAtHand_38 (by decide) ?_
    exact rZretP C hr hd h (by decide) dX8_isAtHand_42
  · replace h := iteF c2 h
    refine lv_iload_n hx hb dX8_isAtHand_9 rfl (lv_at hl 1 rfl) ?_
    refine lv_aload_n hx hb dX8_isAtHand_10 rfl (lv_at hl 0 rfl) ?_
    refine gX8_73 C hd dX8_isAtHand_11 ?_
    refine lv_iconst (v := 3) hx hb dX8_isAtHand_14 ic_3 ?_
    refine ldc_wM_19 C hd cl_3 (inb_i (by decide +kernel)) dX8_isAtHand_15 ?_
    refine lv_icmp_ne (tgt := 41) hx hb dX8_isAtHand_16 (by decide) (fun c3 => ?_) (fun c3 => ?_)
    · replace h := iteF c3 h
      refine lv_iconst (v := 0) hx hb dX8_isAtHand_41 ic_0 ?_
      exact rZretP C hr hd h (by decide) dX8_isAtHand_42
    · replace h := iteT c3 h
      refine lv_iload_n hx hb dX8_isAtHand_19 rfl (lv_at hl 2 rfl) ?_
      refine lv_iconst (v := 1) hx hb dX8_isAtHand_20 ic_1 ?_
      refine lv_iadd hx hb dX8_isAtHand_21 ?_
      refine lv_aload_n hx hb dX8_isAtHand_22 rfl (lv_at hl 0 rfl) ?_
      refine gX8_73 C hd dX8_isAtHand_23 ?_
      refine lv_iconst (v := 1) hx hb dX8_isAtHand_26 ic_1 ?_
      refine ldc_wM_19 C hd cl_1 (inb_i (by decide +kernel)) dX8_isAtHand_27 ?_
      refine lv_imul hx hb dX8_isAtHand_28 ?_
      refine lv_aload_n hx hb dX8_isAtHand_29 rfl (lv_at hl 0 rfl) ?_
      refine lv_iload_n hx hb dX8_isAtHand_30 rfl (lv_at hl 1 rfl) ?_
      obtain ⟨r4, er4, h⟩ := cal_e h
      refine rCallI C hd (c_X8_placeOf hE er4) kX8_217 0 rfl rfl rfl rfl hl.1 rfl (Nat.le_of_ble_eq_true rfl) ⟨(Nat.le_of_ble_eq_true rfl), (Nat.le_of_ble_eq_true rfl)⟩ ⟨Nat.le_refl _, Nat.le_refl _⟩ dX8_isAtHand_31 (fun H locs hd => ?_)
      refine lv_icmp_le (tgt := 41) hx hb dX8_isAtHand_34 (by decide) (fun c5 => ?_) (fun c5 => ?_)
      · replace h := iteT c5 h
        refine lv_iconst (v := 0) hx hb dX8_isAtHand_41 ic_0 ?_
        exact rZretP C hr hd h (by decide) dX8_isAtHand_42
      · replace h := iteF c5 h
        refine lv_iconst (v := 1) hx hb dX8_isAtHand_37 ic_1 ?_
        refine lv_goto (tgt := 42) hx hb dX8_isAtHand_38 (by decide) ?_
        exact rZretP C hr hd h (by decide) dX8_isAtHand_42
noncomputable def f_X8_comesOut__79 (F : Nat) : Nat → St → Int32 → Int32 → Int32 → Option (Int32 × St)
  | 0, _, _, _, _ => none
  | n + 1, σ, x2, x3, x4 => cal (f_X8_pieceOf F σ x3) (fun r1 => if r1 < x4 then (some (0, σ)) else (cal (f_X8_holderOf F σ x2 x4) (fun r3 => bnd (ss σ 16 r3) (fun t4 => bnd (ss t4 17 x4) (fun t5 => cal (f_X8_isAtHand F t5 (t5.1 16) x4) (fun r6 => if r6 = 0 then (some (4, t5)) else (cal (f_X8_keptOf F t5 (t5.1 16) x4) (fun r8 => if r8 = 3 then (some (5, t5)) else (bnd (x4 + 1) (fun v10 => f_X8_comesOut__79 F n t5 x2 x3 v10))))))))))
set_option maxRecDepth 100000 in
set_option maxHeartbeats 4000000 in
theorem w_X8_comesOut__79 {F : Nat} {r' : Int32} {σ' : St}  (C : Cx g p s m args meth c cX8_comesOut_ 5 RX8) (hr : meth.sig.returnType = some .int) :
    (∀ (n : Nat) (σ : St) (x2 : Int32) (x3 : Int32) (x4 : Int32), f_X8_comesOut__79 F n σ x2 x3 x4 = some (r', σ') → ∀ (H : Heap) (locs : List Loc) (ls : Array Slot), Dy g (wM g σ ++ X) s H locs → lv_has ls 5 [(0, .ref (ga g 40)), (2, .int x2), (3, .int x3), (4, .int x4)] → W p l e (rmD 5) s m args below meth c H locs 0 0 (QI g below args s (wM g σ' ++ X) r') (F0 m 79 ls [])) := by
  have hx := C.1
  have hb := C.2.1
  have hE := C.2.2.2.2.2.2.2.2
  intro n
  induction n with
  | zero =>
    intro σ x2 x3 x4 h
    cases h
  | succ n ih =>
    intro σ x2 x3 x4 h H locs ls hd hl
    rw [f_X8_comesOut__79] at h
    refine lv_iload hx hb dX8_comesOut__79 (lv_at hl 3 rfl) ?_
    refine lv_aload_n hx hb dX8_comesOut__81 rfl (lv_at hl 0 rfl) ?_
    refine lv_iload_n hx hb dX8_comesOut__82 rfl (lv_at hl 2 rfl) ?_
    obtain ⟨r1, er1, h⟩ := cal_e h
    refine rCallI C hd (c_X8_pieceOf hE er1) kX8_277 0 rfl rfl rfl rfl hl.1 rfl (Nat.le_of_ble_eq_true rfl) ⟨(Nat.le_of_ble_eq_true rfl), (Nat.le_of_ble_eq_true rfl)⟩ ⟨Nat.le_refl _, Nat.le_refl _⟩ dX8_comesOut__83 (fun H locs hd => ?_)
    refine lv_icmp_gt (tgt := 143) hx hb dX8_comesOut__86 (by decide) (fun c2 => ?_) (fun c2 => ?_)
    · replace h := iteT c2 h
      refine lv_iconst (v := 0) hx hb dX8_comesOut__143 ic_0 ?_
      exact rIretS (w := wM g) C hr hd h dX8_comesOut__144
    · replace h := iteF c2 h
      refine lv_aload_n hx hb dX8_comesOut__89 rfl (lv_at hl 0 rfl) ?_
      refine lv_aload_n hx hb dX8_comesOut__90 rfl (lv_at hl 0 rfl) ?_
      refine lv_iload_n hx hb dX8_comesOut__91 rfl (lv_at hl 1 rfl) ?_
      refine lv_iload hx hb dX8_comesOut__92 (lv_at hl 3 rfl) ?_
      obtain ⟨r3, er3, h⟩ := cal_e h
      refine rCallI C hd (c_X8_holderOf hE er3) kX8_322 0 rfl rfl rfl rfl hl.1 rfl (Nat.le_of_ble_eq_true rfl) ⟨(Nat.le_of_ble_eq_true rfl), (Nat.le_of_ble_eq_true rfl)⟩ ⟨Nat.le_refl _, Nat.le_refl _⟩ dX8_comesOut__94 (fun H locs hd => ?_)
      obtain ⟨t4, et4, h⟩ := bnd_e h
      refine pX8_325 C hd et4 dX8_comesOut__97 (fun H locs hd => ?_)
      refine lv_aload_n hx hb dX8_comesOut__100 rfl (lv_at hl 0 rfl) ?_
      refine lv_iload hx hb dX8_comesOut__101 (lv_at hl 3 rfl) ?_
      obtain ⟨t5, et5, h⟩ := bnd_e h
      refine pX8_328 C hd et5 dX8_comesOut__103 (fun H locs hd => ?_)
      refine lv_aload_n hx hb dX8_comesOut__106 rfl (lv_at hl 0 rfl) ?_
      refine lv_aload_n hx hb dX8_comesOut__107 rfl (lv_at hl 0 rfl) ?_
      refine gX8_325 C hd dX8_comesOut__108 ?_
      refine lv_iload hx hb dX8_comesOut__111 (lv_at hl 3 rfl) ?_
      obtain ⟨r6, er6, h⟩ := cal_e h
      refine rCallI C hd (c_X8_isAtHand hE er6) kX8_331 0 rfl rfl rfl rfl hl.1 rfl (Nat.le_of_ble_eq_true rfl) ⟨(Nat.le_of_ble_eq_true rfl), (Nat.le_of_ble_eq_true rfl)⟩ ⟨Nat.le_refl _, Nat.le_refl _⟩ dX8_comesOut__113 (fun H locs hd => ?_)
      refine lv_if_ne (tgt := 121) hx hb dX8_comesOut__116 (by decide) (fun c7 => ?_) (fun c7 => ?_)
      · replace h := iteF c7 h
        refine lv_aload_n hx hb dX8_comesOut__121 rfl (lv_at hl 0 rfl) ?_
        refine lv_aload_n hx hb dX8_comesOut__122 rfl (lv_at hl 0 rfl) ?_
        refine gX8_325 C hd dX8_comesOut__123 ?_
        refine lv_iload hx hb dX8_comesOut__126 (lv_at hl 3 rfl) ?_
        obtain ⟨r8, er8, h⟩ := cal_e h
        refine rCallI C hd (c_X8_keptOf hE er8) kX8_295 0 rfl rfl rfl rfl hl.1 rfl (Nat.le_of_ble_eq_true rfl) ⟨(Nat.le_of_ble_eq_true rfl), (Nat.le_of_ble_eq_true rfl)⟩ ⟨Nat.le_refl _, Nat.le_refl _⟩ dX8_comesOut__128 (fun H locs hd => ?_)
        refine lv_iconst (v := 3) hx hb dX8_comesOut__131 ic_3 ?_
        refine lv_icmp_ne (tgt := 137) hx hb dX8_comesOut__132 (by decide) (fun c9 => ?_) (fun c9 => ?_)
        · replace h := iteF c9 h
          obtain ⟨v10, ev10, h⟩ := bnd_e h
          refine lv_iinc (v := v10) (lv' := [(4, .int v10), (0, .ref (ga g 40)), (2, .int x2), (3, .int x3)]) hx hb dX8_comesOut__137 hl (k := 3) rfl ((ii_1 _).trans ev10.symm) (Nat.le_of_ble_eq_true rfl) rfl (fun ls hl => ?_)
          refine lv_goto (tgt := 79) hx hb dX8_comesOut__140 (by decide) ?_
          exact ih t5 x2 x3 v10 h _ _ _ hd (lv_sub hl [1, 2, 3, 0] rfl)
        · replace h := iteT c9 h
          refine lv_iconst (v := 5) hx hb dX8_comesOut__135 ic_5 ?_
          exact rIretS (w := wM g) C hr hd h dX8_comesOut__136
      · replace h := iteT c7 h
        refine lv_iconst (v := 4) hx hb dX8_comesOut__119 ic_4 ?_
        exact rIretS (w := wM g) C hr hd h dX8_comesOut__120
noncomputable def f_X8_comesOut_ (F : Nat) (σ : St) (x1 : Int32) (x2 : Int32) (x3 : Int32) : Option (Int32 × St) :=
  cal (f_X8_isCopy F σ x1) (fun r1 => if r1 = 0 then (some (1, σ)) else (cal (f_X8_isAt F σ x2 x3) (fun r3 => if r3 = 0 then (some (1, σ)) else (cal (f_X8_isFit F σ x1) (fun r5 => if r5 = 0 then (some (1, σ)) else (cal (f_X8_isAnyBranch F σ x1 x2) (fun r7 => if r7 = 0 then (cal (f_X8_latestTaken F σ x1) (fun r9 => if r9 ≤ x3 then (cal (f_X8_firstChange F σ x1 x2 x3) (fun r11 => bnd (ss σ 15 r11) (fun t12 => if 0 ≤ (t12.1 15) then (cal (f_X8_pieceOf F t12 (t12.1 15)) (fun r14 => f_X8_comesOut__79 F F t12 x2 x3 r14)) else (some (0, t12))))) else (some (3, σ)))) else (some (2, σ)))))))))
set_option maxRecDepth 100000 in
set_option maxHeartbeats 4000000 in
theorem c_X8_comesOut_ {l : Launch} {g : Gp} {X : va_W} (hE : E0 g) {F : Nat} {r' : Int32} {σ' : St} {σ : St} {x1 : Int32} {x2 : Int32} {x3 : Int32} (h : f_X8_comesOut_ F σ x1 x2 x3 = some (r', σ')) : Ci l g yX8_comesOut_ cX8_comesOut_ 5 (some .int) 5 [.ref (ga g 40), .int x1, .int x2, .int x3] (wM g σ ++ X) r' (wM g σ' ++ X) := by
  refine rHead hE (by decide +kernel) (Nat.le_of_ble_eq_true rfl) (fun p e s m below meth c C hr _ hd ls hl => ?_)
  have hx := C.1
  have hb := C.2.1
  have hl : lv_has ls 5 [(0, .ref (ga g 40)), (1, .int x1), (2, .int x2), (3, .int x3)] := hl
  generalize ([.ref (ga g 40), .int x1, .int x2, .int x3] : List Value).toArray = args at C ⊢
  have C : Cx g p s m args meth c cX8_comesOut_ 5 RX8 := C
  rw [f_X8_comesOut_] at h
  refine lv_aload_n hx hb dX8_comesOut__0 rfl (lv_at hl 0 rfl) ?_
  refine lv_iload_n hx hb dX8_comesOut__1 rfl (lv_at hl 1 rfl) ?_
  obtain ⟨r1, er1, h⟩ := cal_e h
  refine rCallI C hd (c_X8_isCopy hE er1) kX8_301 0 rfl rfl rfl rfl hl.1 rfl (Nat.le_of_ble_eq_true rfl) ⟨(Nat.le_of_ble_eq_true rfl), (Nat.le_of_ble_eq_true rfl)⟩ ⟨Nat.le_refl _, Nat.le_refl _⟩ dX8_comesOut__2 (fun H locs hd => ?_)
  refine lv_if_eq (tgt := 25) hx hb dX8_comesOut__5 (by decide) (fun c2 => ?_) (fun c2 => ?_)
  · replace h := iteT c2 h
    refine lv_iconst (v := 1) hx hb dX8_comesOut__25 ic_1 ?_
    exact rIretS (w := wM g) C hr hd h dX8_comesOut__26
  · replace h := iteF c2 h
    refine lv_aload_n hx hb dX8_comesOut__8 rfl (lv_at hl 0 rfl) ?_
    refine lv_iload_n hx hb dX8_comesOut__9 rfl (lv_at hl 2 rfl) ?_
    refine lv_iload_n hx hb dX8_comesOut__10 rfl (lv_at hl 3 rfl) ?_
    obtain ⟨r3, er3, h⟩ := cal_e h
    refine rCallI C hd (c_X8_isAt hE er3) kX8_304 0 rfl rfl rfl rfl hl.1 rfl (Nat.le_of_ble_eq_true rfl) ⟨(Nat.le_of_ble_eq_true rfl), (Nat.le_of_ble_eq_true rfl)⟩ ⟨Nat.le_refl _, Nat.le_refl _⟩ dX8_comesOut__11 (fun H locs hd => ?_)
    refine lv_if_eq (tgt := 25) hx hb dX8_comesOut__14 (by decide) (fun c4 => ?_) (fun c4 => ?_)
    · replace h := iteT c4 h
      refine lv_iconst (v := 1) hx hb dX8_comesOut__25 ic_1 ?_
      exact rIretS (w := wM g) C hr hd h dX8_comesOut__26
    · replace h := iteF c4 h
      refine lv_aload_n hx hb dX8_comesOut__17 rfl (lv_at hl 0 rfl) ?_
      refine lv_iload_n hx hb dX8_comesOut__18 rfl (lv_at hl 1 rfl) ?_
      obtain ⟨r5, er5, h⟩ := cal_e h
      refine rCallI C hd (c_X8_isFit hE er5) kX8_307 0 rfl rfl rfl rfl hl.1 rfl (Nat.le_of_ble_eq_true rfl) ⟨(Nat.le_of_ble_eq_true rfl), (Nat.le_of_ble_eq_true rfl)⟩ ⟨Nat.le_refl _, Nat.le_refl _⟩ dX8_comesOut__19 (fun H locs hd => ?_)
      refine lv_if_ne (tgt := 27) hx hb dX8_comesOut__22 (by decide) (fun c6 => ?_) (fun c6 => ?_)
      · replace h := iteF c6 h
        refine lv_aload_n hx hb dX8_comesOut__27 rfl (lv_at hl 0 rfl) ?_
        refine lv_iload_n hx hb dX8_comesOut__28 rfl (lv_at hl 1 rfl) ?_
        refine lv_iload_n hx hb dX8_comesOut__29 rfl (lv_at hl 2 rfl) ?_
        obtain ⟨r7, er7, h⟩ := cal_e h
        refine rCallI C hd (c_X8_isAnyBranch hE er7) kX8_310 0 rfl rfl rfl rfl hl.1 rfl (Nat.le_of_ble_eq_true rfl) ⟨(Nat.le_of_ble_eq_true rfl), (Nat.le_of_ble_eq_true rfl)⟩ ⟨Nat.le_refl _, Nat.le_refl _⟩ dX8_comesOut__30 (fun H locs hd => ?_)
        refine lv_if_eq (tgt := 38) hx hb dX8_comesOut__33 (by decide) (fun c8 => ?_) (fun c8 => ?_)
        · replace h := iteT c8 h
          refine lv_aload_n hx hb dX8_comesOut__38 rfl (lv_at hl 0 rfl) ?_
          refine lv_iload_n hx hb dX8_comesOut__39 rfl (lv_at hl 1 rfl) ?_
          obtain ⟨r9, er9, h⟩ := cal_e h
          refine rCallI C hd (c_X8_latestTaken hE er9) kX8_313 0 rfl rfl rfl rfl hl.1 rfl (Nat.le_of_ble_eq_true rfl) ⟨(Nat.le_of_ble_eq_true rfl), (Nat.le_of_ble_eq_true rfl)⟩ ⟨Nat.le_refl _, Nat.le_refl _⟩ dX8_comesOut__40 (fun H locs hd => ?_)
          refine lv_iload_n hx hb dX8_comesOut__43 rfl (lv_at hl 3 rfl) ?_
          refine lv_icmp_le (tgt := 49) hx hb dX8_comesOut__44 (by decide) (fun c10 => ?_) (fun c10 => ?_)
          · replace h := iteT c10 h
            refine lv_aload_n hx hb dX8_comesOut__49 rfl (lv_at hl 0 rfl) ?_
            refine lv_aload_n hx hb dX8_comesOut__50 rfl (lv_at hl 0 rfl) ?_
            refine lv_iload_n hx hb dX8_comesOut__51 rfl (lv_at hl 1 rfl) ?_
            refine lv_iload_n hx hb dX8_comesOut__52 rfl (lv_at hl 2 rfl) ?_
            refine lv_iload_n hx hb dX8_comesOut__53 rfl (lv_at hl 3 rfl) ?_
            obtain ⟨r11, er11, h⟩ := cal_e h
            refine rCallI C hd (c_X8_firstChange hE er11) kX8_316 0 rfl rfl rfl rfl hl.1 rfl (Nat.le_of_ble_eq_true rfl) ⟨(Nat.le_of_ble_eq_true rfl), (Nat.le_of_ble_eq_true rfl)⟩ ⟨Nat.le_refl _, Nat.le_refl _⟩ dX8_comesOut__54 (fun H locs hd => ?_)
            obtain ⟨t12, et12, h⟩ := bnd_e h
            refine pX8_319 C hd et12 dX8_comesOut__57 (fun H locs hd => ?_)
            refine lv_aload_n hx hb dX8_comesOut__60 rfl (lv_at hl 0 rfl) ?_
            refine gX8_319 C hd dX8_comesOut__61 ?_
            refine lv_if_ge (tgt := 69) hx hb dX8_comesOut__64 (by decide) (fun c13 => ?_) (fun c13 => ?_)
            · replace h := iteT c13 h
              refine lv_aload_n hx hb dX8_comesOut__69 rfl (lv_at hl 0 rfl) ?_
              refine lv_aload_n hx hb dX8_comesOut__70 rfl (lv_at hl 0 rfl) ?_
              refine gX8_319 C hd dX8_comesOut__71 ?_
              obtain ⟨r14, er14, h⟩ := cal_e h
              refine rCallI C hd (c_X8_pieceOf hE er14) kX8_277 0 rfl rfl rfl rfl hl.1 rfl (Nat.le_of_ble_eq_true rfl) ⟨(Nat.le_of_ble_eq_true rfl), (Nat.le_of_ble_eq_true rfl)⟩ ⟨Nat.le_refl _, Nat.le_refl _⟩ dX8_comesOut__74 (fun H locs hd => ?_)
              refine lv_istore (lv' := [(4, .int r14), (0, .ref (ga g 40)), (1, .int x1), (2, .int x2), (3, .int x3)]) hx hb dX8_comesOut__77 hl (Nat.le_of_ble_eq_true rfl) rfl (fun ls hl => ?_)
              exact w_X8_comesOut__79 C hr _ t12 x2 x3 r14 h _ _ _ hd (lv_sub hl [1, 3, 4, 0] rfl)
            · replace h := iteF c13 h
              refine lv_iconst (v := 0) hx hb dX8_comesOut__67 ic_0 ?_
              exact rIretS (w := wM g) C hr hd h dX8_comesOut__68
          · replace h := iteF c10 h
            refine lv_iconst (v := 3) hx hb dX8_comesOut__47 ic_3 ?_
            exact rIretS (w := wM g) C hr hd h dX8_comesOut__48
        · replace h := iteF c8 h
          refine lv_iconst (v := 2) hx hb dX8_comesOut__36 ic_2 ?_
          exact rIretS (w := wM g) C hr hd h dX8_comesOut__37
      · replace h := iteT c6 h
        refine lv_iconst (v := 1) hx hb dX8_comesOut__25 ic_1 ?_
        exact rIretS (w := wM g) C hr hd h dX8_comesOut__26
noncomputable def f_X8_best_87 (F : Nat) (k_20 : St → Int32 → Int32 → Int32 → Int32 → Int32 → Option (Int32 × St)) (σ : St) (x1 : Int32) (x2 : Int32) (x3 : Int32) (x4 : Int32) (x5 : Int32) : Option (Int32 × St) :=
  bnd (x5 + 1) (fun v1 => k_20 σ x1 x2 x3 x4 v1)
set_option maxRecDepth 100000 in
set_option maxHeartbeats 4000000 in
theorem w_X8_best_87 {F : Nat} {r' : Int32} {σ' : St}  (C : Cx g p s m args meth c cX8_best 7 RX8) (hr : meth.sig.returnType = some .int)
    {k_20 : St → Int32 → Int32 → Int32 → Int32 → Int32 → Option (Int32 × St)} (hk_20 : (∀ (σ : St) (x1 : Int32) (x2 : Int32) (x3 : Int32) (x4 : Int32) (x5 : Int32), k_20 σ x1 x2 x3 x4 x5 = some (r', σ') → ∀ (H : Heap) (locs : List Loc) (ls : Array Slot), Dy g (wM g σ ++ X) s H locs → lv_has ls 7 [(0, .ref (ga g 40)), (1, .int x1), (2, .int x2), (3, .int x3), (4, .int x4), (5, .int x5)] → W p l e (rmD 6) s m args below meth c H locs 0 0 (QI g below args s (wM g σ' ++ X) r') (F0 m 20 ls []))) :
    (∀ (σ : St) (x1 : Int32) (x2 : Int32) (x3 : Int32) (x4 : Int32) (x5 : Int32), f_X8_best_87 F k_20 σ x1 x2 x3 x4 x5 = some (r', σ') → ∀ (H : Heap) (locs : List Loc) (ls : Array Slot), Dy g (wM g σ ++ X) s H locs → lv_has ls 7 [(0, .ref (ga g 40)), (1, .int x1), (2, .int x2), (3, .int x3), (4, .int x4), (5, .int x5)] → W p l e (rmD 6) s m args below meth c H locs 0 0 (QI g below args s (wM g σ' ++ X) r') (F0 m 87 ls [])) := by
  have hx := C.1
  have hb := C.2.1
  have hE := C.2.2.2.2.2.2.2.2
  intro σ x1 x2 x3 x4 x5 h H locs ls hd hl
  rw [f_X8_best_87] at h
  obtain ⟨v1, ev1, h⟩ := bnd_e h
  refine lv_iinc (v := v1) (lv' := [(5, .int v1), (0, .ref (ga g 40)), (1, .int x1), (2, .int x2), (3, .int x3), (4, .int x4)]) hx hb dX8_best_87 hl (k := 5) rfl ((ii_1 _).trans ev1.symm) (Nat.le_of_ble_eq_true rfl) rfl (fun ls hl => ?_)
  refine lv_goto (tgt := 20) hx hb dX8_best_90 (by decide) ?_
  exact hk_20 σ x1 x2 x3 x4 v1 h _ _ _ hd (lv_sub hl [1, 2, 3, 4, 5, 0] rfl)
noncomputable def f_X8_best_80 (F : Nat) (k_20 : St → Int32 → Int32 → Int32 → Int32 → Int32 → Option (Int32 × St)) (σ : St) (x1 : Int32) (x2 : Int32) (x5 : Int32) (x6 : Int32) : Option (Int32 × St) :=
  f_X8_best_87 F k_20 σ x1 x2 x5 x6 x5
set_option maxRecDepth 100000 in
set_option maxHeartbeats 4000000 in
theorem w_X8_best_80 {F : Nat} {r' : Int32} {σ' : St}  (C : Cx g p s m args meth c cX8_best 7 RX8) (hr : meth.sig.returnType = some .int)
    {k_20 : St → Int32 → Int32 → Int32 → Int32 → Int32 → Option (Int32 × St)} (hk_20 : (∀ (σ : St) (x1 : Int32) (x2 : Int32) (x3 : Int32) (x4 : Int32) (x5 : Int32), k_20 σ x1 x2 x3 x4 x5 = some (r', σ') → ∀ (H : Heap) (locs : List Loc) (ls : Array Slot), Dy g (wM g σ ++ X) s H locs → lv_has ls 7 [(0, .ref (ga g 40)), (1, .int x1), (2, .int x2), (3, .int x3), (4, .int x4), (5, .int x5)] → W p l e (rmD 6) s m args below meth c H locs 0 0 (QI g below args s (wM g σ' ++ X) r') (F0 m 20 ls []))) :
    (∀ (σ : St) (x1 : Int32) (x2 : Int32) (x5 : Int32) (x6 : Int32), f_X8_best_80 F k_20 σ x1 x2 x5 x6 = some (r', σ') → ∀ (H : Heap) (locs : List Loc) (ls : Array Slot), Dy g (wM g σ ++ X) s H locs → lv_has ls 7 [(0, .ref (ga g 40)), (1, .int x1), (2, .int x2), (5, .int x5), (6, .int x6)] → W p l e (rmD 6) s m args below meth c H locs 0 0 (QI g below args s (wM g σ' ++ X) r') (F0 m 80 ls [])) := by
  have hx := C.1
  have hb := C.2.1
  have hE := C.2.2.2.2.2.2.2.2
  intro σ x1 x2 x5 x6 h H locs ls hd hl
  rw [f_X8_best_80] at h
  refine lv_iload hx hb dX8_best_80 (lv_at hl 3 rfl) ?_
  refine lv_istore_n (lv' := [(3, .int x5), (0, .ref (ga g 40)), (1, .int x1), (2, .int x2), (5, .int x5), (6, .int x6)]) hx hb dX8_best_82 rfl hl (Nat.le_of_ble_eq_true rfl) rfl (fun ls hl => ?_)
  refine lv_iload hx hb dX8_best_83 (lv_at hl 5 rfl) ?_
  refine lv_istore (lv' := [(4, .int x6), (3, .int x5), (0, .ref (ga g 40)), (1, .int x1), (2, .int x2), (5, .int x5), (6, .int x6)]) hx hb dX8_best_85 hl (Nat.le_of_ble_eq_true rfl) rfl (fun ls hl => ?_)
  exact w_X8_best_87 C hr hk_20 σ x1 x2 x5 x6 x5 h _ _ _ hd (lv_sub hl [2, 3, 4, 1, 0, 5] rfl)
noncomputable def f_X8_best_64 (F : Nat) (k_20 : St → Int32 → Int32 → Int32 → Int32 → Int32 → Option (Int32 × St)) (σ : St) (x1 : Int32) (x2 : Int32) (x3 : Int32) (x4 : Int32) (x5 : Int32) (y0 : Int32) : Option (Int32 × St) :=
  if x3 < 0 then (f_X8_best_80 F k_20 σ x1 x2 x5 y0) else (if y0 ≤ x4 then (f_X8_best_80 F k_20 σ x1 x2 x5 y0) else (f_X8_best_87 F k_20 σ x1 x2 x3 x4 x5))
set_option maxRecDepth 100000 in
set_option maxHeartbeats 4000000 in
theorem w_X8_best_64 {F : Nat} {r' : Int32} {σ' : St}  (C : Cx g p s m args meth c cX8_best 7 RX8) (hr : meth.sig.returnType = some .int)
    {k_20 : St → Int32 → Int32 → Int32 → Int32 → Int32 → Option (Int32 × St)} (hk_20 : (∀ (σ : St) (x1 : Int32) (x2 : Int32) (x3 : Int32) (x4 : Int32) (x5 : Int32), k_20 σ x1 x2 x3 x4 x5 = some (r', σ') → ∀ (H : Heap) (locs : List Loc) (ls : Array Slot), Dy g (wM g σ ++ X) s H locs → lv_has ls 7 [(0, .ref (ga g 40)), (1, .int x1), (2, .int x2), (3, .int x3), (4, .int x4), (5, .int x5)] → W p l e (rmD 6) s m args below meth c H locs 0 0 (QI g below args s (wM g σ' ++ X) r') (F0 m 20 ls []))) :
    (∀ (σ : St) (x1 : Int32) (x2 : Int32) (x3 : Int32) (x4 : Int32) (x5 : Int32) (y0 : Int32), f_X8_best_64 F k_20 σ x1 x2 x3 x4 x5 y0 = some (r', σ') → ∀ (H : Heap) (locs : List Loc) (ls : Array Slot), Dy g (wM g σ ++ X) s H locs → lv_has ls 7 [(0, .ref (ga g 40)), (1, .int x1), (2, .int x2), (3, .int x3), (4, .int x4), (5, .int x5)] → W p l e (rmD 6) s m args below meth c H locs 0 0 (QI g below args s (wM g σ' ++ X) r') (F0 m 64 ls [.int y0])) := by
  have hx := C.1
  have hb := C.2.1
  have hE := C.2.2.2.2.2.2.2.2
  intro σ x1 x2 x3 x4 x5 y0 h H locs ls hd hl
  rw [f_X8_best_64] at h
  refine lv_istore (lv' := [(6, .int y0), (0, .ref (ga g 40)), (1, .int x1), (2, .int x2), (3, .int x3), (4, .int x4), (5, .int x5)]) hx hb dX8_best_64 hl (Nat.le_of_ble_eq_true rfl) rfl (fun ls hl => ?_)
  refine lv_iload_n hx hb dX8_best_66 rfl (lv_at hl 4 rfl) ?_
  refine lv_if_lt (tgt := 80) hx hb dX8_best_67 (by decide) (fun c1 => ?_) (fun c1 => ?_)
  · replace h := iteT c1 h
    exact w_X8_best_80 C hr hk_20 σ x1 x2 x5 y0 h _ _ _ hd (lv_sub hl [1, 2, 3, 6, 0] rfl)
  · replace h := iteF c1 h
    refine lv_iload hx hb dX8_best_70 (lv_at hl 0 rfl) ?_
    refine lv_iload hx hb dX8_best_72 (lv_at hl 5 rfl) ?_
    refine lv_icmp_le (tgt := 80) hx hb dX8_best_74 (by decide) (fun c2 => ?_) (fun c2 => ?_)
    · replace h := iteT c2 h
      exact w_X8_best_80 C hr hk_20 σ x1 x2 x5 y0 h _ _ _ hd (lv_sub hl [1, 2, 3, 6, 0] rfl)
    · replace h := iteF c2 h
      refine lv_goto (tgt := 87) hx hb dX8_best_77 (by decide) ?_
      exact w_X8_best_87 C hr hk_20 σ x1 x2 x3 x4 x5 h _ _ _ hd (lv_sub hl [1, 2, 3, 4, 5, 6] rfl)
noncomputable def f_X8_best_20 (F : Nat) : Nat → St → Int32 → Int32 → Int32 → Int32 → Int32 → Option (Int32 × St)
  | 0, _, _, _, _, _, _ => none
  | n + 1, σ, x1, x2, x3, x4, x5 => if (σ.2.1 19 5) ≤ x5 then (some (x3, σ)) else (cal2 (f_X8_comesOut_ F σ x5 x1 x2) (fun r2 t3 => if r2 = 0 then (if 0 ≤ (t3.1 15) then (f_X8_best_64 F (f_X8_best_20 F n) t3 x1 x2 x3 x4 x5 ((x2 - (t3.1 15)) + 1)) else (f_X8_best_64 F (f_X8_best_20 F n) t3 x1 x2 x3 x4 x5 0)) else (f_X8_best_87 F (f_X8_best_20 F n) t3 x1 x2 x3 x4 x5)))
set_option maxRecDepth 100000 in
set_option maxHeartbeats 4000000 in
theorem w_X8_best_20 {F : Nat} {r' : Int32} {σ' : St}  (C : Cx g p s m args meth c cX8_best 7 RX8) (hr : meth.sig.returnType = some .int) :
    (∀ (n : Nat) (σ : St) (x1 : Int32) (x2 : Int32) (x3 : Int32) (x4 : Int32) (x5 : Int32), f_X8_best_20 F n σ x1 x2 x3 x4 x5 = some (r', σ') → ∀ (H : Heap) (locs : List Loc) (ls : Array Slot), Dy g (wM g σ ++ X) s H locs → lv_has ls 7 [(0, .ref (ga g 40)), (1, .int x1), (2, .int x2), (3, .int x3), (4, .int x4), (5, .int x5)] → W p l e (rmD 6) s m args below meth c H locs 0 0 (QI g below args s (wM g σ' ++ X) r') (F0 m 20 ls [])) := by
  have hx := C.1
  have hb := C.2.1
  have hE := C.2.2.2.2.2.2.2.2
  intro n
  induction n with
  | zero =>
    intro σ x1 x2 x3 x4 x5 h
    cases h
  | succ n ih =>
    intro σ x1 x2 x3 x4 x5 h H locs ls hd hl
    rw [f_X8_best_20] at h
    refine lv_iload hx hb dX8_best_20 (lv_at hl 5 rfl) ?_
    refine lv_aload_n hx hb dX8_best_22 rfl (lv_at hl 0 rfl) ?_
    refine gX8_73 C hd dX8_best_23 ?_
    refine lv_iconst (v := 5) hx hb dX8_best_26 ic_5 ?_
    refine ldc_wM_19 C hd cl_5 (inb_i (by decide +kernel)) dX8_best_27 ?_
    refine lv_icmp_ge (tgt := 93) hx hb dX8_best_28 (by decide) (fun c1 => ?_) (fun c1 => ?_)
    · replace h := iteT c1 h
      refine lv_iload_n hx hb dX8_best_93 rfl (lv_at hl 3 rfl) ?_
      exact rIretS (w := wM g) C hr hd h dX8_best_94
    · replace h := iteF c1 h
      refine lv_aload_n hx hb dX8_best_31 rfl (lv_at hl 0 rfl) ?_
      refine lv_iload hx hb dX8_best_32 (lv_at hl 5 rfl) ?_
      refine lv_iload_n hx hb dX8_best_34 rfl (lv_at hl 1 rfl) ?_
      refine lv_iload_n hx hb dX8_best_35 rfl (lv_at hl 2 rfl) ?_
      obtain ⟨r2, t3, et3, h⟩ := cal2_e h
      refine rCallI C hd (c_X8_comesOut_ hE et3) kX8_350 0 rfl rfl rfl rfl hl.1 rfl (Nat.le_of_ble_eq_true rfl) ⟨(Nat.le_of_ble_eq_true rfl), (Nat.le_of_ble_eq_true rfl)⟩ ⟨Nat.le_refl _, Nat.le_refl _⟩ dX8_best_36 (fun H locs hd => ?_)
      refine lv_if_eq (tgt := 45) hx hb dX8_best_39 (by decide) (fun c4 => ?_) (fun c4 => ?_)
      · replace h := iteT c4 h
        refine lv_aload_n hx hb dX8_best_45 rfl (lv_at hl 0 rfl) ?_
        refine gX8_319 C hd dX8_best_46 ?_
        refine lv_if_ge (tgt := 56) hx hb dX8_best_49 (by decide) (fun c5 => ?_) (fun c5 => ?_)
        · replace h := iteT c5 h
          refine lv_iload_n hx hb dX8_best_56 rfl (lv_at hl 2 rfl) ?_
          refine lv_aload_n hx hb dX8_best_57 rfl (lv_at hl 0 rfl) ?_
          refine gX8_319 C hd dX8_best_58 ?_
          refine lv_isub hx hb dX8_best_61 ?_
          refine lv_iconst (v := 1) hx hb dX8_best_62 ic_1 ?_
          refine lv_iadd hx hb dX8_best_63 ?_
          exact w_X8_best_64 C hr ih t3 x1 x2 x3 x4 x5 ((x2 - (t3.1 15)) + 1) h _ _ _ hd (lv_sub hl [0, 1, 2, 3, 4, 5] rfl)
        · replace h := iteF c5 h
          refine lv_iconst (v := 0) hx hb dX8_best_52 ic_0 ?_
          refine lv_goto (tgt := 64) hx hb dX8_best_53 (by decide) ?_
          exact w_X8_best_64 C hr ih t3 x1 x2 x3 x4 x5 0 h _ _ _ hd (lv_sub hl [0, 1, 2, 3, 4, 5] rfl)
      · replace h := iteF c4 h
        refine lv_goto (tgt := 87) hx hb dX8_best_42 (by decide) ?_
        exact w_X8_best_87 C hr ih t3 x1 x2 x3 x4 x5 h _ _ _ hd (lv_sub hl [0, 1, 2, 3, 4, 5] rfl)
noncomputable def f_X8_best (F : Nat) (σ : St) (x1 : Int32) (x2 : Int32) : Option (Int32 × St) :=
  cal (f_X8_isAt F σ x1 x2) (fun r1 => if r1 = 0 then (some ((-1 : Int32), σ)) else (f_X8_best_20 F F σ x1 x2 (-2 : Int32) 0 0))
set_option maxRecDepth 100000 in
set_option maxHeartbeats 4000000 in
theorem c_X8_best {l : Launch} {g : Gp} {X : va_W} (hE : E0 g) {F : Nat} {r' : Int32} {σ' : St} {σ : St} {x1 : Int32} {x2 : Int32} (h : f_X8_best F σ x1 x2 = some (r', σ')) : Ci l g yX8_best cX8_best 7 (some .int) 6 [.ref (ga g 40), .int x1, .int x2] (wM g σ ++ X) r' (wM g σ' ++ X) := by
  refine rHead hE (by decide +kernel) (Nat.le_of_ble_eq_true rfl) (fun p e s m below meth c C hr _ hd ls hl => ?_)
  have hx := C.1
  have hb := C.2.1
  have hl : lv_has ls 7 [(0, .ref (ga g 40)), (1, .int x1), (2, .int x2)] := hl
  generalize ([.ref (ga g 40), .int x1, .int x2] : List Value).toArray = args at C ⊢
  have C : Cx g p s m args meth c cX8_best 7 RX8 := C
  rw [f_X8_best] at h
  refine lv_aload_n hx hb dX8_best_0 rfl (lv_at hl 0 rfl) ?_
  refine lv_iload_n hx hb dX8_best_1 rfl (lv_at hl 1 rfl) ?_
  refine lv_iload_n hx hb dX8_best_2 rfl (lv_at hl 2 rfl) ?_
  obtain ⟨r1, er1, h⟩ := cal_e h
  refine rCallI C hd (c_X8_isAt hE er1) kX8_304 0 rfl rfl rfl rfl hl.1 rfl (Nat.le_of_ble_eq_true rfl) ⟨(Nat.le_of_ble_eq_true rfl), (Nat.le_of_ble_eq_true rfl)⟩ ⟨Nat.le_refl _, Nat.le_refl _⟩ dX8_best_3 (fun H locs hd => ?_)
  refine lv_if_ne (tgt := 11) hx hb dX8_best_6 (by decide) (fun c2 => ?_) (fun c2 => ?_)
  · replace h := iteF c2 h
    refine lv_bipush (v := (-2 : Int32)) hx hb dX8_best_11 bi_m2 ?_
    refine lv_istore_n (lv' := [(3, .int (-2 : Int32)), (0, .ref (ga g 40)), (1, .int x1), (2, .int x2)]) hx hb dX8_best_13 rfl hl (Nat.le_of_ble_eq_true rfl) rfl (fun ls hl => ?_)
    refine lv_iconst (v := 0) hx hb dX8_best_14 ic_0 ?_
    refine lv_istore (lv' := [(4, .int 0), (3, .int (-2 : Int32)), (0, .ref (ga g 40)), (1, .int x1), (2, .int x2)]) hx hb dX8_best_15 hl (Nat.le_of_ble_eq_true rfl) rfl (fun ls hl => ?_)
    refine lv_iconst (v := 0) hx hb dX8_best_17 ic_0 ?_
    refine lv_istore (lv' := [(5, .int 0), (4, .int 0), (3, .int (-2 : Int32)), (0, .ref (ga g 40)), (1, .int x1), (2, .int x2)]) hx hb dX8_best_18 hl (Nat.le_of_ble_eq_true rfl) rfl (fun ls hl => ?_)
    exact w_X8_best_20 C hr _ σ x1 x2 (-2 : Int32) 0 0 h _ _ _ hd (lv_sub hl [3, 4, 5, 2, 1, 0] rfl)
  · replace h := iteT c2 h
    refine lv_iconst (v := (-1 : Int32)) hx hb dX8_best_9 ic_m1 ?_
    exact rIretS (w := wM g) C hr hd h dX8_best_10
noncomputable def f_X8_is (F : Nat) (σ : St) (x1 : Int32) : Option Int32 :=
  if (σ.1 6) = 0 then (if inb (σ.1 4) 403 = true then if (σ.2.1 3 (σ.1 4).toNatClampNeg) = x1 then (some 1) else (some 0) else none) else (some 0)
set_option maxRecDepth 100000 in
set_option maxHeartbeats 4000000 in
theorem c_X8_is {l : Launch} {g : Gp} {X : va_W} (hE : E0 g) {F : Nat} {r' : Int32} {σ : St} {x1 : Int32} (h : f_X8_is F σ x1 = some r') : Ci l g yX8_is cX8_is 2 (some .boolean) 0 [.ref (ga g 40), .int x1] (wM g σ ++ X) r' (wM g σ ++ X) := by
  refine rHead hE (by decide +kernel) (Nat.le_of_ble_eq_true rfl) (fun p e s m below meth c C hr _ hd ls hl => ?_)
  have hx := C.1
  have hb := C.2.1
  have hl : lv_has ls 2 [(0, .ref (ga g 40)), (1, .int x1)] := hl
  generalize ([.ref (ga g 40), .int x1] : List Value).toArray = args at C ⊢
  have C : Cx g p s m args meth c cX8_is 2 RX8 := C
  rw [f_X8_is] at h
  refine lv_aload_n hx hb dX8_is_0 rfl (lv_at hl 0 rfl) ?_
  refine gX8_135 C hd dX8_is_1 ?_
  refine lv_if_ne (tgt := 24) hx hb dX8_is_4 (by decide) (fun c1 => ?_) (fun c1 => ?_)
  · replace h := iteF c1 h
    refine lv_iconst (v := 0) hx hb dX8_is_24 ic_0 ?_
    exact rZretP C hr hd h (by decide) dX8_is_25
  · replace h := iteT c1 h
    refine lv_aload_n hx hb dX8_is_7 rfl (lv_at hl 0 rfl) ?_
    refine gX8_20 C hd dX8_is_8 ?_
    refine lv_aload_n hx hb dX8_is_11 rfl (lv_at hl 0 rfl) ?_
    refine gX8_138 C hd dX8_is_12 ?_
    obtain ⟨n2, h⟩ := chk h
    refine ld_wM_3 C hd (inb_i n2) dX8_is_15 ?_
    refine lv_iload_n hx hb dX8_is_16 rfl (lv_at hl 1 rfl) ?_
    refine lv_icmp_ne (tgt := 24) hx hb dX8_is_17 (by decide) (fun c3 => ?_) (fun c3 => ?_)
    · replace h := iteF c3 h
      refine lv_iconst (v := 0) hx hb dX8_is_24 ic_0 ?_
      exact rZretP C hr hd h (by decide) dX8_is_25
    · replace h := iteT c3 h
      refine lv_iconst (v := 1) hx hb dX8_is_20 ic_1 ?_
      refine lv_goto (tgt := 25) hx hb dX8_is_21 (by decide) ?_
      exact rZretP C hr hd h (by decide) dX8_is_25
noncomputable def f_X8_fail (F : Nat) (σ : St) (x1 : Int32) : Option St :=
  if (σ.1 6) ≤ 0 then (bnd (ss σ 6 x1) (fun t2 => if inb (t2.1 4) 403 = true then bnd (ss t2 7 (t2.2.1 4 (t2.1 4).toNatClampNeg)) (fun t4 => some t4) else none)) else (some σ)
set_option maxRecDepth 100000 in
set_option maxHeartbeats 4000000 in
theorem c_X8_fail {l : Launch} {g : Gp} {X : va_W} (hE : E0 g) {F : Nat} {σ' : St} {σ : St} {x1 : Int32} (h : f_X8_fail F σ x1 = some σ') : Cv l g yX8_fail cX8_fail 2 0 [.ref (ga g 40), .int x1] (wM g σ ++ X) (wM g σ' ++ X) := by
  refine rHead hE (by decide +kernel) (Nat.le_of_ble_eq_true rfl) (fun p e s m below meth c C hr _ hd ls hl => ?_)
  have hx := C.1
  have hb := C.2.1
  have hl : lv_has ls 2 [(0, .ref (ga g 40)), (1, .int x1)] := hl
  generalize ([.ref (ga g 40), .int x1] : List Value).toArray = args at C ⊢
  have C : Cx g p s m args meth c cX8_fail 2 RX8 := C
  rw [f_X8_fail] at h
  refine lv_aload_n hx hb dX8_fail_0 rfl (lv_at hl 0 rfl) ?_
  refine gX8_135 C hd dX8_fail_1 ?_
  refine lv_if_le (tgt := 8) hx hb dX8_fail_4 (by decide) (fun c1 => ?_) (fun c1 => ?_)
  · replace h := iteT c1 h
    refine lv_aload_n hx hb dX8_fail_8 rfl (lv_at hl 0 rfl) ?_
    refine lv_iload_n hx hb dX8_fail_9 rfl (lv_at hl 1 rfl) ?_
    obtain ⟨t2, et2, h⟩ := bnd_e h
    refine pX8_135 C hd et2 dX8_fail_10 (fun H locs hd => ?_)
    refine lv_aload_n hx hb dX8_fail_13 rfl (lv_at hl 0 rfl) ?_
    refine lv_aload_n hx hb dX8_fail_14 rfl (lv_at hl 0 rfl) ?_
    refine gX8_24 C hd dX8_fail_15 ?_
    refine lv_aload_n hx hb dX8_fail_18 rfl (lv_at hl 0 rfl) ?_
    refine gX8_138 C hd dX8_fail_19 ?_
    obtain ⟨n3, h⟩ := chk h
    refine ld_wM_4 C hd (inb_i n3) dX8_fail_22 ?_
    obtain ⟨t4, et4, h⟩ := bnd_e h
    refine pX8_141 C hd et4 dX8_fail_23 (fun H locs hd => ?_)
    exact rVretS (w := wM g) C hr hd h dX8_fail_26
  · replace h := iteF c1 h
    exact rVretS (w := wM g) C hr hd h dX8_fail_7
noncomputable def f_X8_wrong (F : Nat) (σ : St) (x1 : Int32) (x2 : Int32) : Option St :=
  if inb x2 403 = true then bnd (σ.2.1 4 x2.toNatClampNeg) (fun v2 => if 0 < (σ.1 6) then (some σ) else (if (σ.1 8) = 0 then (bnd (ss σ 8 x1) (fun t5 => bnd (ss t5 9 v2) (fun t6 => some t6))) else (if (σ.1 9) < v2 then (some σ) else (if v2 = (σ.1 9) then (if x1 < (σ.1 8) then (bnd (ss σ 8 x1) (fun t12 => bnd (ss t12 9 v2) (fun t13 => some t13))) else (some σ)) else (bnd (ss σ 8 x1) (fun t9 => bnd (ss t9 9 v2) (fun t10 => some t10))))))) else none
set_option maxRecDepth 100000 in
set_option maxHeartbeats 4000000 in
theorem c_X8_wrong {l : Launch} {g : Gp} {X : va_W} (hE : E0 g) {F : Nat} {σ' : St} {σ : St} {x1 : Int32} {x2 : Int32} (h : f_X8_wrong F σ x1 x2 = some σ') : Cv l g yX8_wrong cX8_wrong 4 0 [.ref (ga g 40), .int x1, .int x2] (wM g σ ++ X) (wM g σ' ++ X) := by
  refine rHead hE (by decide +kernel) (Nat.le_of_ble_eq_true rfl) (fun p e s m below meth c C hr _ hd ls hl => ?_)
  have hx := C.1
  have hb := C.2.1
  have hl : lv_has ls 4 [(0, .ref (ga g 40)), (1, .int x1), (2, .int x2)] := hl
  generalize ([.ref (ga g 40), .int x1, .int x2] : List Value).toArray = args at C ⊢
  have C : Cx g p s m args meth c cX8_wrong 4 RX8 := C
  rw [f_X8_wrong] at h
  refine lv_aload_n hx hb dX8_wrong_0 rfl (lv_at hl 0 rfl) ?_
  refine gX8_24 C hd dX8_wrong_1 ?_
  refine lv_iload_n hx hb dX8_wrong_4 rfl (lv_at hl 2 rfl) ?_
  obtain ⟨n1, h⟩ := chk h
  refine ld_wM_4 C hd (inb_i n1) dX8_wrong_5 ?_
  obtain ⟨v2, ev2, h⟩ := bnd_e h
  refine rTop ev2 ?_
  refine lv_istore_n (lv' := [(3, .int v2), (0, .ref (ga g 40)), (1, .int x1), (2, .int x2)]) hx hb dX8_wrong_6 rfl hl (Nat.le_of_ble_eq_true rfl) rfl (fun ls hl => ?_)
  refine lv_aload_n hx hb dX8_wrong_7 rfl (lv_at hl 1 rfl) ?_
  refine gX8_135 C hd dX8_wrong_8 ?_
  refine lv_if_gt (tgt := 45) hx hb dX8_wrong_11 (by decide) (fun c3 => ?_) (fun c3 => ?_)
  · replace h := iteT c3 h
    exact rVretS (w := wM g) C hr hd h dX8_wrong_45
  · replace h := iteF c3 h
    refine lv_aload_n hx hb dX8_wrong_14 rfl (lv_at hl 1 rfl) ?_
    refine gX8_144 C hd dX8_wrong_15 ?_
    refine lv_if_eq (tgt := 46) hx hb dX8_wrong_18 (by decide) (fun c4 => ?_) (fun c4 => ?_)
    · replace h := iteT c4 h
      refine lv_aload_n hx hb dX8_wrong_46 rfl (lv_at hl 1 rfl) ?_
      refine lv_iload_n hx hb dX8_wrong_47 rfl (lv_at hl 2 rfl) ?_
      obtain ⟨t5, et5, h⟩ := bnd_e h
      refine pX8_144 C hd et5 dX8_wrong_48 (fun H locs hd => ?_)
      refine lv_aload_n hx hb dX8_wrong_51 rfl (lv_at hl 1 rfl) ?_
      refine lv_iload_n hx hb dX8_wrong_52 rfl (lv_at hl 0 rfl) ?_
      obtain ⟨t6, et6, h⟩ := bnd_e h
      refine pX8_147 C hd et6 dX8_wrong_53 (fun H locs hd => ?_)
      exact rVretS (w := wM g) C hr hd h dX8_wrong_56
    · replace h := iteF c4 h
      refine lv_iload_n hx hb dX8_wrong_21 rfl (lv_at hl 0 rfl) ?_
      refine lv_aload_n hx hb dX8_wrong_22 rfl (lv_at hl 1 rfl) ?_
      refine gX8_147 C hd dX8_wrong_23 ?_
      refine lv_icmp_gt (tgt := 45) hx hb dX8_wrong_26 (by decide) (fun c7 => ?_) (fun c7 => ?_)
      · replace h := iteT c7 h
        exact rVretS (w := wM g) C hr hd h dX8_wrong_45
      · replace h := iteF c7 h
        refine lv_iload_n hx hb dX8_wrong_29 rfl (lv_at hl 0 rfl) ?_
        refine lv_aload_n hx hb dX8_wrong_30 rfl (lv_at hl 1 rfl) ?_
        refine gX8_147 C hd dX8_wrong_31 ?_
        refine lv_icmp_ne (tgt := 46) hx hb dX8_wrong_34 (by decide) (fun c8 => ?_) (fun c8 => ?_)
        · replace h := iteF c8 h
          refine lv_aload_n hx hb dX8_wrong_46 rfl (lv_at hl 1 rfl) ?_
          refine lv_iload_n hx hb dX8_wrong_47 rfl (lv_at hl 2 rfl) ?_
          obtain ⟨t9, et9, h⟩ := bnd_e h
          refine pX8_144 C hd et9 dX8_wrong_48 (fun H locs hd => ?_)
          refine lv_aload_n hx hb dX8_wrong_51 rfl (lv_at hl 1 rfl) ?_
          refine lv_iload_n hx hb dX8_wrong_52 rfl (lv_at hl 0 rfl) ?_
          obtain ⟨t10, et10, h⟩ := bnd_e h
          refine pX8_147 C hd et10 dX8_wrong_53 (fun H locs hd => ?_)
          exact rVretS (w := wM g) C hr hd h dX8_wrong_56
        · replace h := iteT c8 h
          refine lv_iload_n hx hb dX8_wrong_37 rfl (lv_at hl 2 rfl) ?_
          refine lv_aload_n hx hb dX8_wrong_38 rfl (lv_at hl 1 rfl) ?_
          refine gX8_144 C hd dX8_wrong_39 ?_
          refine lv_icmp_lt (tgt := 46) hx hb dX8_wrong_42 (by decide) (fun c11 => ?_) (fun c11 => ?_)
          · replace h := iteT c11 h
            refine lv_aload_n hx hb dX8_wrong_46 rfl (lv_at hl 1 rfl) ?_
            refine lv_iload_n hx hb dX8_wrong_47 rfl (lv_at hl 2 rfl) ?_
            obtain ⟨t12, et12, h⟩ := bnd_e h
            refine pX8_144 C hd et12 dX8_wrong_48 (fun H locs hd => ?_)
            refine lv_aload_n hx hb dX8_wrong_51 rfl (lv_at hl 1 rfl) ?_
            refine lv_iload_n hx hb dX8_wrong_52 rfl (lv_at hl 0 rfl) ?_
            obtain ⟨t13, et13, h⟩ := bnd_e h
            refine pX8_147 C hd et13 dX8_wrong_53 (fun H locs hd => ?_)
            exact rVretS (w := wM g) C hr hd h dX8_wrong_56
          · replace h := iteF c11 h
            exact rVretS (w := wM g) C hr hd h dX8_wrong_45
noncomputable def f_X8_goesOn (F : Nat) (σ : St) : Option St :=
  if (σ.1 4) = 400 then (cal (f_X8_fail F σ 2) (fun t3 => some t3)) else (bnd (ss σ 4 ((σ.1 4) + 1)) (fun t2 => some t2))
set_option maxRecDepth 100000 in
set_option maxHeartbeats 4000000 in
theorem c_X8_goesOn {l : Launch} {g : Gp} {X : va_W} (hE : E0 g) {F : Nat} {σ' : St} {σ : St} (h : f_X8_goesOn F σ = some σ') : Cv l g yX8_goesOn cX8_goesOn 1 1 [.ref (ga g 40)] (wM g σ ++ X) (wM g σ' ++ X) := by
  refine rHead hE (by decide +kernel) (Nat.le_of_ble_eq_true rfl) (fun p e s m below meth c C hr _ hd ls hl => ?_)
  have hx := C.1
  have hb := C.2.1
  have hl : lv_has ls 1 [(0, .ref (ga g 40))] := hl
  generalize ([.ref (ga g 40)] : List Value).toArray = args at C ⊢
  have C : Cx g p s m args meth c cX8_goesOn 1 RX8 := C
  rw [f_X8_goesOn] at h
  refine lv_aload_n hx hb dX8_goesOn_0 rfl (lv_at hl 0 rfl) ?_
  refine gX8_138 C hd dX8_goesOn_1 ?_
  refine lv_sipush (v := 400) hx hb dX8_goesOn_4 si_400 ?_
  refine lv_icmp_ne (tgt := 18) hx hb dX8_goesOn_7 (by decide) (fun c1 => ?_) (fun c1 => ?_)
  · replace h := iteF c1 h
    refine lv_aload_n hx hb dX8_goesOn_18 rfl (lv_at hl 0 rfl) ?_
    refine lv_dup hx hb dX8_goesOn_19 rfl ?_
    refine gX8_138 C hd dX8_goesOn_20 ?_
    refine lv_iconst (v := 1) hx hb dX8_goesOn_23 ic_1 ?_
    refine lv_iadd hx hb dX8_goesOn_24 ?_
    obtain ⟨t2, et2, h⟩ := bnd_e h
    refine pX8_138 C hd et2 dX8_goesOn_25 (fun H locs hd => ?_)
    exact rVretS (w := wM g) C hr hd h dX8_goesOn_28
  · replace h := iteT c1 h
    refine lv_aload_n hx hb dX8_goesOn_10 rfl (lv_at hl 0 rfl) ?_
    refine lv_iconst (v := 2) hx hb dX8_goesOn_11 ic_2 ?_
    obtain ⟨t3, et3, h⟩ := cal_e h
    refine rCallV C hd (c_X8_fail hE et3) kX8_150 0 rfl rfl rfl rfl hl.1 rfl (Nat.le_of_ble_eq_true rfl) ⟨(Nat.le_of_ble_eq_true rfl), (Nat.le_of_ble_eq_true rfl)⟩ ⟨Nat.le_refl _, Nat.le_refl _⟩ dX8_goesOn_12 (fun H locs hd => ?_)
    refine lv_goto (tgt := 28) hx hb dX8_goesOn_15 (by decide) ?_
    exact rVretS (w := wM g) C hr hd h dX8_goesOn_28
noncomputable def f_X8_bounded (F : Nat) (σ : St) (x1 : Int32) (x2 : Int32) : Option (Int32 × St) :=
  if 0 < (σ.1 6) then (cal (f_X8_fail F σ 1) (fun t2 => some (x1, t2))) else (cal (f_X8_is F σ 2) (fun r3 => if r3 = 0 then (cal (f_X8_fail F σ 1) (fun t14 => some (x1, t14))) else (if inb (σ.1 4) 403 = true then bnd (σ.2.1 5 (σ.1 4).toNatClampNeg) (fun v6 => if v6 < x1 then (cal (f_X8_wrong F σ 5 (σ.1 4)) (fun t8 => cal (f_X8_goesOn F t8) (fun t9 => some (v6, t9)))) else (if v6 ≤ x2 then (cal (f_X8_goesOn F σ) (fun t11 => some (v6, t11))) else (cal (f_X8_wrong F σ 5 (σ.1 4)) (fun t12 => cal (f_X8_goesOn F t12) (fun t13 => some (v6, t13)))))) else none)))
set_option maxRecDepth 100000 in
set_option maxHeartbeats 4000000 in
theorem c_X8_bounded {l : Launch} {g : Gp} {X : va_W} (hE : E0 g) {F : Nat} {r' : Int32} {σ' : St} {σ : St} {x1 : Int32} {x2 : Int32} (h : f_X8_bounded F σ x1 x2 = some (r', σ')) : Ci l g yX8_bounded cX8_bounded 4 (some .int) 2 [.ref (ga g 40), .int x1, .int x2] (wM g σ ++ X) r' (wM g σ' ++ X) := by
  refine rHead hE (by decide +kernel) (Nat.le_of_ble_eq_true rfl) (fun p e s m below meth c C hr _ hd ls hl => ?_)
  have hx := C.1
  have hb := C.2.1
  have hl : lv_has ls 4 [(0, .ref (ga g 40)), (1, .int x1), (2, .int x2)] := hl
  generalize ([.ref (ga g 40), .int x1, .int x2] : List Value).toArray = args at C ⊢
  have C : Cx g p s m args meth c cX8_bounded 4 RX8 := C
  rw [f_X8_bounded] at h
  refine lv_aload_n hx hb dX8_bounded_0 rfl (lv_at hl 0 rfl) ?_
  refine gX8_135 C hd dX8_bounded_1 ?_
  refine lv_if_gt (tgt := 15) hx hb dX8_bounded_4 (by decide) (fun c1 => ?_) (fun c1 => ?_)
  · replace h := iteT c1 h
    refine lv_aload_n hx hb dX8_bounded_15 rfl (lv_at hl 0 rfl) ?_
    refine lv_iconst (v := 1) hx hb dX8_bounded_16 ic_1 ?_
    obtain ⟨t2, et2, h⟩ := cal_e h
    refine rCallV C hd (c_X8_fail hE et2) kX8_150 0 rfl rfl rfl rfl hl.1 rfl (Nat.le_of_ble_eq_true rfl) ⟨(Nat.le_of_ble_eq_true rfl), (Nat.le_of_ble_eq_true rfl)⟩ ⟨Nat.le_refl _, Nat.le_refl _⟩ dX8_bounded_17 (fun H locs hd => ?_)
    refine lv_iload_n hx hb dX8_bounded_20 rfl (lv_at hl 1 rfl) ?_
    exact rIretS (w := wM g) C hr hd h dX8_bounded_21
  · replace h := iteF c1 h
    refine lv_aload_n hx hb dX8_bounded_7 rfl (lv_at hl 0 rfl) ?_
    refine lv_iconst (v := 2) hx hb dX8_bounded_8 ic_2 ?_
    obtain ⟨r3, er3, h⟩ := cal_e h
    refine rCallI C hd (c_X8_is hE er3) kX8_153 0 rfl rfl rfl rfl hl.1 rfl (Nat.le_of_ble_eq_true rfl) ⟨(Nat.le_of_ble_eq_true rfl), (Nat.le_of_ble_eq_true rfl)⟩ ⟨Nat.le_refl _, Nat.le_refl _⟩ dX8_bounded_9 (fun H locs hd => ?_)
    refine lv_if_ne (tgt := 22) hx hb dX8_bounded_12 (by decide) (fun c4 => ?_) (fun c4 => ?_)
    · replace h := iteF c4 h
      refine lv_aload_n hx hb dX8_bounded_22 rfl (lv_at hl 0 rfl) ?_
      refine gX8_27 C hd dX8_bounded_23 ?_
      refine lv_aload_n hx hb dX8_bounded_26 rfl (lv_at hl 0 rfl) ?_
      refine gX8_138 C hd dX8_bounded_27 ?_
      obtain ⟨n5, h⟩ := chk h
      refine ld_wM_5 C hd (inb_i n5) dX8_bounded_30 ?_
      obtain ⟨v6, ev6, h⟩ := bnd_e h
      refine rTop ev6 ?_
      refine lv_istore_n (lv' := [(3, .int v6), (0, .ref (ga g 40)), (1, .int x1), (2, .int x2)]) hx hb dX8_bounded_31 rfl hl (Nat.le_of_ble_eq_true rfl) rfl (fun ls hl => ?_)
      refine lv_iload_n hx hb dX8_bounded_32 rfl (lv_at hl 0 rfl) ?_
      refine lv_iload_n hx hb dX8_bounded_33 rfl (lv_at hl 2 rfl) ?_
      refine lv_icmp_lt (tgt := 42) hx hb dX8_bounded_34 (by decide) (fun c7 => ?_) (fun c7 => ?_)
      · replace h := iteT c7 h
        refine lv_aload_n hx hb dX8_bounded_42 rfl (lv_at hl 1 rfl) ?_
        refine lv_iconst (v := 5) hx hb dX8_bounded_43 ic_5 ?_
        refine lv_aload_n hx hb dX8_bounded_44 rfl (lv_at hl 1 rfl) ?_
        refine gX8_138 C hd dX8_bounded_45 ?_
        obtain ⟨t8, et8, h⟩ := cal_e h
        refine rCallV C hd (c_X8_wrong hE et8) kX8_184 0 rfl rfl rfl rfl hl.1 rfl (Nat.le_of_ble_eq_true rfl) ⟨(Nat.le_of_ble_eq_true rfl), (Nat.le_of_ble_eq_true rfl)⟩ ⟨Nat.le_refl _, Nat.le_refl _⟩ dX8_bounded_48 (fun H locs hd => ?_)
        refine lv_aload_n hx hb dX8_bounded_51 rfl (lv_at hl 1 rfl) ?_
        obtain ⟨t9, et9, h⟩ := cal_e h
        refine rCallV C hd (c_X8_goesOn hE et9) kX8_156 0 rfl rfl rfl rfl hl.1 rfl (Nat.le_of_ble_eq_true rfl) ⟨(Nat.le_of_ble_eq_true rfl), (Nat.le_of_ble_eq_true rfl)⟩ ⟨Nat.le_refl _, Nat.le_refl _⟩ dX8_bounded_52 (fun H locs hd => ?_)
        refine lv_iload_n hx hb dX8_bounded_55 rfl (lv_at hl 0 rfl) ?_
        exact rIretS (w := wM g) C hr hd h dX8_bounded_56
      · replace h := iteF c7 h
        refine lv_iload_n hx hb dX8_bounded_37 rfl (lv_at hl 0 rfl) ?_
        refine lv_iload_n hx hb dX8_bounded_38 rfl (lv_at hl 3 rfl) ?_
        refine lv_icmp_le (tgt := 51) hx hb dX8_bounded_39 (by decide) (fun c10 => ?_) (fun c10 => ?_)
        · replace h := iteT c10 h
          refine lv_aload_n hx hb dX8_bounded_51 rfl (lv_at hl 1 rfl) ?_
          obtain ⟨t11, et11, h⟩ := cal_e h
          refine rCallV C hd (c_X8_goesOn hE et11) kX8_156 0 rfl rfl rfl rfl hl.1 rfl (Nat.le_of_ble_eq_true rfl) ⟨(Nat.le_of_ble_eq_true rfl), (Nat.le_of_ble_eq_true rfl)⟩ ⟨Nat.le_refl _, Nat.le_refl _⟩ dX8_bounded_52 (fun H locs hd => ?_)
          refine lv_iload_n hx hb dX8_bounded_55 rfl (lv_at hl 0 rfl) ?_
          exact rIretS (w := wM g) C hr hd h dX8_bounded_56
        · replace h := iteF c10 h
          refine lv_aload_n hx hb dX8_bounded_42 rfl (lv_at hl 1 rfl) ?_
          refine lv_iconst (v := 5) hx hb dX8_bounded_43 ic_5 ?_
          refine lv_aload_n hx hb dX8_bounded_44 rfl (lv_at hl 1 rfl) ?_
          refine gX8_138 C hd dX8_bounded_45 ?_
          obtain ⟨t12, et12, h⟩ := cal_e h
          refine rCallV C hd (c_X8_wrong hE et12) kX8_184 0 rfl rfl rfl rfl hl.1 rfl (Nat.le_of_ble_eq_true rfl) ⟨(Nat.le_of_ble_eq_true rfl), (Nat.le_of_ble_eq_true rfl)⟩ ⟨Nat.le_refl _, Nat.le_refl _⟩ dX8_bounded_48 (fun H locs hd => ?_)
          refine lv_aload_n hx hb dX8_bounded_51 rfl (lv_at hl 1 rfl) ?_
          obtain ⟨t13, et13, h⟩ := cal_e h
          refine rCallV C hd (c_X8_goesOn hE et13) kX8_156 0 rfl rfl rfl rfl hl.1 rfl (Nat.le_of_ble_eq_true rfl) ⟨(Nat.le_of_ble_eq_true rfl), (Nat.le_of_ble_eq_true rfl)⟩ ⟨Nat.le_refl _, Nat.le_refl _⟩ dX8_bounded_52 (fun H locs hd => ?_)
          refine lv_iload_n hx hb dX8_bounded_55 rfl (lv_at hl 0 rfl) ?_
          exact rIretS (w := wM g) C hr hd h dX8_bounded_56
    · replace h := iteT c4 h
      refine lv_aload_n hx hb dX8_bounded_15 rfl (lv_at hl 0 rfl) ?_
      refine lv_iconst (v := 1) hx hb dX8_bounded_16 ic_1 ?_
      obtain ⟨t14, et14, h⟩ := cal_e h
      refine rCallV C hd (c_X8_fail hE et14) kX8_150 0 rfl rfl rfl rfl hl.1 rfl (Nat.le_of_ble_eq_true rfl) ⟨(Nat.le_of_ble_eq_true rfl), (Nat.le_of_ble_eq_true rfl)⟩ ⟨Nat.le_refl _, Nat.le_refl _⟩ dX8_bounded_17 (fun H locs hd => ?_)
      refine lv_iload_n hx hb dX8_bounded_20 rfl (lv_at hl 1 rfl) ?_
      exact rIretS (w := wM g) C hr hd h dX8_bounded_21
noncomputable def f_X8_busiest_116 (F : Nat) (k_86 : St → Int32 → Int32 → Int32 → Option (Int32 × St)) (σ : St) (x2 : Int32) (x3 : Int32) (x4 : Int32) : Option (Int32 × St) :=
  bnd (x4 + 1) (fun v1 => k_86 σ x2 x3 v1)
set_option maxRecDepth 100000 in
set_option maxHeartbeats 4000000 in
theorem w_X8_busiest_116 {F : Nat} {r' : Int32} {σ' : St}  (C : Cx g p s m args meth c cX8_busiest 5 RX8) (hr : meth.sig.returnType = some .int)
    {k_86 : St → Int32 → Int32 → Int32 → Option (Int32 × St)} (hk_86 : (∀ (σ : St) (x2 : Int32) (x3 : Int32) (x4 : Int32), k_86 σ x2 x3 x4 = some (r', σ') → ∀ (H : Heap) (locs : List Loc) (ls : Array Slot), Dy g (wM g σ ++ X) s H locs → lv_has ls 5 [(0, .ref (ga g 40)), (2, .int x2), (3, .int x3), (4, .int x4)] → W p l e (rmD 4) s m args below meth c H locs 0 0 (QI g below args s (wM g σ' ++ X) r') (F0 m 86 ls []))) :
    (∀ (σ : St) (x2 : Int32) (x3 : Int32) (x4 : Int32), f_X8_busiest_116 F k_86 σ x2 x3 x4 = some (r', σ') → ∀ (H : Heap) (locs : List Loc) (ls : Array Slot), Dy g (wM g σ ++ X) s H locs → lv_has ls 5 [(0, .ref (ga g 40)), (2, .int x2), (3, .int x3), (4, .int x4)] → W p l e (rmD 4) s m args below meth c H locs 0 0 (QI g below args s (wM g σ' ++ X) r') (F0 m 116 ls [])) := by
  have hx := C.1
  have hb := C.2.1
  have hE := C.2.2.2.2.2.2.2.2
  intro σ x2 x3 x4 h H locs ls hd hl
  rw [f_X8_busiest_116] at h
  obtain ⟨v1, ev1, h⟩ := bnd_e h
  refine lv_iinc (v := v1) (lv' := [(4, .int v1), (0, .ref (ga g 40)), (2, .int x2), (3, .int x3)]) hx hb dX8_busiest_116 hl (k := 3) rfl ((ii_1 _).trans ev1.symm) (Nat.le_of_ble_eq_true rfl) rfl (fun ls hl => ?_)
  refine lv_goto (tgt := 86) hx hb dX8_busiest_119 (by decide) ?_
  exact hk_86 σ x2 x3 v1 h _ _ _ hd (lv_sub hl [1, 2, 3, 0] rfl)
noncomputable def f_X8_busiest_86 (F : Nat) : Nat → St → Int32 → Int32 → Int32 → Option (Int32 × St)
  | 0, _, _, _, _ => none
  | n + 1, σ, x2, x3, x4 => if (σ.2.1 19 0) ≤ x4 then (if x2 = 0 then (some (x3, σ)) else (if inb x3 8 = true then some ((σ.2.1 20 x3.toNatClampNeg), σ) else none)) else (if inb x4 8 = true then if inb x3 8 = true then if (σ.2.1 20 x4.toNatClampNeg) ≤ (σ.2.1 20 x3.toNatClampNeg) then (f_X8_busiest_116 F (f_X8_busiest_86 F n) σ x2 x3 x4) else (f_X8_busiest_116 F (f_X8_busiest_86 F n) σ x2 x4 x4) else none else none)
set_option maxRecDepth 100000 in
set_option maxHeartbeats 4000000 in
theorem w_X8_busiest_86 {F : Nat} {r' : Int32} {σ' : St}  (C : Cx g p s m args meth c cX8_busiest 5 RX8) (hr : meth.sig.returnType = some .int) :
    (∀ (n : Nat) (σ : St) (x2 : Int32) (x3 : Int32) (x4 : Int32), f_X8_busiest_86 F n σ x2 x3 x4 = some (r', σ') → ∀ (H : Heap) (locs : List Loc) (ls : Array Slot), Dy g (wM g σ ++ X) s H locs → lv_has ls 5 [(0, .ref (ga g 40)), (2, .int x2), (3, .int x3), (4, .int x4)] → W p l e (rmD 4) s m args below meth c H locs 0 0 (QI g below args s (wM g σ' ++ X) r') (F0 m 86 ls [])) := by
  have hx := C.1
  have hb := C.2.1
  have hE := C.2.2.2.2.2.2.2.2
  intro n
  induction n with
  | zero =>
    intro σ x2 x3 x4 h
    cases h
  | succ n ih =>
    intro σ x2 x3 x4 h H locs ls hd hl
    rw [f_X8_busiest_86] at h
    refine lv_iload hx hb dX8_busiest_86 (lv_at hl 3 rfl) ?_
    refine lv_aload_n hx hb dX8_busiest_88 rfl (lv_at hl 0 rfl) ?_
    refine gX8_73 C hd dX8_busiest_89 ?_
    refine lv_iconst (v := 0) hx hb dX8_busiest_92 ic_0 ?_
    refine ldc_wM_19 C hd cl_0 (inb_i (by decide +kernel)) dX8_busiest_93 ?_
    refine lv_icmp_ge (tgt := 122) hx hb dX8_busiest_94 (by decide) (fun c1 => ?_) (fun c1 => ?_)
    · replace h := iteT c1 h
      refine lv_iload_n hx hb dX8_busiest_122 rfl (lv_at hl 1 rfl) ?_
      refine lv_if_ne (tgt := 130) hx hb dX8_busiest_123 (by decide) (fun c2 => ?_) (fun c2 => ?_)
      · replace h := iteF c2 h
        refine lv_aload_n hx hb dX8_busiest_130 rfl (lv_at hl 0 rfl) ?_
        refine gX8_76 C hd dX8_busiest_131 ?_
        refine lv_iload_n hx hb dX8_busiest_134 rfl (lv_at hl 2 rfl) ?_
        obtain ⟨n3, h⟩ := chk h
        refine ld_wM_20 C hd (inb_i n3) dX8_busiest_135 ?_
        exact rIretS (w := wM g) C hr hd h dX8_busiest_136
      · replace h := iteT c2 h
        refine lv_iload_n hx hb dX8_busiest_126 rfl (lv_at hl 2 rfl) ?_
        refine lv_goto (tgt := 136) hx hb dX8_busiest_127 (by decide) ?_
        exact rIretS (w := wM g) C hr hd h dX8_busiest_136
    · replace h := iteF c1 h
      refine lv_aload_n hx hb dX8_busiest_97 rfl (lv_at hl 0 rfl) ?_
      refine gX8_76 C hd dX8_busiest_98 ?_
      refine lv_iload hx hb dX8_busiest_101 (lv_at hl 3 rfl) ?_
      obtain ⟨n4, h⟩ := chk h
      refine ld_wM_20 C hd (inb_i n4) dX8_busiest_103 ?_
      refine lv_aload_n hx hb dX8_busiest_104 rfl (lv_at hl 0 rfl) ?_
      refine gX8_76 C hd dX8_busiest_105 ?_
      refine lv_iload_n hx hb dX8_busiest_108 rfl (lv_at hl 2 rfl) ?_
      obtain ⟨n5, h⟩ := chk h
      refine ld_wM_20 C hd (inb_i n5) dX8_busiest_109 ?_
      refine lv_icmp_le (tgt := 116) hx hb dX8_busiest_110 (by decide) (fun c6 => ?_) (fun c6 => ?_)
      · replace h := iteT c6 h
        exact w_X8_busiest_116 C hr ih σ x2 x3 x4 h _ _ _ hd (lv_sub hl [0, 1, 2, 3] rfl)
      · replace h := iteF c6 h
        refine lv_iload hx hb dX8_busiest_113 (lv_at hl 3 rfl) ?_
        refine lv_istore_n (lv' := [(3, .int x4), (0, .ref (ga g 40)), (2, .int x2), (4, .int x4)]) hx hb dX8_busiest_115 rfl hl (Nat.le_of_ble_eq_true rfl) rfl (fun ls hl => ?_)
        exact w_X8_busiest_116 C hr ih σ x2 x4 x4 h _ _ _ hd (lv_sub hl [1, 2, 0, 3] rfl)
noncomputable def f_X8_busiest_75 (F : Nat) (k_42 : St → Int32 → Int32 → Int32 → Option (Int32 × St)) (σ : St) (x1 : Int32) (x2 : Int32) (x3 : Int32) : Option (Int32 × St) :=
  bnd (x3 + 1) (fun v1 => k_42 σ x1 x2 v1)
set_option maxRecDepth 100000 in
set_option maxHeartbeats 4000000 in
theorem w_X8_busiest_75 {F : Nat} {r' : Int32} {σ' : St}  (C : Cx g p s m args meth c cX8_busiest 5 RX8) (hr : meth.sig.returnType = some .int)
    {k_42 : St → Int32 → Int32 → Int32 → Option (Int32 × St)} (hk_42 : (∀ (σ : St) (x1 : Int32) (x2 : Int32) (x3 : Int32), k_42 σ x1 x2 x3 = some (r', σ') → ∀ (H : Heap) (locs : List Loc) (ls : Array Slot), Dy g (wM g σ ++ X) s H locs → lv_has ls 5 [(0, .ref (ga g 40)), (1, .int x1), (2, .int x2), (3, .int x3)] → W p l e (rmD 4) s m args below meth c H locs 0 0 (QI g below args s (wM g σ' ++ X) r') (F0 m 42 ls []))) :
    (∀ (σ : St) (x1 : Int32) (x2 : Int32) (x3 : Int32), f_X8_busiest_75 F k_42 σ x1 x2 x3 = some (r', σ') → ∀ (H : Heap) (locs : List Loc) (ls : Array Slot), Dy g (wM g σ ++ X) s H locs → lv_has ls 5 [(0, .ref (ga g 40)), (1, .int x1), (2, .int x2), (3, .int x3)] → W p l e (rmD 4) s m args below meth c H locs 0 0 (QI g below args s (wM g σ' ++ X) r') (F0 m 75 ls [])) := by
  have hx := C.1
  have hb := C.2.1
  have hE := C.2.2.2.2.2.2.2.2
  intro σ x1 x2 x3 h H locs ls hd hl
  rw [f_X8_busiest_75] at h
  obtain ⟨v1, ev1, h⟩ := bnd_e h
  refine lv_iinc (v := v1) (lv' := [(3, .int v1), (0, .ref (ga g 40)), (1, .int x1), (2, .int x2)]) hx hb dX8_busiest_75 hl (k := 3) rfl ((ii_1 _).trans ev1.symm) (Nat.le_of_ble_eq_true rfl) rfl (fun ls hl => ?_)
  refine lv_goto (tgt := 42) hx hb dX8_busiest_78 (by decide) ?_
  exact hk_42 σ x1 x2 v1 h _ _ _ hd (lv_sub hl [1, 2, 3, 0] rfl)
noncomputable def f_X8_busiest_42 (F : Nat) : Nat → St → Int32 → Int32 → Int32 → Option (Int32 × St)
  | 0, _, _, _, _ => none
  | n + 1, σ, x1, x2, x3 => cal (f_X8_placeOf F σ x1) (fun r1 => if r1 < x3 then (f_X8_busiest_86 F F σ x2 0 1) else (cal (f_X8_changedBy F σ x1 x3) (fun r3 => if r3 < 0 then (f_X8_busiest_75 F (f_X8_busiest_42 F n) σ x1 x2 x3) else (cal (f_X8_changedBy F σ x1 x3) (fun r5 => if inb r5 8 = true then if inb r5 8 = true then bnd (sr σ 20 r5.toNatClampNeg ((σ.2.1 20 r5.toNatClampNeg) + 1)) (fun t8 => f_X8_busiest_75 F (f_X8_busiest_42 F n) t8 x1 x2 x3) else none else none)))))
set_option maxRecDepth 100000 in
set_option maxHeartbeats 4000000 in
theorem w_X8_busiest_42 {F : Nat} {r' : Int32} {σ' : St}  (C : Cx g p s m args meth c cX8_busiest 5 RX8) (hr : meth.sig.returnType = some .int) :
    (∀ (n : Nat) (σ : St) (x1 : Int32) (x2 : Int32) (x3 : Int32), f_X8_busiest_42 F n σ x1 x2 x3 = some (r', σ') → ∀ (H : Heap) (locs : List Loc) (ls : Array Slot), Dy g (wM g σ ++ X) s H locs → lv_has ls 5 [(0, .ref (ga g 40)), (1, .int x1), (2, .int x2), (3, .int x3)] → W p l e (rmD 4) s m args below meth c H locs 0 0 (QI g below args s (wM g σ' ++ X) r') (F0 m 42 ls [])) := by
  have hx := C.1
  have hb := C.2.1
  have hE := C.2.2.2.2.2.2.2.2
  intro n
  induction n with
  | zero =>
    intro σ x1 x2 x3 h
    cases h
  | succ n ih =>
    intro σ x1 x2 x3 h H locs ls hd hl
    rw [f_X8_busiest_42] at h
    refine lv_iload_n hx hb dX8_busiest_42 rfl (lv_at hl 3 rfl) ?_
    refine lv_aload_n hx hb dX8_busiest_43 rfl (lv_at hl 0 rfl) ?_
    refine lv_iload_n hx hb dX8_busiest_44 rfl (lv_at hl 1 rfl) ?_
    obtain ⟨r1, er1, h⟩ := cal_e h
    refine rCallI C hd (c_X8_placeOf hE er1) kX8_217 0 rfl rfl rfl rfl hl.1 rfl (Nat.le_of_ble_eq_true rfl) ⟨(Nat.le_of_ble_eq_true rfl), (Nat.le_of_ble_eq_true rfl)⟩ ⟨Nat.le_refl _, Nat.le_refl _⟩ dX8_busiest_45 (fun H locs hd => ?_)
    refine lv_icmp_gt (tgt := 81) hx hb dX8_busiest_48 (by decide) (fun c2 => ?_) (fun c2 => ?_)
    · replace h := iteT c2 h
      refine lv_iconst (v := 0) hx hb dX8_busiest_81 ic_0 ?_
      refine lv_istore_n (lv' := [(3, .int 0), (0, .ref (ga g 40)), (1, .int x1), (2, .int x2)]) hx hb dX8_busiest_82 rfl hl (Nat.le_of_ble_eq_true rfl) rfl (fun ls hl => ?_)
      refine lv_iconst (v := 1) hx hb dX8_busiest_83 ic_1 ?_
      refine lv_istore (lv' := [(4, .int 1), (3, .int 0), (0, .ref (ga g 40)), (1, .int x1), (2, .int x2)]) hx hb dX8_busiest_84 hl (Nat.le_of_ble_eq_true rfl) rfl (fun ls hl => ?_)
      exact w_X8_busiest_86 C hr _ σ x2 0 1 h _ _ _ hd (lv_sub hl [2, 4, 1, 0] rfl)
    · replace h := iteF c2 h
      refine lv_aload_n hx hb dX8_busiest_51 rfl (lv_at hl 0 rfl) ?_
      refine lv_iload_n hx hb dX8_busiest_52 rfl (lv_at hl 1 rfl) ?_
      refine lv_iload_n hx hb dX8_busiest_53 rfl (lv_at hl 3 rfl) ?_
      obtain ⟨r3, er3, h⟩ := cal_e h
      refine rCallI C hd (c_X8_changedBy hE er3) kX8_283 0 rfl rfl rfl rfl hl.1 rfl (Nat.le_of_ble_eq_true rfl) ⟨(Nat.le_of_ble_eq_true rfl), (Nat.le_of_ble_eq_true rfl)⟩ ⟨Nat.le_refl _, Nat.le_refl _⟩ dX8_busiest_54 (fun H locs hd => ?_)
      refine lv_if_lt (tgt := 75) hx hb dX8_busiest_57 (by decide) (fun c4 => ?_) (fun c4 => ?_)
      · replace h := iteT c4 h
        exact w_X8_busiest_75 C hr ih σ x1 x2 x3 h _ _ _ hd (lv_sub hl [0, 1, 2, 3] rfl)
      · replace h := iteF c4 h
        refine lv_aload_n hx hb dX8_busiest_60 rfl (lv_at hl 0 rfl) ?_
        refine gX8_76 C hd dX8_busiest_61 ?_
        refine lv_aload_n hx hb dX8_busiest_64 rfl (lv_at hl 0 rfl) ?_
        refine lv_iload_n hx hb dX8_busiest_65 rfl (lv_at hl 1 rfl) ?_
        refine lv_iload_n hx hb dX8_busiest_66 rfl (lv_at hl 3 rfl) ?_
        obtain ⟨r5, er5, h⟩ := cal_e h
        refine rCallI C hd (c_X8_changedBy hE er5) kX8_283 0 rfl rfl rfl rfl hl.1 rfl (Nat.le_of_ble_eq_true rfl) ⟨(Nat.le_of_ble_eq_true rfl), (Nat.le_of_ble_eq_true rfl)⟩ ⟨Nat.le_refl _, Nat.le_refl _⟩ dX8_busiest_67 (fun H locs hd => ?_)
        refine lv_dup2_11 hx hb dX8_busiest_70 rfl rfl ?_
        obtain ⟨n6, h⟩ := chk h
        refine ld_wM_20 C hd (inb_i n6) dX8_busiest_71 ?_
        refine lv_iconst (v := 1) hx hb dX8_busiest_72 ic_1 ?_
        refine lv_iadd hx hb dX8_busiest_73 ?_
        obtain ⟨n7, h⟩ := chk h
        obtain ⟨t8, et8, h⟩ := bnd_e h
        refine st_wM_20 C hd (inb_i n7) et8 dX8_busiest_74 (fun H locs hd => ?_)
        exact w_X8_busiest_75 C hr ih t8 x1 x2 x3 h _ _ _ hd (lv_sub hl [0, 1, 2, 3] rfl)
noncomputable def f_X8_busiest_21 (F : Nat) : Nat → St → Int32 → Int32 → Int32 → Option (Int32 × St)
  | 0, _, _, _, _ => none
  | n + 1, σ, x1, x2, x3 => if 8 ≤ x3 then (f_X8_busiest_42 F F σ x1 x2 1) else (if inb x3 8 = true then bnd (sr σ 20 x3.toNatClampNeg 0) (fun t3 => bnd (x3 + 1) (fun v4 => f_X8_busiest_21 F n t3 x1 x2 v4)) else none)
set_option maxRecDepth 100000 in
set_option maxHeartbeats 4000000 in
theorem w_X8_busiest_21 {F : Nat} {r' : Int32} {σ' : St}  (C : Cx g p s m args meth c cX8_busiest 5 RX8) (hr : meth.sig.returnType = some .int) :
    (∀ (n : Nat) (σ : St) (x1 : Int32) (x2 : Int32) (x3 : Int32), f_X8_busiest_21 F n σ x1 x2 x3 = some (r', σ') → ∀ (H : Heap) (locs : List Loc) (ls : Array Slot), Dy g (wM g σ ++ X) s H locs → lv_has ls 5 [(0, .ref (ga g 40)), (1, .int x1), (2, .int x2), (3, .int x3)] → W p l e (rmD 4) s m args below meth c H locs 0 0 (QI g below args s (wM g σ' ++ X) r') (F0 m 21 ls [])) := by
  have hx := C.1
  have hb := C.2.1
  have hE := C.2.2.2.2.2.2.2.2
  intro n
  induction n with
  | zero =>
    intro σ x1 x2 x3 h
    cases h
  | succ n ih =>
    intro σ x1 x2 x3 h H locs ls hd hl
    rw [f_X8_busiest_21] at h
    refine lv_iload_n hx hb dX8_busiest_21 rfl (lv_at hl 3 rfl) ?_
    refine lv_bipush (v := 8) hx hb dX8_busiest_22 bi_8 ?_
    refine lv_icmp_ge (tgt := 40) hx hb dX8_busiest_24 (by decide) (fun c1 => ?_) (fun c1 => ?_)
    · replace h := iteT c1 h
      refine lv_iconst (v := 1) hx hb dX8_busiest_40 ic_1 ?_
      refine lv_istore_n (lv' := [(3, .int 1), (0, .ref (ga g 40)), (1, .int x1), (2, .int x2)]) hx hb dX8_busiest_41 rfl hl (Nat.le_of_ble_eq_true rfl) rfl (fun ls hl => ?_)
      exact w_X8_busiest_42 C hr _ σ x1 x2 1 h _ _ _ hd (lv_sub hl [1, 2, 3, 0] rfl)
    · replace h := iteF c1 h
      refine lv_aload_n hx hb dX8_busiest_27 rfl (lv_at hl 0 rfl) ?_
      refine gX8_76 C hd dX8_busiest_28 ?_
      refine lv_iload_n hx hb dX8_busiest_31 rfl (lv_at hl 3 rfl) ?_
      refine lv_iconst (v := 0) hx hb dX8_busiest_32 ic_0 ?_
      obtain ⟨n2, h⟩ := chk h
      obtain ⟨t3, et3, h⟩ := bnd_e h
      refine st_wM_20 C hd (inb_i n2) et3 dX8_busiest_33 (fun H locs hd => ?_)
      obtain ⟨v4, ev4, h⟩ := bnd_e h
      refine lv_iinc (v := v4) (lv' := [(3, .int v4), (0, .ref (ga g 40)), (1, .int x1), (2, .int x2)]) hx hb dX8_busiest_34 hl (k := 3) rfl ((ii_1 _).trans ev4.symm) (Nat.le_of_ble_eq_true rfl) rfl (fun ls hl => ?_)
      refine lv_goto (tgt := 21) hx hb dX8_busiest_37 (by decide) ?_
      exact ih t3 x1 x2 v4 h _ _ _ hd (lv_sub hl [1, 2, 3, 0] rfl)
noncomputable def f_X8_busiest (F : Nat) (σ : St) (x1 : Int32) (x2 : Int32) : Option (Int32 × St) :=
  cal (f_X8_isLine F σ x1) (fun r1 => if r1 = 0 then (some ((-1 : Int32), σ)) else (cal (f_X8_in F σ x2 0 1) (fun r3 => if r3 = 0 then (some ((-1 : Int32), σ)) else (f_X8_busiest_21 F F σ x1 x2 0))))
set_option maxRecDepth 100000 in
set_option maxHeartbeats 4000000 in
theorem c_X8_busiest {l : Launch} {g : Gp} {X : va_W} (hE : E0 g) {F : Nat} {r' : Int32} {σ' : St} {σ : St} {x1 : Int32} {x2 : Int32} (h : f_X8_busiest F σ x1 x2 = some (r', σ')) : Ci l g yX8_busiest cX8_busiest 5 (some .int) 4 [.ref (ga g 40), .int x1, .int x2] (wM g σ ++ X) r' (wM g σ' ++ X) := by
  refine rHead hE (by decide +kernel) (Nat.le_of_ble_eq_true rfl) (fun p e s m below meth c C hr _ hd ls hl => ?_)
  have hx := C.1
  have hb := C.2.1
  have hl : lv_has ls 5 [(0, .ref (ga g 40)), (1, .int x1), (2, .int x2)] := hl
  generalize ([.ref (ga g 40), .int x1, .int x2] : List Value).toArray = args at C ⊢
  have C : Cx g p s m args meth c cX8_busiest 5 RX8 := C
  rw [f_X8_busiest] at h
  refine lv_aload_n hx hb dX8_busiest_0 rfl (lv_at hl 0 rfl) ?_
  refine lv_iload_n hx hb dX8_busiest_1 rfl (lv_at hl 1 rfl) ?_
  obtain ⟨r1, er1, h⟩ := cal_e h
  refine rCallI C hd (c_X8_isLine hE er1) kX8_262 0 rfl rfl rfl rfl hl.1 rfl (Nat.le_of_ble_eq_true rfl) ⟨(Nat.le_of_ble_eq_true rfl), (Nat.le_of_ble_eq_true rfl)⟩ ⟨Nat.le_refl _, Nat.le_refl _⟩ dX8_busiest_2 (fun H locs hd => ?_)
  refine lv_if_eq (tgt := 17) hx hb dX8_busiest_5 (by decide) (fun c2 => ?_) (fun c2 => ?_)
  · replace h := iteT c2 h
    refine lv_iconst (v := (-1 : Int32)) hx hb dX8_busiest_17 ic_m1 ?_
    exact rIretS (w := wM g) C hr hd h dX8_busiest_18
  · replace h := iteF c2 h
    refine lv_iload_n hx hb dX8_busiest_8 rfl (lv_at hl 2 rfl) ?_
    refine lv_iconst (v := 0) hx hb dX8_busiest_9 ic_0 ?_
    refine lv_iconst (v := 1) hx hb dX8_busiest_10 ic_1 ?_
    obtain ⟨r3, er3, h⟩ := cal_e h
    refine rCallSI C hd (c_X8_in hE er3) kX8_194 rfl hl.1 rfl (Nat.le_of_ble_eq_true rfl) ⟨(Nat.le_of_ble_eq_true rfl), (Nat.le_of_ble_eq_true rfl)⟩ ⟨Nat.le_refl _, Nat.le_refl _⟩ dX8_busiest_11 (fun H locs hd => ?_)
    refine lv_if_ne (tgt := 19) hx hb dX8_busiest_14 (by decide) (fun c4 => ?_) (fun c4 => ?_)
    · replace h := iteF c4 h
      refine lv_iconst (v := 0) hx hb dX8_busiest_19 ic_0 ?_
      refine lv_istore_n (lv' := [(3, .int 0), (0, .ref (ga g 40)), (1, .int x1), (2, .int x2)]) hx hb dX8_busiest_20 rfl hl (Nat.le_of_ble_eq_true rfl) rfl (fun ls hl => ?_)
      exact w_X8_busiest_21 C hr _ σ x1 x2 0 h _ _ _ hd (lv_sub hl [1, 2, 3, 0] rfl)
    · replace h := iteT c4 h
      refine lv_iconst (v := (-1 : Int32)) hx hb dX8_busiest_17 ic_m1 ?_
      exact rIretS (w := wM g) C hr hd h dX8_busiest_18
noncomputable def f_X8_byteAt (F : Nat) (σ : St) (x1 : Int32) : Option Int32 :=
  if (σ.1 2) ≤ x1 then (some 0) else (if inb x1 2000 = true then some ((σ.2.1 2 x1.toNatClampNeg) &&& 255) else none)
set_option maxRecDepth 100000 in
set_option maxHeartbeats 4000000 in
theorem c_X8_byteAt {l : Launch} {g : Gp} {X : va_W} (hE : E0 g) {F : Nat} {r' : Int32} {σ : St} {x1 : Int32} (h : f_X8_byteAt F σ x1 = some r') : Ci l g yX8_byteAt cX8_byteAt 2 (some .int) 0 [.ref (ga g 40), .int x1] (wM g σ ++ X) r' (wM g σ ++ X) := by
  refine rHead hE (by decide +kernel) (Nat.le_of_ble_eq_true rfl) (fun p e s m below meth c C hr _ hd ls hl => ?_)
  have hx := C.1
  have hb := C.2.1
  have hl : lv_has ls 2 [(0, .ref (ga g 40)), (1, .int x1)] := hl
  generalize ([.ref (ga g 40), .int x1] : List Value).toArray = args at C ⊢
  have C : Cx g p s m args meth c cX8_byteAt 2 RX8 := C
  rw [f_X8_byteAt] at h
  refine lv_iload_n hx hb dX8_byteAt_0 rfl (lv_at hl 1 rfl) ?_
  refine lv_aload_n hx hb dX8_byteAt_1 rfl (lv_at hl 0 rfl) ?_
  refine gX8_104 C hd dX8_byteAt_2 ?_
  refine lv_icmp_ge (tgt := 21) hx hb dX8_byteAt_5 (by decide) (fun c1 => ?_) (fun c1 => ?_)
  · replace h := iteT c1 h
    refine lv_iconst (v := 0) hx hb dX8_byteAt_21 ic_0 ?_
    exact rIretP C hr hd h dX8_byteAt_22
  · replace h := iteF c1 h
    refine lv_aload_n hx hb dX8_byteAt_8 rfl (lv_at hl 0 rfl) ?_
    refine gX8_17 C hd dX8_byteAt_9 ?_
    refine lv_iload_n hx hb dX8_byteAt_12 rfl (lv_at hl 1 rfl) ?_
    obtain ⟨n2, h⟩ := chk h
    refine ld_wM_2 C hd (inb_i n2) dX8_byteAt_13 ?_
    refine lv_sipush (v := 255) hx hb dX8_byteAt_14 si_255 ?_
    refine lv_iand hx hb dX8_byteAt_17 ?_
    refine lv_goto (tgt := 22) hx hb dX8_byteAt_18 (by decide) ?_
    exact rIretP C hr hd h dX8_byteAt_22
noncomputable def f_X8_chainOf_4 (F : Nat) : Nat → St → Int32 → Int32 → Option Int32
  | 0, _, _, _ => none
  | n + 1, σ, x2, x3 => if x3 < 0 then (some x2) else (bnd (x2 + 1) (fun v2 => cal (f_X8_ofCopy F σ x3 1) (fun r3 => f_X8_chainOf_4 F n σ v2 r3)))
set_option maxRecDepth 100000 in
set_option maxHeartbeats 4000000 in
theorem w_X8_chainOf_4 {F : Nat} {r' : Int32}  (C : Cx g p s m args meth c cX8_chainOf 4 RX8) (hr : meth.sig.returnType = some .int) :
    (∀ (n : Nat) (σ : St) (x2 : Int32) (x3 : Int32), f_X8_chainOf_4 F n σ x2 x3 = some r' → ∀ (H : Heap) (locs : List Loc) (ls : Array Slot), Dy g (wM g σ ++ X) s H locs → lv_has ls 4 [(0, .ref (ga g 40)), (2, .int x2), (3, .int x3)] → W p l e (rmD 1) s m args below meth c H locs 0 0 (QI g below args s (wM g σ ++ X) r') (F0 m 4 ls [])) := by
  have hx := C.1
  have hb := C.2.1
  have hE := C.2.2.2.2.2.2.2.2
  intro n
  induction n with
  | zero =>
    intro σ x2 x3 h
    cases h
  | succ n ih =>
    intro σ x2 x3 h H locs ls hd hl
    rw [f_X8_chainOf_4] at h
    refine lv_iload_n hx hb dX8_chainOf_4 rfl (lv_at hl 2 rfl) ?_
    refine lv_if_lt (tgt := 21) hx hb dX8_chainOf_5 (by decide) (fun c1 => ?_) (fun c1 => ?_)
    · replace h := iteT c1 h
      refine lv_iload_n hx hb dX8_chainOf_21 rfl (lv_at hl 1 rfl) ?_
      exact rIretP C hr hd h dX8_chainOf_22
    · replace h := iteF c1 h
      obtain ⟨v2, ev2, h⟩ := bnd_e h
      refine lv_iinc (v := v2) (lv' := [(2, .int v2), (0, .ref (ga g 40)), (3, .int x3)]) hx hb dX8_chainOf_8 hl (k := 1) rfl ((ii_1 _).trans ev2.symm) (Nat.le_of_ble_eq_true rfl) rfl (fun ls hl => ?_)
      refine lv_aload_n hx hb dX8_chainOf_11 rfl (lv_at hl 1 rfl) ?_
      refine lv_iload_n hx hb dX8_chainOf_12 rfl (lv_at hl 2 rfl) ?_
      refine lv_iconst (v := 1) hx hb dX8_chainOf_13 ic_1 ?_
      obtain ⟨r3, er3, h⟩ := cal_e h
      refine rCallI C hd (c_X8_ofCopy hE er3) kX8_286 0 rfl rfl rfl rfl hl.1 rfl (Nat.le_of_ble_eq_true rfl) ⟨(Nat.le_of_ble_eq_true rfl), (Nat.le_of_ble_eq_true rfl)⟩ ⟨Nat.le_refl _, Nat.le_refl _⟩ dX8_chainOf_14 (fun H locs hd => ?_)
      refine lv_istore_n (lv' := [(3, .int r3), (2, .int v2), (0, .ref (ga g 40))]) hx hb dX8_chainOf_17 rfl hl (Nat.le_of_ble_eq_true rfl) rfl (fun ls hl => ?_)
      refine lv_goto (tgt := 4) hx hb dX8_chainOf_18 (by decide) ?_
      exact ih σ v2 r3 h _ _ _ hd (lv_sub hl [2, 1, 0] rfl)
noncomputable def f_X8_chainOf (F : Nat) (σ : St) (x1 : Int32) : Option Int32 :=
  f_X8_chainOf_4 F F σ 0 x1
set_option maxRecDepth 100000 in
set_option maxHeartbeats 4000000 in
theorem c_X8_chainOf {l : Launch} {g : Gp} {X : va_W} (hE : E0 g) {F : Nat} {r' : Int32} {σ : St} {x1 : Int32} (h : f_X8_chainOf F σ x1 = some r') : Ci l g yX8_chainOf cX8_chainOf 4 (some .int) 1 [.ref (ga g 40), .int x1] (wM g σ ++ X) r' (wM g σ ++ X) := by
  refine rHead hE (by decide +kernel) (Nat.le_of_ble_eq_true rfl) (fun p e s m below meth c C hr _ hd ls hl => ?_)
  have hx := C.1
  have hb := C.2.1
  have hl : lv_has ls 4 [(0, .ref (ga g 40)), (1, .int x1)] := hl
  generalize ([.ref (ga g 40), .int x1] : List Value).toArray = args at C ⊢
  have C : Cx g p s m args meth c cX8_chainOf 4 RX8 := C
  rw [f_X8_chainOf] at h
  refine lv_iconst (v := 0) hx hb dX8_chainOf_0 ic_0 ?_
  refine lv_istore_n (lv' := [(2, .int 0), (0, .ref (ga g 40)), (1, .int x1)]) hx hb dX8_chainOf_1 rfl hl (Nat.le_of_ble_eq_true rfl) rfl (fun ls hl => ?_)
  refine lv_iload_n hx hb dX8_chainOf_2 rfl (lv_at hl 2 rfl) ?_
  refine lv_istore_n (lv' := [(3, .int x1), (2, .int 0), (0, .ref (ga g 40)), (1, .int x1)]) hx hb dX8_chainOf_3 rfl hl (Nat.le_of_ble_eq_true rfl) rfl (fun ls hl => ?_)
  exact w_X8_chainOf_4 C hr _ σ 0 x1 h _ _ _ hd (lv_sub hl [2, 1, 0] rfl)
noncomputable def f_X8_changeAhead_27 (F : Nat) (k_6 : St → Int32 → Int32 → Int32 → Int32 → Int32 → Option Int32) (σ : St) (x1 : Int32) (x2 : Int32) (x3 : Int32) (x4 : Int32) (x5 : Int32) : Option Int32 :=
  bnd (x5 + 1) (fun v1 => k_6 σ x1 x2 x3 x4 v1)
set_option maxRecDepth 100000 in
set_option maxHeartbeats 4000000 in
theorem w_X8_changeAhead_27 {F : Nat} {r' : Int32}  (C : Cx g p s m args meth c cX8_changeAhead 6 RX8) (hr : meth.sig.returnType = some .int)
    {k_6 : St → Int32 → Int32 → Int32 → Int32 → Int32 → Option Int32} (hk_6 : (∀ (σ : St) (x1 : Int32) (x2 : Int32) (x3 : Int32) (x4 : Int32) (x5 : Int32), k_6 σ x1 x2 x3 x4 x5 = some r' → ∀ (H : Heap) (locs : List Loc) (ls : Array Slot), Dy g (wM g σ ++ X) s H locs → lv_has ls 6 [(0, .ref (ga g 40)), (1, .int x1), (2, .int x2), (3, .int x3), (4, .int x4), (5, .int x5)] → W p l e (rmD 4) s m args below meth c H locs 0 0 (QI g below args s (wM g σ ++ X) r') (F0 m 6 ls []))) :
    (∀ (σ : St) (x1 : Int32) (x2 : Int32) (x3 : Int32) (x4 : Int32) (x5 : Int32), f_X8_changeAhead_27 F k_6 σ x1 x2 x3 x4 x5 = some r' → ∀ (H : Heap) (locs : List Loc) (ls : Array Slot), Dy g (wM g σ ++ X) s H locs → lv_has ls 6 [(0, .ref (ga g 40)), (1, .int x1), (2, .int x2), (3, .int x3), (4, .int x4), (5, .int x5)] → W p l e (rmD 4) s m args below meth c H locs 0 0 (QI g below args s (wM g σ ++ X) r') (F0 m 27 ls [])) := by
  have hx := C.1
  have hb := C.2.1
  have hE := C.2.2.2.2.2.2.2.2
  intro σ x1 x2 x3 x4 x5 h H locs ls hd hl
  rw [f_X8_changeAhead_27] at h
  obtain ⟨v1, ev1, h⟩ := bnd_e h
  refine lv_iinc (v := v1) (lv' := [(5, .int v1), (0, .ref (ga g 40)), (1, .int x1), (2, .int x2), (3, .int x3), (4, .int x4)]) hx hb dX8_changeAhead_27 hl (k := 5) rfl ((ii_1 _).trans ev1.symm) (Nat.le_of_ble_eq_true rfl) rfl (fun ls hl => ?_)
  refine lv_goto (tgt := 6) hx hb dX8_changeAhead_30 (by decide) ?_
  exact hk_6 σ x1 x2 x3 x4 v1 h _ _ _ hd (lv_sub hl [1, 2, 3, 4, 5, 0] rfl)
noncomputable def f_X8_changeAhead_6 (F : Nat) : Nat → St → Int32 → Int32 → Int32 → Int32 → Int32 → Option Int32
  | 0, _, _, _, _, _, _ => none
  | n + 1, σ, x1, x2, x3, x4, x5 => if x3 < x5 then (some x4) else (cal (f_X8_changedBy F σ x2 x5) (fun r2 => if r2 = x1 then (f_X8_changeAhead_27 F (f_X8_changeAhead_6 F n) σ x1 x2 x3 x5 x5) else (f_X8_changeAhead_27 F (f_X8_changeAhead_6 F n) σ x1 x2 x3 x4 x5)))
set_option maxRecDepth 100000 in
set_option maxHeartbeats 4000000 in
theorem w_X8_changeAhead_6 {F : Nat} {r' : Int32}  (C : Cx g p s m args meth c cX8_changeAhead 6 RX8) (hr : meth.sig.returnType = some .int) :
    (∀ (n : Nat) (σ : St) (x1 : Int32) (x2 : Int32) (x3 : Int32) (x4 : Int32) (x5 : Int32), f_X8_changeAhead_6 F n σ x1 x2 x3 x4 x5 = some r' → ∀ (H : Heap) (locs : List Loc) (ls : Array Slot), Dy g (wM g σ ++ X) s H locs → lv_has ls 6 [(0, .ref (ga g 40)), (1, .int x1), (2, .int x2), (3, .int x3), (4, .int x4), (5, .int x5)] → W p l e (rmD 4) s m args below meth c H locs 0 0 (QI g below args s (wM g σ ++ X) r') (F0 m 6 ls [])) := by
  have hx := C.1
  have hb := C.2.1
  have hE := C.2.2.2.2.2.2.2.2
  intro n
  induction n with
  | zero =>
    intro σ x1 x2 x3 x4 x5 h
    cases h
  | succ n ih =>
    intro σ x1 x2 x3 x4 x5 h H locs ls hd hl
    rw [f_X8_changeAhead_6] at h
    refine lv_iload hx hb dX8_changeAhead_6 (lv_at hl 5 rfl) ?_
    refine lv_iload_n hx hb dX8_changeAhead_8 rfl (lv_at hl 3 rfl) ?_
    refine lv_icmp_gt (tgt := 33) hx hb dX8_changeAhead_9 (by decide) (fun c1 => ?_) (fun c1 => ?_)
    · replace h := iteT c1 h
      refine lv_iload hx hb dX8_changeAhead_33 (lv_at hl 4 rfl) ?_
      exact rIretP C hr hd h dX8_changeAhead_35
    · replace h := iteF c1 h
      refine lv_aload_n hx hb dX8_changeAhead_12 rfl (lv_at hl 0 rfl) ?_
      refine lv_iload_n hx hb dX8_changeAhead_13 rfl (lv_at hl 2 rfl) ?_
      refine lv_iload hx hb dX8_changeAhead_14 (lv_at hl 5 rfl) ?_
      obtain ⟨r2, er2, h⟩ := cal_e h
      refine rCallI C hd (c_X8_changedBy hE er2) kX8_283 0 rfl rfl rfl rfl hl.1 rfl (Nat.le_of_ble_eq_true rfl) ⟨(Nat.le_of_ble_eq_true rfl), (Nat.le_of_ble_eq_true rfl)⟩ ⟨Nat.le_refl _, Nat.le_refl _⟩ dX8_changeAhead_16 (fun H locs hd => ?_)
      refine lv_iload_n hx hb dX8_changeAhead_19 rfl (lv_at hl 1 rfl) ?_
      refine lv_icmp_ne (tgt := 27) hx hb dX8_changeAhead_20 (by decide) (fun c3 => ?_) (fun c3 => ?_)
      · replace h := iteF c3 h
        exact w_X8_changeAhead_27 C hr ih σ x1 x2 x3 x4 x5 h _ _ _ hd (lv_sub hl [0, 1, 2, 3, 4, 5] rfl)
      · replace h := iteT c3 h
        refine lv_iload hx hb dX8_changeAhead_23 (lv_at hl 5 rfl) ?_
        refine lv_istore (lv' := [(4, .int x5), (0, .ref (ga g 40)), (1, .int x1), (2, .int x2), (3, .int x3), (5, .int x5)]) hx hb dX8_changeAhead_25 hl (Nat.le_of_ble_eq_true rfl) rfl (fun ls hl => ?_)
        exact w_X8_changeAhead_27 C hr ih σ x1 x2 x3 x5 x5 h _ _ _ hd (lv_sub hl [1, 2, 3, 4, 0, 5] rfl)
noncomputable def f_X8_changeAhead (F : Nat) (σ : St) (x1 : Int32) (x2 : Int32) (x3 : Int32) : Option Int32 :=
  f_X8_changeAhead_6 F F σ x1 x2 x3 0 1
set_option maxRecDepth 100000 in
set_option maxHeartbeats 4000000 in
theorem c_X8_changeAhead {l : Launch} {g : Gp} {X : va_W} (hE : E0 g) {F : Nat} {r' : Int32} {σ : St} {x1 : Int32} {x2 : Int32} {x3 : Int32} (h : f_X8_changeAhead F σ x1 x2 x3 = some r') : Ci l g yX8_changeAhead cX8_changeAhead 6 (some .int) 4 [.ref (ga g 40), .int x1, .int x2, .int x3] (wM g σ ++ X) r' (wM g σ ++ X) := by
  refine rHead hE (by decide +kernel) (Nat.le_of_ble_eq_true rfl) (fun p e s m below meth c C hr _ hd ls hl => ?_)
  have hx := C.1
  have hb := C.2.1
  have hl : lv_has ls 6 [(0, .ref (ga g 40)), (1, .int x1), (2, .int x2), (3, .int x3)] := hl
  generalize ([.ref (ga g 40), .int x1, .int x2, .int x3] : List Value).toArray = args at C ⊢
  have C : Cx g p s m args meth c cX8_changeAhead 6 RX8 := C
  rw [f_X8_changeAhead] at h
  refine lv_iconst (v := 0) hx hb dX8_changeAhead_0 ic_0 ?_
  refine lv_istore (lv' := [(4, .int 0), (0, .ref (ga g 40)), (1, .int x1), (2, .int x2), (3, .int x3)]) hx hb dX8_changeAhead_1 hl (Nat.le_of_ble_eq_true rfl) rfl (fun ls hl => ?_)
  refine lv_iconst (v := 1) hx hb dX8_changeAhead_3 ic_1 ?_
  refine lv_istore (lv' := [(5, .int 1), (4, .int 0), (0, .ref (ga g 40)), (1, .int x1), (2, .int x2), (3, .int x3)]) hx hb dX8_changeAhead_4 hl (Nat.le_of_ble_eq_true rfl) rfl (fun ls hl => ?_)
  exact w_X8_changeAhead_6 C hr _ σ x1 x2 x3 0 1 h _ _ _ hd (lv_sub hl [2, 3, 4, 5, 1, 0] rfl)
noncomputable def f_X8_close (F : Nat) (σ : St) (x1 : Int32) : Option (Int32 × St) :=
  cal (f_X8_isCopy F σ x1) (fun r1 => if r1 = 0 then (some (0, σ)) else (cal (f_X8_ofCopy F σ x1 2) (fun r3 => if r3 = 0 then (some (0, σ)) else (if inb ((60 + (4 * x1)) + 2) 7164 = true then bnd (sr σ 19 ((60 + (4 * x1)) + 2).toNatClampNeg 0) (fun t6 => some (1, t6)) else none))))
set_option maxRecDepth 100000 in
set_option maxHeartbeats 4000000 in
theorem c_X8_close {l : Launch} {g : Gp} {X : va_W} (hE : E0 g) {F : Nat} {r' : Int32} {σ' : St} {σ : St} {x1 : Int32} (h : f_X8_close F σ x1 = some (r', σ')) : Ci l g yX8_close cX8_close 2 (some .boolean) 2 [.ref (ga g 40), .int x1] (wM g σ ++ X) r' (wM g σ' ++ X) := by
  refine rHead hE (by decide +kernel) (Nat.le_of_ble_eq_true rfl) (fun p e s m below meth c C hr _ hd ls hl => ?_)
  have hx := C.1
  have hb := C.2.1
  have hl : lv_has ls 2 [(0, .ref (ga g 40)), (1, .int x1)] := hl
  generalize ([.ref (ga g 40), .int x1] : List Value).toArray = args at C ⊢
  have C : Cx g p s m args meth c cX8_close 2 RX8 := C
  rw [f_X8_close] at h
  refine lv_aload_n hx hb dX8_close_0 rfl (lv_at hl 0 rfl) ?_
  refine lv_iload_n hx hb dX8_close_1 rfl (lv_at hl 1 rfl) ?_
  obtain ⟨r1, er1, h⟩ := cal_e h
  refine rCallI C hd (c_X8_isCopy hE er1) kX8_301 0 rfl rfl rfl rfl hl.1 rfl (Nat.le_of_ble_eq_true rfl) ⟨(Nat.le_of_ble_eq_true rfl), (Nat.le_of_ble_eq_true rfl)⟩ ⟨Nat.le_refl _, Nat.le_refl _⟩ dX8_close_2 (fun H locs hd => ?_)
  refine lv_if_eq (tgt := 17) hx hb dX8_close_5 (by decide) (fun c2 => ?_) (fun c2 => ?_)
  · replace h := iteT c2 h
    refine lv_iconst (v := 0) hx hb dX8_close_17 ic_0 ?_
    exact rZretS (w := wM g) C hr hd h (by decide) dX8_close_18
  · replace h := iteF c2 h
    refine lv_aload_n hx hb dX8_close_8 rfl (lv_at hl 0 rfl) ?_
    refine lv_iload_n hx hb dX8_close_9 rfl (lv_at hl 1 rfl) ?_
    refine lv_iconst (v := 2) hx hb dX8_close_10 ic_2 ?_
    obtain ⟨r3, er3, h⟩ := cal_e h
    refine rCallI C hd (c_X8_ofCopy hE er3) kX8_286 0 rfl rfl rfl rfl hl.1 rfl (Nat.le_of_ble_eq_true rfl) ⟨(Nat.le_of_ble_eq_true rfl), (Nat.le_of_ble_eq_true rfl)⟩ ⟨Nat.le_refl _, Nat.le_refl _⟩ dX8_close_11 (fun H locs hd => ?_)
    refine lv_if_ne (tgt := 19) hx hb dX8_close_14 (by decide) (fun c4 => ?_) (fun c4 => ?_)
    · replace h := iteF c4 h
      refine lv_aload_n hx hb dX8_close_19 rfl (lv_at hl 0 rfl) ?_
      refine gX8_73 C hd dX8_close_20 ?_
      refine lv_bipush (v := 60) hx hb dX8_close_23 bi_60 ?_
      refine lv_iconst (v := 4) hx hb dX8_close_25 ic_4 ?_
      refine lv_iload_n hx hb dX8_close_26 rfl (lv_at hl 1 rfl) ?_
      refine lv_imul hx hb dX8_close_27 ?_
      refine lv_iadd hx hb dX8_close_28 ?_
      refine lv_iconst (v := 2) hx hb dX8_close_29 ic_2 ?_
      refine lv_iadd hx hb dX8_close_30 ?_
      refine lv_iconst (v := 0) hx hb dX8_close_31 ic_0 ?_
      obtain ⟨n5, h⟩ := chk h
      obtain ⟨t6, et6, h⟩ := bnd_e h
      refine st_wM_19 C hd (inb_i n5) et6 dX8_close_32 (fun H locs hd => ?_)
      refine lv_iconst (v := 1) hx hb dX8_close_33 ic_1 ?_
      exact rZretS (w := wM g) C hr hd h (by decide) dX8_close_34
    · replace h := iteT c4 h
      refine lv_iconst (v := 0) hx hb dX8_close_17 ic_0 ?_
      exact rZretS (w := wM g) C hr hd h (by decide) dX8_close_18
noncomputable def f_X8_newCopy_58 (F : Nat) : Nat → St → Int32 → Int32 → Option (Int32 × St)
  | 0, _, _, _ => none
  | n + 1, σ, x4, x6 => if 8 ≤ x6 then (bnd (sr σ 19 5 ((σ.2.1 19 5) + 1)) (fun t2 => some (x4, t2))) else (if inb (100 + (4 * ((8 * x4) + x6))) 7164 = true then bnd (sr σ 19 (100 + (4 * ((8 * x4) + x6))).toNatClampNeg 0) (fun t4 => bnd (x6 + 1) (fun v5 => f_X8_newCopy_58 F n t4 x4 v5)) else none)
set_option maxRecDepth 100000 in
set_option maxHeartbeats 4000000 in
theorem w_X8_newCopy_58 {F : Nat} {r' : Int32} {σ' : St}  (C : Cx g p s m args meth c cX8_newCopy 7 RX8) (hr : meth.sig.returnType = some .int) :
    (∀ (n : Nat) (σ : St) (x4 : Int32) (x6 : Int32), f_X8_newCopy_58 F n σ x4 x6 = some (r', σ') → ∀ (H : Heap) (locs : List Loc) (ls : Array Slot), Dy g (wM g σ ++ X) s H locs → lv_has ls 7 [(0, .ref (ga g 40)), (4, .int x4), (6, .int x6)] → W p l e (rmD 0) s m args below meth c H locs 0 0 (QI g below args s (wM g σ' ++ X) r') (F0 m 58 ls [])) := by
  have hx := C.1
  have hb := C.2.1
  have hE := C.2.2.2.2.2.2.2.2
  intro n
  induction n with
  | zero =>
    intro σ x4 x6 h
    cases h
  | succ n ih =>
    intro σ x4 x6 h H locs ls hd hl
    rw [f_X8_newCopy_58] at h
    refine lv_iload hx hb dX8_newCopy_58 (lv_at hl 2 rfl) ?_
    refine lv_bipush (v := 8) hx hb dX8_newCopy_60 bi_8 ?_
    refine lv_icmp_ge (tgt := 90) hx hb dX8_newCopy_62 (by decide) (fun c1 => ?_) (fun c1 => ?_)
    · replace h := iteT c1 h
      refine lv_aload_n hx hb dX8_newCopy_90 rfl (lv_at hl 0 rfl) ?_
      refine gX8_73 C hd dX8_newCopy_91 ?_
      refine lv_iconst (v := 5) hx hb dX8_newCopy_94 ic_5 ?_
      refine lv_dup2_11 hx hb dX8_newCopy_95 rfl rfl ?_
      refine ldc_wM_19 C hd cl_5 (inb_i (by decide +kernel)) dX8_newCopy_96 ?_
      refine lv_iconst (v := 1) hx hb dX8_newCopy_97 ic_1 ?_
      refine lv_iadd hx hb dX8_newCopy_98 ?_
      obtain ⟨t2, et2, h⟩ := bnd_e h
      refine stc_wM_19 C hd cl_5 (inb_i (by decide +kernel)) et2 dX8_newCopy_99 (fun H locs hd => ?_)
      refine lv_iload hx hb dX8_newCopy_100 (lv_at hl 1 rfl) ?_
      exact rIretS (w := wM g) C hr hd h dX8_newCopy_102
    · replace h := iteF c1 h
      refine lv_aload_n hx hb dX8_newCopy_65 rfl (lv_at hl 0 rfl) ?_
      refine gX8_73 C hd dX8_newCopy_66 ?_
      refine lv_bipush (v := 100) hx hb dX8_newCopy_69 bi_100 ?_
      refine lv_iconst (v := 4) hx hb dX8_newCopy_71 ic_4 ?_
      refine lv_bipush (v := 8) hx hb dX8_newCopy_72 bi_8 ?_
      refine lv_iload hx hb dX8_newCopy_74 (lv_at hl 1 rfl) ?_
      refine lv_imul hx hb dX8_newCopy_76 ?_
      refine lv_iload hx hb dX8_newCopy_77 (lv_at hl 2 rfl) ?_
      refine lv_iadd hx hb dX8_newCopy_79 ?_
      refine lv_imul hx hb dX8_newCopy_80 ?_
      refine lv_iadd hx hb dX8_newCopy_81 ?_
      refine lv_iconst (v := 0) hx hb dX8_newCopy_82 ic_0 ?_
      obtain ⟨n3, h⟩ := chk h
      obtain ⟨t4, et4, h⟩ := bnd_e h
      refine st_wM_19 C hd (inb_i n3) et4 dX8_newCopy_83 (fun H locs hd => ?_)
      obtain ⟨v5, ev5, h⟩ := bnd_e h
      refine lv_iinc (v := v5) (lv' := [(6, .int v5), (0, .ref (ga g 40)), (4, .int x4)]) hx hb dX8_newCopy_84 hl (k := 2) rfl ((ii_1 _).trans ev5.symm) (Nat.le_of_ble_eq_true rfl) rfl (fun ls hl => ?_)
      refine lv_goto (tgt := 58) hx hb dX8_newCopy_87 (by decide) ?_
      exact ih t4 x4 v5 h _ _ _ hd (lv_sub hl [1, 2, 0] rfl)
noncomputable def f_X8_newCopy (F : Nat) (σ : St) (x1 : Int32) (x2 : Int32) (x3 : Int32) : Option (Int32 × St) :=
  bnd (σ.2.1 19 5) (fun v1 => bnd (60 + (4 * v1)) (fun v2 => if inb v2 7164 = true then bnd (sr σ 19 v2.toNatClampNeg x1) (fun t4 => if inb (v2 + 1) 7164 = true then bnd (sr t4 19 (v2 + 1).toNatClampNeg x2) (fun t6 => if inb (v2 + 2) 7164 = true then bnd (sr t6 19 (v2 + 2).toNatClampNeg x3) (fun t8 => if inb (v2 + 3) 7164 = true then bnd (sr t8 19 (v2 + 3).toNatClampNeg 0) (fun t10 => f_X8_newCopy_58 F F t10 v1 0) else none) else none) else none) else none))
set_option maxRecDepth 100000 in
set_option maxHeartbeats 4000000 in
theorem c_X8_newCopy {l : Launch} {g : Gp} {X : va_W} (hE : E0 g) {F : Nat} {r' : Int32} {σ' : St} {σ : St} {x1 : Int32} {x2 : Int32} {x3 : Int32} (h : f_X8_newCopy F σ x1 x2 x3 = some (r', σ')) : Ci l g yX8_newCopy cX8_newCopy 7 (some .int) 0 [.ref (ga g 40), .int x1, .int x2, .int x3] (wM g σ ++ X) r' (wM g σ' ++ X) := by
  refine rHead hE (by decide +kernel) (Nat.le_of_ble_eq_true rfl) (fun p e s m below meth c C hr _ hd ls hl => ?_)
  have hx := C.1
  have hb := C.2.1
  have hl : lv_has ls 7 [(0, .ref (ga g 40)), (1, .int x1), (2, .int x2), (3, .int x3)] := hl
  generalize ([.ref (ga g 40), .int x1, .int x2, .int x3] : List Value).toArray = args at C ⊢
  have C : Cx g p s m args meth c cX8_newCopy 7 RX8 := C
  rw [f_X8_newCopy] at h
  refine lv_aload_n hx hb dX8_newCopy_0 rfl (lv_at hl 0 rfl) ?_
  refine gX8_73 C hd dX8_newCopy_1 ?_
  refine lv_iconst (v := 5) hx hb dX8_newCopy_4 ic_5 ?_
  refine ldc_wM_19 C hd cl_5 (inb_i (by decide +kernel)) dX8_newCopy_5 ?_
  obtain ⟨v1, ev1, h⟩ := bnd_e h
  refine rTop ev1 ?_
  refine lv_istore (lv' := [(4, .int v1), (0, .ref (ga g 40)), (1, .int x1), (2, .int x2), (3, .int x3)]) hx hb dX8_newCopy_6 hl (Nat.le_of_ble_eq_true rfl) rfl (fun ls hl => ?_)
  refine lv_bipush (v := 60) hx hb dX8_newCopy_8 bi_60 ?_
  refine lv_iconst (v := 4) hx hb dX8_newCopy_10 ic_4 ?_
  refine lv_iload hx hb dX8_newCopy_11 (lv_at hl 0 rfl) ?_
  refine lv_imul hx hb dX8_newCopy_13 ?_
  refine lv_iadd hx hb dX8_newCopy_14 ?_
  obtain ⟨v2, ev2, h⟩ := bnd_e h
  refine rTop ev2 ?_
  refine lv_istore (lv' := [(5, .int v2), (4, .int v1), (0, .ref (ga g 40)), (1, .int x1), (2, .int x2), (3, .int x3)]) hx hb dX8_newCopy_15 hl (Nat.le_of_ble_eq_true rfl) rfl (fun ls hl => ?_)
  refine lv_aload_n hx hb dX8_newCopy_17 rfl (lv_at hl 2 rfl) ?_
  refine gX8_73 C hd dX8_newCopy_18 ?_
  refine lv_iload hx hb dX8_newCopy_21 (lv_at hl 0 rfl) ?_
  refine lv_iload_n hx hb dX8_newCopy_23 rfl (lv_at hl 3 rfl) ?_
  obtain ⟨n3, h⟩ := chk h
  obtain ⟨t4, et4, h⟩ := bnd_e h
  refine st_wM_19 C hd (inb_i n3) et4 dX8_newCopy_24 (fun H locs hd => ?_)
  refine lv_aload_n hx hb dX8_newCopy_25 rfl (lv_at hl 2 rfl) ?_
  refine gX8_73 C hd dX8_newCopy_26 ?_
  refine lv_iload hx hb dX8_newCopy_29 (lv_at hl 0 rfl) ?_
  refine lv_iconst (v := 1) hx hb dX8_newCopy_31 ic_1 ?_
  refine lv_iadd hx hb dX8_newCopy_32 ?_
  refine lv_iload_n hx hb dX8_newCopy_33 rfl (lv_at hl 4 rfl) ?_
  obtain ⟨n5, h⟩ := chk h
  obtain ⟨t6, et6, h⟩ := bnd_e h
  refine st_wM_19 C hd (inb_i n5) et6 dX8_newCopy_34 (fun H locs hd => ?_)
  refine lv_aload_n hx hb dX8_newCopy_35 rfl (lv_at hl 2 rfl) ?_
  refine gX8_73 C hd dX8_newCopy_36 ?_
  refine lv_iload hx hb dX8_newCopy_39 (lv_at hl 0 rfl) ?_
  refine lv_iconst (v := 2) hx hb dX8_newCopy_41 ic_2 ?_
  refine lv_iadd hx hb dX8_newCopy_42 ?_
  refine lv_iload_n hx hb dX8_newCopy_43 rfl (lv_at hl 5 rfl) ?_
  obtain ⟨n7, h⟩ := chk h
  obtain ⟨t8, et8, h⟩ := bnd_e h
  refine st_wM_19 C hd (inb_i n7) et8 dX8_newCopy_44 (fun H locs hd => ?_)
  refine lv_aload_n hx hb dX8_newCopy_45 rfl (lv_at hl 2 rfl) ?_
  refine gX8_73 C hd dX8_newCopy_46 ?_
  refine lv_iload hx hb dX8_newCopy_49 (lv_at hl 0 rfl) ?_
  refine lv_iconst (v := 3) hx hb dX8_newCopy_51 ic_3 ?_
  refine lv_iadd hx hb dX8_newCopy_52 ?_
  refine lv_iconst (v := 0) hx hb dX8_newCopy_53 ic_0 ?_
  obtain ⟨n9, h⟩ := chk h
  obtain ⟨t10, et10, h⟩ := bnd_e h
  refine st_wM_19 C hd (inb_i n9) et10 dX8_newCopy_54 (fun H locs hd => ?_)
  refine lv_iconst (v := 0) hx hb dX8_newCopy_55 ic_0 ?_
  refine lv_istore (lv' := [(6, .int 0), (5, .int v2), (4, .int v1), (0, .ref (ga g 40)), (1, .int x1), (2, .int x2), (3, .int x3)]) hx hb dX8_newCopy_56 hl (Nat.le_of_ble_eq_true rfl) rfl (fun ls hl => ?_)
  exact w_X8_newCopy_58 C hr _ t10 v1 0 h _ _ _ hd (lv_sub hl [3, 2, 0] rfl)
noncomputable def f_X8_takes (F : Nat) (σ : St) (x1 : Int32) (x2 : Int32) (x3 : Int32) (x4 : Int32) (x5 : Int32) : Option St :=
  bnd (100 + (4 * ((8 * x1) + x2))) (fun v1 => if inb v1 7164 = true then bnd (sr σ 19 v1.toNatClampNeg 1) (fun t3 => if inb (v1 + 1) 7164 = true then bnd (sr t3 19 (v1 + 1).toNatClampNeg x3) (fun t5 => if inb (v1 + 2) 7164 = true then bnd (sr t5 19 (v1 + 2).toNatClampNeg x4) (fun t7 => if inb (v1 + 3) 7164 = true then bnd (sr t7 19 (v1 + 3).toNatClampNeg x5) (fun t9 => some t9) else none) else none) else none) else none)
set_option maxRecDepth 100000 in
set_option maxHeartbeats 4000000 in
theorem c_X8_takes {l : Launch} {g : Gp} {X : va_W} (hE : E0 g) {F : Nat} {σ' : St} {σ : St} {x1 : Int32} {x2 : Int32} {x3 : Int32} {x4 : Int32} {x5 : Int32} (h : f_X8_takes F σ x1 x2 x3 x4 x5 = some σ') : Cv l g yX8_takes cX8_takes 7 0 [.ref (ga g 40), .int x1, .int x2, .int x3, .int x4, .int x5] (wM g σ ++ X) (wM g σ' ++ X) := by
  refine rHead hE (by decide +kernel) (Nat.le_of_ble_eq_true rfl) (fun p e s m below meth c C hr _ hd ls hl => ?_)
  have hx := C.1
  have hb := C.2.1
  have hl : lv_has ls 7 [(0, .ref (ga g 40)), (1, .int x1), (2, .int x2), (3, .int x3), (4, .int x4), (5, .int x5)] := hl
  generalize ([.ref (ga g 40), .int x1, .int x2, .int x3, .int x4, .int x5] : List Value).toArray = args at C ⊢
  have C : Cx g p s m args meth c cX8_takes 7 RX8 := C
  rw [f_X8_takes] at h
  refine lv_bipush (v := 100) hx hb dX8_takes_0 bi_100 ?_
  refine lv_iconst (v := 4) hx hb dX8_takes_2 ic_4 ?_
  refine lv_bipush (v := 8) hx hb dX8_takes_3 bi_8 ?_
  refine lv_iload_n hx hb dX8_takes_5 rfl (lv_at hl 1 rfl) ?_
  refine lv_imul hx hb dX8_takes_6 ?_
  refine lv_iload_n hx hb dX8_takes_7 rfl (lv_at hl 2 rfl) ?_
  refine lv_iadd hx hb dX8_takes_8 ?_
  refine lv_imul hx hb dX8_takes_9 ?_
  refine lv_iadd hx hb dX8_takes_10 ?_
  obtain ⟨v1, ev1, h⟩ := bnd_e h
  refine rTop ev1 ?_
  refine lv_istore (lv' := [(6, .int v1), (0, .ref (ga g 40)), (1, .int x1), (2, .int x2), (3, .int x3), (4, .int x4), (5, .int x5)]) hx hb dX8_takes_11 hl (Nat.le_of_ble_eq_true rfl) rfl (fun ls hl => ?_)
  refine lv_aload_n hx hb dX8_takes_13 rfl (lv_at hl 1 rfl) ?_
  refine gX8_73 C hd dX8_takes_14 ?_
  refine lv_iload hx hb dX8_takes_17 (lv_at hl 0 rfl) ?_
  refine lv_iconst (v := 1) hx hb dX8_takes_19 ic_1 ?_
  obtain ⟨n2, h⟩ := chk h
  obtain ⟨t3, et3, h⟩ := bnd_e h
  refine st_wM_19 C hd (inb_i n2) et3 dX8_takes_20 (fun H locs hd => ?_)
  refine lv_aload_n hx hb dX8_takes_21 rfl (lv_at hl 1 rfl) ?_
  refine gX8_73 C hd dX8_takes_22 ?_
  refine lv_iload hx hb dX8_takes_25 (lv_at hl 0 rfl) ?_
  refine lv_iconst (v := 1) hx hb dX8_takes_27 ic_1 ?_
  refine lv_iadd hx hb dX8_takes_28 ?_
  refine lv_iload_n hx hb dX8_takes_29 rfl (lv_at hl 4 rfl) ?_
  obtain ⟨n4, h⟩ := chk h
  obtain ⟨t5, et5, h⟩ := bnd_e h
  refine st_wM_19 C hd (inb_i n4) et5 dX8_takes_30 (fun H locs hd => ?_)
  refine lv_aload_n hx hb dX8_takes_31 rfl (lv_at hl 1 rfl) ?_
  refine gX8_73 C hd dX8_takes_32 ?_
  refine lv_iload hx hb dX8_takes_35 (lv_at hl 0 rfl) ?_
  refine lv_iconst (v := 2) hx hb dX8_takes_37 ic_2 ?_
  refine lv_iadd hx hb dX8_takes_38 ?_
  refine lv_iload hx hb dX8_takes_39 (lv_at hl 5 rfl) ?_
  obtain ⟨n6, h⟩ := chk h
  obtain ⟨t7, et7, h⟩ := bnd_e h
  refine st_wM_19 C hd (inb_i n6) et7 dX8_takes_41 (fun H locs hd => ?_)
  refine lv_aload_n hx hb dX8_takes_42 rfl (lv_at hl 1 rfl) ?_
  refine gX8_73 C hd dX8_takes_43 ?_
  refine lv_iload hx hb dX8_takes_46 (lv_at hl 0 rfl) ?_
  refine lv_iconst (v := 3) hx hb dX8_takes_48 ic_3 ?_
  refine lv_iadd hx hb dX8_takes_49 ?_
  refine lv_iload hx hb dX8_takes_50 (lv_at hl 6 rfl) ?_
  obtain ⟨n8, h⟩ := chk h
  obtain ⟨t9, et9, h⟩ := bnd_e h
  refine st_wM_19 C hd (inb_i n8) et9 dX8_takes_52 (fun H locs hd => ?_)
  exact rVretS (w := wM g) C hr hd h dX8_takes_53
noncomputable def f_X8_combine_45 (F : Nat) : Nat → St → Int32 → Int32 → Int32 → Option (Int32 × St)
  | 0, _, _, _, _ => none
  | n + 1, σ, x1, x2, x3 => if (σ.2.1 19 0) ≤ x3 then (some (x2, σ)) else (cal (f_X8_takenAt F σ x1 x3) (fun r2 => if inb (r2 + 1) 7164 = true then if inb (r2 + 2) 7164 = true then if inb (r2 + 3) 7164 = true then cal (f_X8_takes F σ x2 x3 (σ.2.1 19 (r2 + 1).toNatClampNeg) (σ.2.1 19 (r2 + 2).toNatClampNeg) (σ.2.1 19 (r2 + 3).toNatClampNeg)) (fun t6 => bnd (x3 + 1) (fun v7 => f_X8_combine_45 F n t6 x1 x2 v7)) else none else none else none))
set_option maxRecDepth 100000 in
set_option maxHeartbeats 4000000 in
theorem w_X8_combine_45 {F : Nat} {r' : Int32} {σ' : St}  (C : Cx g p s m args meth c cX8_combine 5 RX8) (hr : meth.sig.returnType = some .int) :
    (∀ (n : Nat) (σ : St) (x1 : Int32) (x2 : Int32) (x3 : Int32), f_X8_combine_45 F n σ x1 x2 x3 = some (r', σ') → ∀ (H : Heap) (locs : List Loc) (ls : Array Slot), Dy g (wM g σ ++ X) s H locs → lv_has ls 5 [(0, .ref (ga g 40)), (1, .int x1), (2, .int x2), (3, .int x3)] → W p l e (rmD 3) s m args below meth c H locs 0 0 (QI g below args s (wM g σ' ++ X) r') (F0 m 45 ls [])) := by
  have hx := C.1
  have hb := C.2.1
  have hE := C.2.2.2.2.2.2.2.2
  intro n
  induction n with
  | zero =>
    intro σ x1 x2 x3 h
    cases h
  | succ n ih =>
    intro σ x1 x2 x3 h H locs ls hd hl
    rw [f_X8_combine_45] at h
    refine lv_iload_n hx hb dX8_combine_45 rfl (lv_at hl 3 rfl) ?_
    refine lv_aload_n hx hb dX8_combine_46 rfl (lv_at hl 0 rfl) ?_
    refine gX8_73 C hd dX8_combine_47 ?_
    refine lv_iconst (v := 0) hx hb dX8_combine_50 ic_0 ?_
    refine ldc_wM_19 C hd cl_0 (inb_i (by decide +kernel)) dX8_combine_51 ?_
    refine lv_icmp_ge (tgt := 102) hx hb dX8_combine_52 (by decide) (fun c1 => ?_) (fun c1 => ?_)
    · replace h := iteT c1 h
      refine lv_iload_n hx hb dX8_combine_102 rfl (lv_at hl 2 rfl) ?_
      exact rIretS (w := wM g) C hr hd h dX8_combine_103
    · replace h := iteF c1 h
      refine lv_aload_n hx hb dX8_combine_55 rfl (lv_at hl 0 rfl) ?_
      refine lv_iload_n hx hb dX8_combine_56 rfl (lv_at hl 1 rfl) ?_
      refine lv_iload_n hx hb dX8_combine_57 rfl (lv_at hl 3 rfl) ?_
      obtain ⟨r2, er2, h⟩ := cal_e h
      refine rCallI C hd (c_X8_takenAt hE er2) kX8_289 0 rfl rfl rfl rfl hl.1 rfl (Nat.le_of_ble_eq_true rfl) ⟨(Nat.le_of_ble_eq_true rfl), (Nat.le_of_ble_eq_true rfl)⟩ ⟨Nat.le_refl _, Nat.le_refl _⟩ dX8_combine_58 (fun H locs hd => ?_)
      refine lv_istore (lv' := [(4, .int r2), (0, .ref (ga g 40)), (1, .int x1), (2, .int x2), (3, .int x3)]) hx hb dX8_combine_61 hl (Nat.le_of_ble_eq_true rfl) rfl (fun ls hl => ?_)
      refine lv_aload_n hx hb dX8_combine_63 rfl (lv_at hl 1 rfl) ?_
      refine lv_iload_n hx hb dX8_combine_64 rfl (lv_at hl 3 rfl) ?_
      refine lv_iload_n hx hb dX8_combine_65 rfl (lv_at hl 4 rfl) ?_
      refine lv_aload_n hx hb dX8_combine_66 rfl (lv_at hl 1 rfl) ?_
      refine gX8_73 C hd dX8_combine_67 ?_
      refine lv_iload hx hb dX8_combine_70 (lv_at hl 0 rfl) ?_
      refine lv_iconst (v := 1) hx hb dX8_combine_72 ic_1 ?_
      refine lv_iadd hx hb dX8_combine_73 ?_
      obtain ⟨n3, h⟩ := chk h
      refine ld_wM_19 C hd (inb_i n3) dX8_combine_74 ?_
      refine lv_aload_n hx hb dX8_combine_75 rfl (lv_at hl 1 rfl) ?_
      refine gX8_73 C hd dX8_combine_76 ?_
      refine lv_iload hx hb dX8_combine_79 (lv_at hl 0 rfl) ?_
      refine lv_iconst (v := 2) hx hb dX8_combine_81 ic_2 ?_
      refine lv_iadd hx hb dX8_combine_82 ?_
      obtain ⟨n4, h⟩ := chk h
      refine ld_wM_19 C hd (inb_i n4) dX8_combine_83 ?_
      refine lv_aload_n hx hb dX8_combine_84 rfl (lv_at hl 1 rfl) ?_
      refine gX8_73 C hd dX8_combine_85 ?_
      refine lv_iload hx hb dX8_combine_88 (lv_at hl 0 rfl) ?_
      refine lv_iconst (v := 3) hx hb dX8_combine_90 ic_3 ?_
      refine lv_iadd hx hb dX8_combine_91 ?_
      obtain ⟨n5, h⟩ := chk h
      refine ld_wM_19 C hd (inb_i n5) dX8_combine_92 ?_
      obtain ⟨t6, et6, h⟩ := cal_e h
      refine rCallV C hd (c_X8_takes hE et6) kX8_346 0 rfl rfl rfl rfl hl.1 rfl (Nat.le_of_ble_eq_true rfl) ⟨(Nat.le_of_ble_eq_true rfl), (Nat.le_of_ble_eq_true rfl)⟩ ⟨Nat.le_refl _, Nat.le_refl _⟩ dX8_combine_93 (fun H locs hd => ?_)
      obtain ⟨v7, ev7, h⟩ := bnd_e h
      refine lv_iinc (v := v7) (lv' := [(3, .int v7), (4, .int r2), (0, .ref (ga g 40)), (1, .int x1), (2, .int x2)]) hx hb dX8_combine_96 hl (k := 4) rfl ((ii_1 _).trans ev7.symm) (Nat.le_of_ble_eq_true rfl) rfl (fun ls hl => ?_)
      refine lv_goto (tgt := 45) hx hb dX8_combine_99 (by decide) ?_
      exact ih t6 x1 x2 v7 h _ _ _ hd (lv_sub hl [2, 3, 4, 0] rfl)
noncomputable def f_X8_combine (F : Nat) (σ : St) (x1 : Int32) : Option (Int32 × St) :=
  cal (f_X8_isCopy F σ x1) (fun r1 => if r1 = 0 then (some ((-1 : Int32), σ)) else (cal (f_X8_isFit F σ x1) (fun r3 => if r3 = 0 then (some ((-1 : Int32), σ)) else (if (σ.2.1 19 5) = 10 then (some ((-1 : Int32), σ)) else (cal (f_X8_ofCopy F σ x1 0) (fun r6 => cal2 (f_X8_newCopy F σ r6 (-2 : Int32) 0) (fun r7 t8 => f_X8_combine_45 F F t8 x1 r7 0)))))))
set_option maxRecDepth 100000 in
set_option maxHeartbeats 4000000 in
theorem c_X8_combine {l : Launch} {g : Gp} {X : va_W} (hE : E0 g) {F : Nat} {r' : Int32} {σ' : St} {σ : St} {x1 : Int32} (h : f_X8_combine F σ x1 = some (r', σ')) : Ci l g yX8_combine cX8_combine 5 (some .int) 3 [.ref (ga g 40), .int x1] (wM g σ ++ X) r' (wM g σ' ++ X) := by
  refine rHead hE (by decide +kernel) (Nat.le_of_ble_eq_true rfl) (fun p e s m below meth c C hr _ hd ls hl => ?_)
  have hx := C.1
  have hb := C.2.1
  have hl : lv_has ls 5 [(0, .ref (ga g 40)), (1, .int x1)] := hl
  generalize ([.ref (ga g 40), .int x1] : List Value).toArray = args at C ⊢
  have C : Cx g p s m args meth c cX8_combine 5 RX8 := C
  rw [f_X8_combine] at h
  refine lv_aload_n hx hb dX8_combine_0 rfl (lv_at hl 0 rfl) ?_
  refine lv_iload_n hx hb dX8_combine_1 rfl (lv_at hl 1 rfl) ?_
  obtain ⟨r1, er1, h⟩ := cal_e h
  refine rCallI C hd (c_X8_isCopy hE er1) kX8_301 0 rfl rfl rfl rfl hl.1 rfl (Nat.le_of_ble_eq_true rfl) ⟨(Nat.le_of_ble_eq_true rfl), (Nat.le_of_ble_eq_true rfl)⟩ ⟨Nat.le_refl _, Nat.le_refl _⟩ dX8_combine_2 (fun H locs hd => ?_)
  refine lv_if_eq (tgt := 27) hx hb dX8_combine_5 (by decide) (fun c2 => ?_) (fun c2 => ?_)
  · replace h := iteT c2 h
    refine lv_iconst (v := (-1 : Int32)) hx hb dX8_combine_27 ic_m1 ?_
    exact rIretS (w := wM g) C hr hd h dX8_combine_28
  · replace h := iteF c2 h
    refine lv_aload_n hx hb dX8_combine_8 rfl (lv_at hl 0 rfl) ?_
    refine lv_iload_n hx hb dX8_combine_9 rfl (lv_at hl 1 rfl) ?_
    obtain ⟨r3, er3, h⟩ := cal_e h
    refine rCallI C hd (c_X8_isFit hE er3) kX8_307 0 rfl rfl rfl rfl hl.1 rfl (Nat.le_of_ble_eq_true rfl) ⟨(Nat.le_of_ble_eq_true rfl), (Nat.le_of_ble_eq_true rfl)⟩ ⟨Nat.le_refl _, Nat.le_refl _⟩ dX8_combine_10 (fun H locs hd => ?_)
    refine lv_if_eq (tgt := 27) hx hb dX8_combine_13 (by decide) (fun c4 => ?_) (fun c4 => ?_)
    · replace h := iteT c4 h
      refine lv_iconst (v := (-1 : Int32)) hx hb dX8_combine_27 ic_m1 ?_
      exact rIretS (w := wM g) C hr hd h dX8_combine_28
    · replace h := iteF c4 h
      refine lv_aload_n hx hb dX8_combine_16 rfl (lv_at hl 0 rfl) ?_
      refine gX8_73 C hd dX8_combine_17 ?_
      refine lv_iconst (v := 5) hx hb dX8_combine_20 ic_5 ?_
      refine ldc_wM_19 C hd cl_5 (inb_i (by decide +kernel)) dX8_combine_21 ?_
      refine lv_bipush (v := 10) hx hb dX8_combine_22 bi_10 ?_
      refine lv_icmp_ne (tgt := 29) hx hb dX8_combine_24 (by decide) (fun c5 => ?_) (fun c5 => ?_)
      · replace h := iteF c5 h
        refine lv_aload_n hx hb dX8_combine_29 rfl (lv_at hl 0 rfl) ?_
        refine lv_aload_n hx hb dX8_combine_30 rfl (lv_at hl 0 rfl) ?_
        refine lv_iload_n hx hb dX8_combine_31 rfl (lv_at hl 1 rfl) ?_
        refine lv_iconst (v := 0) hx hb dX8_combine_32 ic_0 ?_
        obtain ⟨r6, er6, h⟩ := cal_e h
        refine rCallI C hd (c_X8_ofCopy hE er6) kX8_286 0 rfl rfl rfl rfl hl.1 rfl (Nat.le_of_ble_eq_true rfl) ⟨(Nat.le_of_ble_eq_true rfl), (Nat.le_of_ble_eq_true rfl)⟩ ⟨Nat.le_refl _, Nat.le_refl _⟩ dX8_combine_33 (fun H locs hd => ?_)
        refine lv_bipush (v := (-2 : Int32)) hx hb dX8_combine_36 bi_m2 ?_
        refine lv_iconst (v := 0) hx hb dX8_combine_38 ic_0 ?_
        obtain ⟨r7, t8, et8, h⟩ := cal2_e h
        refine rCallI C hd (c_X8_newCopy hE et8) kX8_340 0 rfl rfl rfl rfl hl.1 rfl (Nat.le_of_ble_eq_true rfl) ⟨(Nat.le_of_ble_eq_true rfl), (Nat.le_of_ble_eq_true rfl)⟩ ⟨Nat.le_refl _, Nat.le_refl _⟩ dX8_combine_39 (fun H locs hd => ?_)
        refine lv_istore_n (lv' := [(2, .int r7), (0, .ref (ga g 40)), (1, .int x1)]) hx hb dX8_combine_42 rfl hl (Nat.le_of_ble_eq_true rfl) rfl (fun ls hl => ?_)
        refine lv_iconst (v := 0) hx hb dX8_combine_43 ic_0 ?_
        refine lv_istore_n (lv' := [(3, .int 0), (2, .int r7), (0, .ref (ga g 40)), (1, .int x1)]) hx hb dX8_combine_44 rfl hl (Nat.le_of_ble_eq_true rfl) rfl (fun ls hl => ?_)
        exact w_X8_combine_45 C hr _ t8 x1 r7 0 h _ _ _ hd (lv_sub hl [2, 3, 1, 0] rfl)
      · replace h := iteT c5 h
        refine lv_iconst (v := (-1 : Int32)) hx hb dX8_combine_27 ic_m1 ?_
        exact rIretS (w := wM g) C hr hd h dX8_combine_28
noncomputable def f_X8_emit (F : Nat) (σ : St) (x1 : Int32) (x2 : Int32) : Option St :=
  if inb (σ.1 13) 420 = true then bnd (sr σ 13 (σ.1 13).toNatClampNeg x1) (fun t2 => if inb (t2.1 13) 420 = true then bnd (sr t2 14 (t2.1 13).toNatClampNeg x2) (fun t4 => bnd (ss t4 13 ((t4.1 13) + 1)) (fun t5 => some t5)) else none) else none
set_option maxRecDepth 100000 in
set_option maxHeartbeats 4000000 in
theorem c_X8_emit {l : Launch} {g : Gp} {X : va_W} (hE : E0 g) {F : Nat} {σ' : St} {σ : St} {x1 : Int32} {x2 : Int32} (h : f_X8_emit F σ x1 x2 = some σ') : Cv l g yX8_emit cX8_emit 3 0 [.ref (ga g 40), .int x1, .int x2] (wM g σ ++ X) (wM g σ' ++ X) := by
  refine rHead hE (by decide +kernel) (Nat.le_of_ble_eq_true rfl) (fun p e s m below meth c C hr _ hd ls hl => ?_)
  have hx := C.1
  have hb := C.2.1
  have hl : lv_has ls 3 [(0, .ref (ga g 40)), (1, .int x1), (2, .int x2)] := hl
  generalize ([.ref (ga g 40), .int x1, .int x2] : List Value).toArray = args at C ⊢
  have C : Cx g p s m args meth c cX8_emit 3 RX8 := C
  rw [f_X8_emit] at h
  refine lv_aload_n hx hb dX8_emit_0 rfl (lv_at hl 0 rfl) ?_
  refine gX8_55 C hd dX8_emit_1 ?_
  refine lv_aload_n hx hb dX8_emit_4 rfl (lv_at hl 0 rfl) ?_
  refine gX8_171 C hd dX8_emit_5 ?_
  refine lv_iload_n hx hb dX8_emit_8 rfl (lv_at hl 1 rfl) ?_
  obtain ⟨n1, h⟩ := chk h
  obtain ⟨t2, et2, h⟩ := bnd_e h
  refine st_wM_13 C hd (inb_i n1) et2 dX8_emit_9 (fun H locs hd => ?_)
  refine lv_aload_n hx hb dX8_emit_10 rfl (lv_at hl 0 rfl) ?_
  refine gX8_58 C hd dX8_emit_11 ?_
  refine lv_aload_n hx hb dX8_emit_14 rfl (lv_at hl 0 rfl) ?_
  refine gX8_171 C hd dX8_emit_15 ?_
  refine lv_iload_n hx hb dX8_emit_18 rfl (lv_at hl 2 rfl) ?_
  obtain ⟨n3, h⟩ := chk h
  obtain ⟨t4, et4, h⟩ := bnd_e h
  refine st_wM_14 C hd (inb_i n3) et4 dX8_emit_19 (fun H locs hd => ?_)
  refine lv_aload_n hx hb dX8_emit_20 rfl (lv_at hl 0 rfl) ?_
  refine lv_dup hx hb dX8_emit_21 rfl ?_
  refine gX8_171 C hd dX8_emit_22 ?_
  refine lv_iconst (v := 1) hx hb dX8_emit_25 ic_1 ?_
  refine lv_iadd hx hb dX8_emit_26 ?_
  obtain ⟨t5, et5, h⟩ := bnd_e h
  refine pX8_171 C hd et5 dX8_emit_27 (fun H locs hd => ?_)
  exact rVretS (w := wM g) C hr hd h dX8_emit_30
noncomputable def f_X8_comesOut_95 (F : Nat) (k_0 : St → Int32 → Option St) (σ : St) (x1 : Int32) (y0 : Int32) : Option St :=
  cal (f_X8_emit F σ y0 0) (fun t1 => k_0 t1 x1)
set_option maxRecDepth 100000 in
set_option maxHeartbeats 4000000 in
theorem w_X8_comesOut_95 {F : Nat} {σ' : St}  (C : Cx g p s m args meth c cX8_comesOut 3 RX8) (hr : meth.sig.returnType = none)
    {k_0 : St → Int32 → Option St} (hk_0 : (∀ (σ : St) (x1 : Int32), k_0 σ x1 = some σ' → ∀ (H : Heap) (locs : List Loc) (ls : Array Slot), Dy g (wM g σ ++ X) s H locs → lv_has ls 3 [(0, .ref (ga g 40)), (1, .int x1)] → W p l e (rmD 1) s m args below meth c H locs 0 0 (QV g below args s (wM g σ' ++ X)) (F0 m 0 ls []))) :
    (∀ (σ : St) (x1 : Int32) (y0 : Int32), f_X8_comesOut_95 F k_0 σ x1 y0 = some σ' → ∀ (H : Heap) (locs : List Loc) (ls : Array Slot), Dy g (wM g σ ++ X) s H locs → lv_has ls 3 [(0, .ref (ga g 40)), (1, .int x1)] → W p l e (rmD 1) s m args below meth c H locs 0 0 (QV g below args s (wM g σ' ++ X)) (F0 m 95 ls [.int y0, .ref (ga g 40)])) := by
  have hx := C.1
  have hb := C.2.1
  have hE := C.2.2.2.2.2.2.2.2
  intro σ x1 y0 h H locs ls hd hl
  rw [f_X8_comesOut_95] at h
  refine lv_iconst (v := 0) hx hb dX8_comesOut_95 ic_0 ?_
  obtain ⟨t1, et1, h⟩ := cal_e h
  refine rCallV C hd (c_X8_emit hE et1) kX8_207 0 rfl rfl rfl rfl hl.1 rfl (Nat.le_of_ble_eq_true rfl) ⟨(Nat.le_of_ble_eq_true rfl), (Nat.le_of_ble_eq_true rfl)⟩ ⟨Nat.le_refl _, Nat.le_refl _⟩ dX8_comesOut_96 (fun H locs hd => ?_)
  refine lv_goto (tgt := 0) hx hb dX8_comesOut_99 (by decide) ?_
  exact hk_0 t1 x1 h _ _ _ hd (lv_sub hl [0, 1] rfl)
noncomputable def f_X8_comesOut_42 (F : Nat) (k_0 : St → Int32 → Option St) (σ : St) (x1 : Int32) (x2 : Int32) : Option St :=
  bnd (ss σ 14 ((σ.1 14) - 1)) (fun t1 => if x2 = 8 then (f_X8_comesOut_95 F k_0 t1 x1 2) else (if x2 = 9 then (f_X8_comesOut_95 F k_0 t1 x1 3) else (if x2 = 10 then (f_X8_comesOut_95 F k_0 t1 x1 4) else (if x2 = 15 then (f_X8_comesOut_95 F k_0 t1 x1 5) else (f_X8_comesOut_95 F k_0 t1 x1 6)))))
set_option maxRecDepth 100000 in
set_option maxHeartbeats 4000000 in
theorem w_X8_comesOut_42 {F : Nat} {σ' : St}  (C : Cx g p s m args meth c cX8_comesOut 3 RX8) (hr : meth.sig.returnType = none)
    {k_0 : St → Int32 → Option St} (hk_0 : (∀ (σ : St) (x1 : Int32), k_0 σ x1 = some σ' → ∀ (H : Heap) (locs : List Loc) (ls : Array Slot), Dy g (wM g σ ++ X) s H locs → lv_has ls 3 [(0, .ref (ga g 40)), (1, .int x1)] → W p l e (rmD 1) s m args below meth c H locs 0 0 (QV g below args s (wM g σ' ++ X)) (F0 m 0 ls []))) :
    (∀ (σ : St) (x1 : Int32) (x2 : Int32), f_X8_comesOut_42 F k_0 σ x1 x2 = some σ' → ∀ (H : Heap) (locs : List Loc) (ls : Array Slot), Dy g (wM g σ ++ X) s H locs → lv_has ls 3 [(0, .ref (ga g 40)), (1, .int x1), (2, .int x2)] → W p l e (rmD 1) s m args below meth c H locs 0 0 (QV g below args s (wM g σ' ++ X)) (F0 m 42 ls [])) := by
  have hx := C.1
  have hb := C.2.1
  have hE := C.2.2.2.2.2.2.2.2
  intro σ x1 x2 h H locs ls hd hl
  rw [f_X8_comesOut_42] at h
  refine lv_aload_n hx hb dX8_comesOut_42 rfl (lv_at hl 0 rfl) ?_
  refine lv_dup hx hb dX8_comesOut_43 rfl ?_
  refine gX8_204 C hd dX8_comesOut_44 ?_
  refine lv_iconst (v := 1) hx hb dX8_comesOut_47 ic_1 ?_
  refine lv_isub hx hb dX8_comesOut_48 ?_
  obtain ⟨t1, et1, h⟩ := bnd_e h
  refine pX8_204 C hd et1 dX8_comesOut_49 (fun H locs hd => ?_)
  refine lv_aload_n hx hb dX8_comesOut_52 rfl (lv_at hl 0 rfl) ?_
  refine lv_iload_n hx hb dX8_comesOut_53 rfl (lv_at hl 2 rfl) ?_
  refine lv_bipush (v := 8) hx hb dX8_comesOut_54 bi_8 ?_
  refine lv_icmp_ne (tgt := 63) hx hb dX8_comesOut_56 (by decide) (fun c2 => ?_) (fun c2 => ?_)
  · replace h := iteF c2 h
    refine lv_iload_n hx hb dX8_comesOut_63 rfl (lv_at hl 2 rfl) ?_
    refine lv_bipush (v := 9) hx hb dX8_comesOut_64 bi_9 ?_
    refine lv_icmp_ne (tgt := 73) hx hb dX8_comesOut_66 (by decide) (fun c3 => ?_) (fun c3 => ?_)
    · replace h := iteF c3 h
      refine lv_iload_n hx hb dX8_comesOut_73 rfl (lv_at hl 2 rfl) ?_
      refine lv_bipush (v := 10) hx hb dX8_comesOut_74 bi_10 ?_
      refine lv_icmp_ne (tgt := 83) hx hb dX8_comesOut_76 (by decide) (fun c4 => ?_) (fun c4 => ?_)
      · replace h := iteF c4 h
        refine lv_iload_n hx hb dX8_comesOut_83 rfl (lv_at hl 2 rfl) ?_
        refine lv_bipush (v := 15) hx hb dX8_comesOut_84 bi_15 ?_
        refine lv_icmp_ne (tgt := 93) hx hb dX8_comesOut_86 (by decide) (fun c5 => ?_) (fun c5 => ?_)
        · replace h := iteF c5 h
          refine lv_bipush (v := 6) hx hb dX8_comesOut_93 bi_6 ?_
          exact w_X8_comesOut_95 C hr hk_0 t1 x1 6 h _ _ _ hd (lv_sub hl [0, 1] rfl)
        · replace h := iteT c5 h
          refine lv_iconst (v := 5) hx hb dX8_comesOut_89 ic_5 ?_
          refine lv_goto (tgt := 95) hx hb dX8_comesOut_90 (by decide) ?_
          exact w_X8_comesOut_95 C hr hk_0 t1 x1 5 h _ _ _ hd (lv_sub hl [0, 1] rfl)
      · replace h := iteT c4 h
        refine lv_iconst (v := 4) hx hb dX8_comesOut_79 ic_4 ?_
        refine lv_goto (tgt := 95) hx hb dX8_comesOut_80 (by decide) ?_
        exact w_X8_comesOut_95 C hr hk_0 t1 x1 4 h _ _ _ hd (lv_sub hl [0, 1] rfl)
    · replace h := iteT c3 h
      refine lv_iconst (v := 3) hx hb dX8_comesOut_69 ic_3 ?_
      refine lv_goto (tgt := 95) hx hb dX8_comesOut_70 (by decide) ?_
      exact w_X8_comesOut_95 C hr hk_0 t1 x1 3 h _ _ _ hd (lv_sub hl [0, 1] rfl)
  · replace h := iteT c2 h
    refine lv_iconst (v := 2) hx hb dX8_comesOut_59 ic_2 ?_
    refine lv_goto (tgt := 95) hx hb dX8_comesOut_60 (by decide) ?_
    exact w_X8_comesOut_95 C hr hk_0 t1 x1 2 h _ _ _ hd (lv_sub hl [0, 1] rfl)
noncomputable def f_X8_comesOut_0 (F : Nat) : Nat → St → Int32 → Option St
  | 0, _, _ => none
  | n + 1, σ, x1 => if (σ.1 14) ≤ 0 then (some σ) else (if inb ((σ.1 14) - 1) 64 = true then bnd (σ.2.1 15 ((σ.1 14) - 1).toNatClampNeg) (fun v3 => if v3 = 6 then (some σ) else (if x1 = 0 then (f_X8_comesOut_42 F (f_X8_comesOut_0 F n) σ x1 v3) else (if v3 = 8 then (some σ) else (if v3 = 9 then (some σ) else (f_X8_comesOut_42 F (f_X8_comesOut_0 F n) σ x1 v3))))) else none)
set_option maxRecDepth 100000 in
set_option maxHeartbeats 4000000 in
theorem w_X8_comesOut_0 {F : Nat} {σ' : St}  (C : Cx g p s m args meth c cX8_comesOut 3 RX8) (hr : meth.sig.returnType = none) :
    (∀ (n : Nat) (σ : St) (x1 : Int32), f_X8_comesOut_0 F n σ x1 = some σ' → ∀ (H : Heap) (locs : List Loc) (ls : Array Slot), Dy g (wM g σ ++ X) s H locs → lv_has ls 3 [(0, .ref (ga g 40)), (1, .int x1)] → W p l e (rmD 1) s m args below meth c H locs 0 0 (QV g below args s (wM g σ' ++ X)) (F0 m 0 ls [])) := by
  have hx := C.1
  have hb := C.2.1
  have hE := C.2.2.2.2.2.2.2.2
  intro n
  induction n with
  | zero =>
    intro σ x1 h
    cases h
  | succ n ih =>
    intro σ x1 h H locs ls hd hl
    rw [f_X8_comesOut_0] at h
    refine lv_aload_n hx hb dX8_comesOut_0 rfl (lv_at hl 0 rfl) ?_
    refine gX8_204 C hd dX8_comesOut_1 ?_
    refine lv_if_le (tgt := 102) hx hb dX8_comesOut_4 (by decide) (fun c1 => ?_) (fun c1 => ?_)
    · replace h := iteT c1 h
      exact rVretS (w := wM g) C hr hd h dX8_comesOut_102
    · replace h := iteF c1 h
      refine lv_aload_n hx hb dX8_comesOut_7 rfl (lv_at hl 0 rfl) ?_
      refine gX8_61 C hd dX8_comesOut_8 ?_
      refine lv_aload_n hx hb dX8_comesOut_11 rfl (lv_at hl 0 rfl) ?_
      refine gX8_204 C hd dX8_comesOut_12 ?_
      refine lv_iconst (v := 1) hx hb dX8_comesOut_15 ic_1 ?_
      refine lv_isub hx hb dX8_comesOut_16 ?_
      obtain ⟨n2, h⟩ := chk h
      refine ld_wM_15 C hd (inb_i n2) dX8_comesOut_17 ?_
      obtain ⟨v3, ev3, h⟩ := bnd_e h
      refine rTop ev3 ?_
      refine lv_istore_n (lv' := [(2, .int v3), (0, .ref (ga g 40)), (1, .int x1)]) hx hb dX8_comesOut_18 rfl hl (Nat.le_of_ble_eq_true rfl) rfl (fun ls hl => ?_)
      refine lv_iload_n hx hb dX8_comesOut_19 rfl (lv_at hl 0 rfl) ?_
      refine lv_bipush (v := 6) hx hb dX8_comesOut_20 bi_6 ?_
      refine lv_icmp_eq (tgt := 41) hx hb dX8_comesOut_22 (by decide) (fun c4 => ?_) (fun c4 => ?_)
      · replace h := iteT c4 h
        exact rVretS (w := wM g) C hr hd h dX8_comesOut_41
      · replace h := iteF c4 h
        refine lv_iload_n hx hb dX8_comesOut_25 rfl (lv_at hl 2 rfl) ?_
        refine lv_if_eq (tgt := 42) hx hb dX8_comesOut_26 (by decide) (fun c5 => ?_) (fun c5 => ?_)
        · replace h := iteT c5 h
          exact w_X8_comesOut_42 C hr ih σ x1 v3 h _ _ _ hd (lv_sub hl [1, 2, 0] rfl)
        · replace h := iteF c5 h
          refine lv_iload_n hx hb dX8_comesOut_29 rfl (lv_at hl 0 rfl) ?_
          refine lv_bipush (v := 8) hx hb dX8_comesOut_30 bi_8 ?_
          refine lv_icmp_eq (tgt := 41) hx hb dX8_comesOut_32 (by decide) (fun c6 => ?_) (fun c6 => ?_)
          · replace h := iteT c6 h
            exact rVretS (w := wM g) C hr hd h dX8_comesOut_41
          · replace h := iteF c6 h
            refine lv_iload_n hx hb dX8_comesOut_35 rfl (lv_at hl 0 rfl) ?_
            refine lv_bipush (v := 9) hx hb dX8_comesOut_36 bi_9 ?_
            refine lv_icmp_ne (tgt := 42) hx hb dX8_comesOut_38 (by decide) (fun c7 => ?_) (fun c7 => ?_)
            · replace h := iteF c7 h
              exact w_X8_comesOut_42 C hr ih σ x1 v3 h _ _ _ hd (lv_sub hl [1, 2, 0] rfl)
            · replace h := iteT c7 h
              exact rVretS (w := wM g) C hr hd h dX8_comesOut_41
noncomputable def f_X8_comesOut (F : Nat) (σ : St) (x1 : Int32) : Option St :=
  f_X8_comesOut_0 F F σ x1
set_option maxRecDepth 100000 in
set_option maxHeartbeats 4000000 in
theorem c_X8_comesOut {l : Launch} {g : Gp} {X : va_W} (hE : E0 g) {F : Nat} {σ' : St} {σ : St} {x1 : Int32} (h : f_X8_comesOut F σ x1 = some σ') : Cv l g yX8_comesOut cX8_comesOut 3 1 [.ref (ga g 40), .int x1] (wM g σ ++ X) (wM g σ' ++ X) := by
  refine rHead hE (by decide +kernel) (Nat.le_of_ble_eq_true rfl) (fun p e s m below meth c C hr _ hd ls hl => ?_)
  have hx := C.1
  have hb := C.2.1
  have hl : lv_has ls 3 [(0, .ref (ga g 40)), (1, .int x1)] := hl
  generalize ([.ref (ga g 40), .int x1] : List Value).toArray = args at C ⊢
  have C : Cx g p s m args meth c cX8_comesOut 3 RX8 := C
  rw [f_X8_comesOut] at h
  exact w_X8_comesOut_0 C hr _ σ x1 h _ _ _ hd (lv_sub hl [0, 1] rfl)
noncomputable def f_X8_common_48 (F : Nat) : Nat → St → Int32 → Int32 → Int32 → Int32 → Option Int32
  | 0, _, _, _, _, _ => none
  | n + 1, σ, x1, x2, x3, x4 => if x3 ≤ x4 then (some x4) else (cal (f_X8_ownerOf F σ x1 (x4 + 1)) (fun r2 => cal (f_X8_ownerOf F σ x2 (x4 + 1)) (fun r3 => if r2 = r3 then (bnd (x4 + 1) (fun v5 => f_X8_common_48 F n σ x1 x2 x3 v5)) else (some x4))))
set_option maxRecDepth 100000 in
set_option maxHeartbeats 4000000 in
theorem w_X8_common_48 {F : Nat} {r' : Int32}  (C : Cx g p s m args meth c cX8_common 5 RX8) (hr : meth.sig.returnType = some .int) :
    (∀ (n : Nat) (σ : St) (x1 : Int32) (x2 : Int32) (x3 : Int32) (x4 : Int32), f_X8_common_48 F n σ x1 x2 x3 x4 = some r' → ∀ (H : Heap) (locs : List Loc) (ls : Array Slot), Dy g (wM g σ ++ X) s H locs → lv_has ls 5 [(0, .ref (ga g 40)), (1, .int x1), (2, .int x2), (3, .int x3), (4, .int x4)] → W p l e (rmD 2) s m args below meth c H locs 0 0 (QI g below args s (wM g σ ++ X) r') (F0 m 48 ls [])) := by
  have hx := C.1
  have hb := C.2.1
  have hE := C.2.2.2.2.2.2.2.2
  intro n
  induction n with
  | zero =>
    intro σ x1 x2 x3 x4 h
    cases h
  | succ n ih =>
    intro σ x1 x2 x3 x4 h H locs ls hd hl
    rw [f_X8_common_48] at h
    refine lv_iload hx hb dX8_common_48 (lv_at hl 4 rfl) ?_
    refine lv_iload_n hx hb dX8_common_50 rfl (lv_at hl 3 rfl) ?_
    refine lv_icmp_ge (tgt := 81) hx hb dX8_common_51 (by decide) (fun c1 => ?_) (fun c1 => ?_)
    · replace h := iteT c1 h
      refine lv_iload hx hb dX8_common_81 (lv_at hl 4 rfl) ?_
      exact rIretP C hr hd h dX8_common_83
    · replace h := iteF c1 h
      refine lv_aload_n hx hb dX8_common_54 rfl (lv_at hl 0 rfl) ?_
      refine lv_iload_n hx hb dX8_common_55 rfl (lv_at hl 1 rfl) ?_
      refine lv_iload hx hb dX8_common_56 (lv_at hl 4 rfl) ?_
      refine lv_iconst (v := 1) hx hb dX8_common_58 ic_1 ?_
      refine lv_iadd hx hb dX8_common_59 ?_
      obtain ⟨r2, er2, h⟩ := cal_e h
      refine rCallI C hd (c_X8_ownerOf hE er2) kX8_271 0 rfl rfl rfl rfl hl.1 rfl (Nat.le_of_ble_eq_true rfl) ⟨(Nat.le_of_ble_eq_true rfl), (Nat.le_of_ble_eq_true rfl)⟩ ⟨Nat.le_refl _, Nat.le_refl _⟩ dX8_common_60 (fun H locs hd => ?_)
      refine lv_aload_n hx hb dX8_common_63 rfl (lv_at hl 0 rfl) ?_
      refine lv_iload_n hx hb dX8_common_64 rfl (lv_at hl 2 rfl) ?_
      refine lv_iload hx hb dX8_common_65 (lv_at hl 4 rfl) ?_
      refine lv_iconst (v := 1) hx hb dX8_common_67 ic_1 ?_
      refine lv_iadd hx hb dX8_common_68 ?_
      obtain ⟨r3, er3, h⟩ := cal_e h
      refine rCallI C hd (c_X8_ownerOf hE er3) kX8_271 0 rfl rfl rfl rfl hl.1 rfl (Nat.le_of_ble_eq_true rfl) ⟨(Nat.le_of_ble_eq_true rfl), (Nat.le_of_ble_eq_true rfl)⟩ ⟨Nat.le_refl _, Nat.le_refl _⟩ dX8_common_69 (fun H locs hd => ?_)
      refine lv_icmp_ne (tgt := 81) hx hb dX8_common_72 (by decide) (fun c4 => ?_) (fun c4 => ?_)
      · replace h := iteF c4 h
        refine lv_iload hx hb dX8_common_81 (lv_at hl 4 rfl) ?_
        exact rIretP C hr hd h dX8_common_83
      · replace h := iteT c4 h
        obtain ⟨v5, ev5, h⟩ := bnd_e h
        refine lv_iinc (v := v5) (lv' := [(4, .int v5), (0, .ref (ga g 40)), (1, .int x1), (2, .int x2), (3, .int x3)]) hx hb dX8_common_75 hl (k := 4) rfl ((ii_1 _).trans ev5.symm) (Nat.le_of_ble_eq_true rfl) rfl (fun ls hl => ?_)
        refine lv_goto (tgt := 48) hx hb dX8_common_78 (by decide) ?_
        exact ih σ x1 x2 x3 v5 h _ _ _ hd (lv_sub hl [1, 2, 3, 4, 0] rfl)
noncomputable def f_X8_common_44 (F : Nat) (σ : St) (x1 : Int32) (x2 : Int32) (y0 : Int32) : Option Int32 :=
  f_X8_common_48 F F σ x1 x2 y0 0
set_option maxRecDepth 100000 in
set_option maxHeartbeats 4000000 in
theorem w_X8_common_44 {F : Nat} {r' : Int32}  (C : Cx g p s m args meth c cX8_common 5 RX8) (hr : meth.sig.returnType = some .int) :
    (∀ (σ : St) (x1 : Int32) (x2 : Int32) (y0 : Int32), f_X8_common_44 F σ x1 x2 y0 = some r' → ∀ (H : Heap) (locs : List Loc) (ls : Array Slot), Dy g (wM g σ ++ X) s H locs → lv_has ls 5 [(0, .ref (ga g 40)), (1, .int x1), (2, .int x2)] → W p l e (rmD 2) s m args below meth c H locs 0 0 (QI g below args s (wM g σ ++ X) r') (F0 m 44 ls [.int y0])) := by
  have hx := C.1
  have hb := C.2.1
  have hE := C.2.2.2.2.2.2.2.2
  intro σ x1 x2 y0 h H locs ls hd hl
  rw [f_X8_common_44] at h
  refine lv_istore_n (lv' := [(3, .int y0), (0, .ref (ga g 40)), (1, .int x1), (2, .int x2)]) hx hb dX8_common_44 rfl hl (Nat.le_of_ble_eq_true rfl) rfl (fun ls hl => ?_)
  refine lv_iconst (v := 0) hx hb dX8_common_45 ic_0 ?_
  refine lv_istore (lv' := [(4, .int 0), (3, .int y0), (0, .ref (ga g 40)), (1, .int x1), (2, .int x2)]) hx hb dX8_common_46 hl (Nat.le_of_ble_eq_true rfl) rfl (fun ls hl => ?_)
  exact w_X8_common_48 C hr _ σ x1 x2 y0 0 h _ _ _ hd (lv_sub hl [2, 3, 4, 1, 0] rfl)
noncomputable def f_X8_common (F : Nat) (σ : St) (x1 : Int32) (x2 : Int32) : Option Int32 :=
  cal (f_X8_isLine F σ x1) (fun r1 => if r1 = 0 then (some (-1 : Int32)) else (cal (f_X8_isLine F σ x2) (fun r3 => if r3 = 0 then (some (-1 : Int32)) else (cal (f_X8_placeOf F σ x1) (fun r5 => cal (f_X8_placeOf F σ x2) (fun r6 => if r6 ≤ r5 then (cal (f_X8_placeOf F σ x2) (fun r8 => f_X8_common_44 F σ x1 x2 r8)) else (cal (f_X8_placeOf F σ x1) (fun r9 => f_X8_common_44 F σ x1 x2 r9))))))))
set_option maxRecDepth 100000 in
set_option maxHeartbeats 4000000 in
theorem c_X8_common {l : Launch} {g : Gp} {X : va_W} (hE : E0 g) {F : Nat} {r' : Int32} {σ : St} {x1 : Int32} {x2 : Int32} (h : f_X8_common F σ x1 x2 = some r') : Ci l g yX8_common cX8_common 5 (some .int) 2 [.ref (ga g 40), .int x1, .int x2] (wM g σ ++ X) r' (wM g σ ++ X) := by
  refine rHead hE (by decide +kernel) (Nat.le_of_ble_eq_true rfl) (fun p e s m below meth c C hr _ hd ls hl => ?_)
  have hx := C.1
  have hb := C.2.1
  have hl : lv_has ls 5 [(0, .ref (ga g 40)), (1, .int x1), (2, .int x2)] := hl
  generalize ([.ref (ga g 40), .int x1, .int x2] : List Value).toArray = args at C ⊢
  have C : Cx g p s m args meth c cX8_common 5 RX8 := C
  rw [f_X8_common] at h
  refine lv_aload_n hx hb dX8_common_0 rfl (lv_at hl 0 rfl) ?_
  refine lv_iload_n hx hb dX8_common_1 rfl (lv_at hl 1 rfl) ?_
  obtain ⟨r1, er1, h⟩ := cal_e h
  refine rCallI C hd (c_X8_isLine hE er1) kX8_262 0 rfl rfl rfl rfl hl.1 rfl (Nat.le_of_ble_eq_true rfl) ⟨(Nat.le_of_ble_eq_true rfl), (Nat.le_of_ble_eq_true rfl)⟩ ⟨Nat.le_refl _, Nat.le_refl _⟩ dX8_common_2 (fun H locs hd => ?_)
  refine lv_if_eq (tgt := 16) hx hb dX8_common_5 (by decide) (fun c2 => ?_) (fun c2 => ?_)
  · replace h := iteT c2 h
    refine lv_iconst (v := (-1 : Int32)) hx hb dX8_common_16 ic_m1 ?_
    exact rIretP C hr hd h dX8_common_17
  · replace h := iteF c2 h
    refine lv_aload_n hx hb dX8_common_8 rfl (lv_at hl 0 rfl) ?_
    refine lv_iload_n hx hb dX8_common_9 rfl (lv_at hl 2 rfl) ?_
    obtain ⟨r3, er3, h⟩ := cal_e h
    refine rCallI C hd (c_X8_isLine hE er3) kX8_262 0 rfl rfl rfl rfl hl.1 rfl (Nat.le_of_ble_eq_true rfl) ⟨(Nat.le_of_ble_eq_true rfl), (Nat.le_of_ble_eq_true rfl)⟩ ⟨Nat.le_refl _, Nat.le_refl _⟩ dX8_common_10 (fun H locs hd => ?_)
    refine lv_if_ne (tgt := 18) hx hb dX8_common_13 (by decide) (fun c4 => ?_) (fun c4 => ?_)
    · replace h := iteF c4 h
      refine lv_aload_n hx hb dX8_common_18 rfl (lv_at hl 0 rfl) ?_
      refine lv_iload_n hx hb dX8_common_19 rfl (lv_at hl 1 rfl) ?_
      obtain ⟨r5, er5, h⟩ := cal_e h
      refine rCallI C hd (c_X8_placeOf hE er5) kX8_217 0 rfl rfl rfl rfl hl.1 rfl (Nat.le_of_ble_eq_true rfl) ⟨(Nat.le_of_ble_eq_true rfl), (Nat.le_of_ble_eq_true rfl)⟩ ⟨Nat.le_refl _, Nat.le_refl _⟩ dX8_common_20 (fun H locs hd => ?_)
      refine lv_aload_n hx hb dX8_common_23 rfl (lv_at hl 0 rfl) ?_
      refine lv_iload_n hx hb dX8_common_24 rfl (lv_at hl 2 rfl) ?_
      obtain ⟨r6, er6, h⟩ := cal_e h
      refine rCallI C hd (c_X8_placeOf hE er6) kX8_217 0 rfl rfl rfl rfl hl.1 rfl (Nat.le_of_ble_eq_true rfl) ⟨(Nat.le_of_ble_eq_true rfl), (Nat.le_of_ble_eq_true rfl)⟩ ⟨Nat.le_refl _, Nat.le_refl _⟩ dX8_common_25 (fun H locs hd => ?_)
      refine lv_icmp_ge (tgt := 39) hx hb dX8_common_28 (by decide) (fun c7 => ?_) (fun c7 => ?_)
      · replace h := iteT c7 h
        refine lv_aload_n hx hb dX8_common_39 rfl (lv_at hl 0 rfl) ?_
        refine lv_iload_n hx hb dX8_common_40 rfl (lv_at hl 2 rfl) ?_
        obtain ⟨r8, er8, h⟩ := cal_e h
        refine rCallI C hd (c_X8_placeOf hE er8) kX8_217 0 rfl rfl rfl rfl hl.1 rfl (Nat.le_of_ble_eq_true rfl) ⟨(Nat.le_of_ble_eq_true rfl), (Nat.le_of_ble_eq_true rfl)⟩ ⟨Nat.le_refl _, Nat.le_refl _⟩ dX8_common_41 (fun H locs hd => ?_)
        exact w_X8_common_44 C hr σ x1 x2 r8 h _ _ _ hd (lv_sub hl [0, 1, 2] rfl)
      · replace h := iteF c7 h
        refine lv_aload_n hx hb dX8_common_31 rfl (lv_at hl 0 rfl) ?_
        refine lv_iload_n hx hb dX8_common_32 rfl (lv_at hl 1 rfl) ?_
        obtain ⟨r9, er9, h⟩ := cal_e h
        refine rCallI C hd (c_X8_placeOf hE er9) kX8_217 0 rfl rfl rfl rfl hl.1 rfl (Nat.le_of_ble_eq_true rfl) ⟨(Nat.le_of_ble_eq_true rfl), (Nat.le_of_ble_eq_true rfl)⟩ ⟨Nat.le_refl _, Nat.le_refl _⟩ dX8_common_33 (fun H locs hd => ?_)
        refine lv_goto (tgt := 44) hx hb dX8_common_36 (by decide) ?_
        exact w_X8_common_44 C hr σ x1 x2 r9 h _ _ _ hd (lv_sub hl [0, 1, 2] rfl)
    · replace h := iteT c4 h
      refine lv_iconst (v := (-1 : Int32)) hx hb dX8_common_16 ic_m1 ?_
      exact rIretP C hr hd h dX8_common_17
noncomputable def f_X8_copy_26 (F : Nat) (σ : St) (x1 : Int32) : Option (Int32 × St) :=
  if x1 = (-1 : Int32) then (cal2 (f_X8_newCopy F σ (σ.2.1 19 3) (-2 : Int32) 1) (fun r4 t5 => some (r4, t5))) else (cal2 (f_X8_newCopy F σ (σ.2.1 19 3) x1 1) (fun r2 t3 => some (r2, t3)))
set_option maxRecDepth 100000 in
set_option maxHeartbeats 4000000 in
theorem w_X8_copy_26 {F : Nat} {r' : Int32} {σ' : St}  (C : Cx g p s m args meth c cX8_copy 2 RX8) (hr : meth.sig.returnType = some .int) :
    (∀ (σ : St) (x1 : Int32), f_X8_copy_26 F σ x1 = some (r', σ') → ∀ (H : Heap) (locs : List Loc) (ls : Array Slot), Dy g (wM g σ ++ X) s H locs → lv_has ls 2 [(0, .ref (ga g 40)), (1, .int x1)] → W p l e (rmD 2) s m args below meth c H locs 0 0 (QI g below args s (wM g σ' ++ X) r') (F0 m 26 ls [])) := by
  have hx := C.1
  have hb := C.2.1
  have hE := C.2.2.2.2.2.2.2.2
  intro σ x1 h H locs ls hd hl
  rw [f_X8_copy_26] at h
  refine lv_aload_n hx hb dX8_copy_26 rfl (lv_at hl 0 rfl) ?_
  refine lv_aload_n hx hb dX8_copy_27 rfl (lv_at hl 0 rfl) ?_
  refine gX8_73 C hd dX8_copy_28 ?_
  refine lv_iconst (v := 3) hx hb dX8_copy_31 ic_3 ?_
  refine ldc_wM_19 C hd cl_3 (inb_i (by decide +kernel)) dX8_copy_32 ?_
  refine lv_iload_n hx hb dX8_copy_33 rfl (lv_at hl 1 rfl) ?_
  refine lv_iconst (v := (-1 : Int32)) hx hb dX8_copy_34 ic_m1 ?_
  refine lv_icmp_ne (tgt := 43) hx hb dX8_copy_35 (by decide) (fun c1 => ?_) (fun c1 => ?_)
  · replace h := iteF c1 h
    refine lv_iload_n hx hb dX8_copy_43 rfl (lv_at hl 1 rfl) ?_
    refine lv_iconst (v := 1) hx hb dX8_copy_44 ic_1 ?_
    obtain ⟨r2, t3, et3, h⟩ := cal2_e h
    refine rCallI C hd (c_X8_newCopy hE et3) kX8_340 0 rfl rfl rfl rfl hl.1 rfl (Nat.le_of_ble_eq_true rfl) ⟨(Nat.le_of_ble_eq_true rfl), (Nat.le_of_ble_eq_true rfl)⟩ ⟨Nat.le_refl _, Nat.le_refl _⟩ dX8_copy_45 (fun H locs hd => ?_)
    exact rIretS (w := wM g) C hr hd h dX8_copy_48
  · replace h := iteT c1 h
    refine lv_bipush (v := (-2 : Int32)) hx hb dX8_copy_38 bi_m2 ?_
    refine lv_goto (tgt := 44) hx hb dX8_copy_40 (by decide) ?_
    refine lv_iconst (v := 1) hx hb dX8_copy_44 ic_1 ?_
    obtain ⟨r4, t5, et5, h⟩ := cal2_e h
    refine rCallI C hd (c_X8_newCopy hE et5) kX8_340 0 rfl rfl rfl rfl hl.1 rfl (Nat.le_of_ble_eq_true rfl) ⟨(Nat.le_of_ble_eq_true rfl), (Nat.le_of_ble_eq_true rfl)⟩ ⟨Nat.le_refl _, Nat.le_refl _⟩ dX8_copy_45 (fun H locs hd => ?_)
    exact rIretS (w := wM g) C hr hd h dX8_copy_48
noncomputable def f_X8_copy (F : Nat) (σ : St) (x1 : Int32) : Option (Int32 × St) :=
  if (σ.2.1 19 5) = 10 then (some ((-1 : Int32), σ)) else (if x1 = (-1 : Int32) then (f_X8_copy_26 F σ x1) else (cal (f_X8_isCopy F σ x1) (fun r3 => if r3 = 0 then (some ((-1 : Int32), σ)) else (f_X8_copy_26 F σ x1))))
set_option maxRecDepth 100000 in
set_option maxHeartbeats 4000000 in
theorem c_X8_copy {l : Launch} {g : Gp} {X : va_W} (hE : E0 g) {F : Nat} {r' : Int32} {σ' : St} {σ : St} {x1 : Int32} (h : f_X8_copy F σ x1 = some (r', σ')) : Ci l g yX8_copy cX8_copy 2 (some .int) 2 [.ref (ga g 40), .int x1] (wM g σ ++ X) r' (wM g σ' ++ X) := by
  refine rHead hE (by decide +kernel) (Nat.le_of_ble_eq_true rfl) (fun p e s m below meth c C hr _ hd ls hl => ?_)
  have hx := C.1
  have hb := C.2.1
  have hl : lv_has ls 2 [(0, .ref (ga g 40)), (1, .int x1)] := hl
  generalize ([.ref (ga g 40), .int x1] : List Value).toArray = args at C ⊢
  have C : Cx g p s m args meth c cX8_copy 2 RX8 := C
  rw [f_X8_copy] at h
  refine lv_aload_n hx hb dX8_copy_0 rfl (lv_at hl 0 rfl) ?_
  refine gX8_73 C hd dX8_copy_1 ?_
  refine lv_iconst (v := 5) hx hb dX8_copy_4 ic_5 ?_
  refine ldc_wM_19 C hd cl_5 (inb_i (by decide +kernel)) dX8_copy_5 ?_
  refine lv_bipush (v := 10) hx hb dX8_copy_6 bi_10 ?_
  refine lv_icmp_eq (tgt := 24) hx hb dX8_copy_8 (by decide) (fun c1 => ?_) (fun c1 => ?_)
  · replace h := iteT c1 h
    refine lv_iconst (v := (-1 : Int32)) hx hb dX8_copy_24 ic_m1 ?_
    exact rIretS (w := wM g) C hr hd h dX8_copy_25
  · replace h := iteF c1 h
    refine lv_iload_n hx hb dX8_copy_11 rfl (lv_at hl 1 rfl) ?_
    refine lv_iconst (v := (-1 : Int32)) hx hb dX8_copy_12 ic_m1 ?_
    refine lv_icmp_eq (tgt := 26) hx hb dX8_copy_13 (by decide) (fun c2 => ?_) (fun c2 => ?_)
    · replace h := iteT c2 h
      exact w_X8_copy_26 C hr σ x1 h _ _ _ hd (lv_sub hl [0, 1] rfl)
    · replace h := iteF c2 h
      refine lv_aload_n hx hb dX8_copy_16 rfl (lv_at hl 0 rfl) ?_
      refine lv_iload_n hx hb dX8_copy_17 rfl (lv_at hl 1 rfl) ?_
      obtain ⟨r3, er3, h⟩ := cal_e h
      refine rCallI C hd (c_X8_isCopy hE er3) kX8_301 0 rfl rfl rfl rfl hl.1 rfl (Nat.le_of_ble_eq_true rfl) ⟨(Nat.le_of_ble_eq_true rfl), (Nat.le_of_ble_eq_true rfl)⟩ ⟨Nat.le_refl _, Nat.le_refl _⟩ dX8_copy_18 (fun H locs hd => ?_)
      refine lv_if_ne (tgt := 26) hx hb dX8_copy_21 (by decide) (fun c4 => ?_) (fun c4 => ?_)
      · replace h := iteF c4 h
        exact w_X8_copy_26 C hr σ x1 h _ _ _ hd (lv_sub hl [0, 1] rfl)
      · replace h := iteT c4 h
        refine lv_iconst (v := (-1 : Int32)) hx hb dX8_copy_24 ic_m1 ?_
        exact rIretS (w := wM g) C hr hd h dX8_copy_25
noncomputable def f_X8_copyBits_45 (F : Nat) (k_4 : St → Int32 → Int32 → Int32 → Option Int32) (σ : St) (x1 : Int32) (x2 : Int32) (x3 : Int32) : Option Int32 :=
  bnd (x3 + 1) (fun v1 => k_4 σ x1 x2 v1)
set_option maxRecDepth 100000 in
set_option maxHeartbeats 4000000 in
theorem w_X8_copyBits_45 {F : Nat} {r' : Int32}  (C : Cx g p s m args meth c cX8_copyBits 4 RX8) (hr : meth.sig.returnType = some .int)
    {k_4 : St → Int32 → Int32 → Int32 → Option Int32} (hk_4 : (∀ (σ : St) (x1 : Int32) (x2 : Int32) (x3 : Int32), k_4 σ x1 x2 x3 = some r' → ∀ (H : Heap) (locs : List Loc) (ls : Array Slot), Dy g (wM g σ ++ X) s H locs → lv_has ls 4 [(0, .ref (ga g 40)), (1, .int x1), (2, .int x2), (3, .int x3)] → W p l e (rmD 3) s m args below meth c H locs 0 0 (QI g below args s (wM g σ ++ X) r') (F0 m 4 ls []))) :
    (∀ (σ : St) (x1 : Int32) (x2 : Int32) (x3 : Int32), f_X8_copyBits_45 F k_4 σ x1 x2 x3 = some r' → ∀ (H : Heap) (locs : List Loc) (ls : Array Slot), Dy g (wM g σ ++ X) s H locs → lv_has ls 4 [(0, .ref (ga g 40)), (1, .int x1), (2, .int x2), (3, .int x3)] → W p l e (rmD 3) s m args below meth c H locs 0 0 (QI g below args s (wM g σ ++ X) r') (F0 m 45 ls [])) := by
  have hx := C.1
  have hb := C.2.1
  have hE := C.2.2.2.2.2.2.2.2
  intro σ x1 x2 x3 h H locs ls hd hl
  rw [f_X8_copyBits_45] at h
  obtain ⟨v1, ev1, h⟩ := bnd_e h
  refine lv_iinc (v := v1) (lv' := [(3, .int v1), (0, .ref (ga g 40)), (1, .int x1), (2, .int x2)]) hx hb dX8_copyBits_45 hl (k := 3) rfl ((ii_1 _).trans ev1.symm) (Nat.le_of_ble_eq_true rfl) rfl (fun ls hl => ?_)
  refine lv_goto (tgt := 4) hx hb dX8_copyBits_48 (by decide) ?_
  exact hk_4 σ x1 x2 v1 h _ _ _ hd (lv_sub hl [1, 2, 3, 0] rfl)
noncomputable def f_X8_copyBits_39 (F : Nat) (k_4 : St → Int32 → Int32 → Int32 → Option Int32) (σ : St) (x1 : Int32) (x2 : Int32) (x3 : Int32) : Option Int32 :=
  bnd (x2 ||| (1 <<< (x3 &&& 31))) (fun v1 => f_X8_copyBits_45 F k_4 σ x1 v1 x3)
set_option maxRecDepth 100000 in
set_option maxHeartbeats 4000000 in
theorem w_X8_copyBits_39 {F : Nat} {r' : Int32}  (C : Cx g p s m args meth c cX8_copyBits 4 RX8) (hr : meth.sig.returnType = some .int)
    {k_4 : St → Int32 → Int32 → Int32 → Option Int32} (hk_4 : (∀ (σ : St) (x1 : Int32) (x2 : Int32) (x3 : Int32), k_4 σ x1 x2 x3 = some r' → ∀ (H : Heap) (locs : List Loc) (ls : Array Slot), Dy g (wM g σ ++ X) s H locs → lv_has ls 4 [(0, .ref (ga g 40)), (1, .int x1), (2, .int x2), (3, .int x3)] → W p l e (rmD 3) s m args below meth c H locs 0 0 (QI g below args s (wM g σ ++ X) r') (F0 m 4 ls []))) :
    (∀ (σ : St) (x1 : Int32) (x2 : Int32) (x3 : Int32), f_X8_copyBits_39 F k_4 σ x1 x2 x3 = some r' → ∀ (H : Heap) (locs : List Loc) (ls : Array Slot), Dy g (wM g σ ++ X) s H locs → lv_has ls 4 [(0, .ref (ga g 40)), (1, .int x1), (2, .int x2), (3, .int x3)] → W p l e (rmD 3) s m args below meth c H locs 0 0 (QI g below args s (wM g σ ++ X) r') (F0 m 39 ls [])) := by
  have hx := C.1
  have hb := C.2.1
  have hE := C.2.2.2.2.2.2.2.2
  intro σ x1 x2 x3 h H locs ls hd hl
  rw [f_X8_copyBits_39] at h
  refine lv_iload_n hx hb dX8_copyBits_39 rfl (lv_at hl 2 rfl) ?_
  refine lv_iconst (v := 1) hx hb dX8_copyBits_40 ic_1 ?_
  refine lv_iload_n hx hb dX8_copyBits_41 rfl (lv_at hl 3 rfl) ?_
  refine lv_ishl hx hb dX8_copyBits_42 ?_
  refine lv_ior hx hb dX8_copyBits_43 ?_
  obtain ⟨v1, ev1, h⟩ := bnd_e h
  refine rTop ev1 ?_
  refine lv_istore_n (lv' := [(2, .int v1), (0, .ref (ga g 40)), (1, .int x1), (3, .int x3)]) hx hb dX8_copyBits_44 rfl hl (Nat.le_of_ble_eq_true rfl) rfl (fun ls hl => ?_)
  exact w_X8_copyBits_45 C hr hk_4 σ x1 v1 x3 h _ _ _ hd (lv_sub hl [1, 2, 0, 3] rfl)
noncomputable def f_X8_copyBits_4 (F : Nat) : Nat → St → Int32 → Int32 → Int32 → Option Int32
  | 0, _, _, _, _ => none
  | n + 1, σ, x1, x2, x3 => if (σ.2.1 19 5) ≤ x3 then (some x2) else (if x1 = 0 then (cal (f_X8_isFit F σ x3) (fun r5 => if r5 = 0 then (f_X8_copyBits_45 F (f_X8_copyBits_4 F n) σ x1 x2 x3) else (f_X8_copyBits_39 F (f_X8_copyBits_4 F n) σ x1 x2 x3))) else (cal (f_X8_ofCopy F σ x3 x1) (fun r3 => if r3 = 1 then (f_X8_copyBits_39 F (f_X8_copyBits_4 F n) σ x1 x2 x3) else (f_X8_copyBits_45 F (f_X8_copyBits_4 F n) σ x1 x2 x3))))
set_option maxRecDepth 100000 in
set_option maxHeartbeats 4000000 in
theorem w_X8_copyBits_4 {F : Nat} {r' : Int32}  (C : Cx g p s m args meth c cX8_copyBits 4 RX8) (hr : meth.sig.returnType = some .int) :
    (∀ (n : Nat) (σ : St) (x1 : Int32) (x2 : Int32) (x3 : Int32), f_X8_copyBits_4 F n σ x1 x2 x3 = some r' → ∀ (H : Heap) (locs : List Loc) (ls : Array Slot), Dy g (wM g σ ++ X) s H locs → lv_has ls 4 [(0, .ref (ga g 40)), (1, .int x1), (2, .int x2), (3, .int x3)] → W p l e (rmD 3) s m args below meth c H locs 0 0 (QI g below args s (wM g σ ++ X) r') (F0 m 4 ls [])) := by
  have hx := C.1
  have hb := C.2.1
  have hE := C.2.2.2.2.2.2.2.2
  intro n
  induction n with
  | zero =>
    intro σ x1 x2 x3 h
    cases h
  | succ n ih =>
    intro σ x1 x2 x3 h H locs ls hd hl
    rw [f_X8_copyBits_4] at h
    refine lv_iload_n hx hb dX8_copyBits_4 rfl (lv_at hl 3 rfl) ?_
    refine lv_aload_n hx hb dX8_copyBits_5 rfl (lv_at hl 0 rfl) ?_
    refine gX8_73 C hd dX8_copyBits_6 ?_
    refine lv_iconst (v := 5) hx hb dX8_copyBits_9 ic_5 ?_
    refine ldc_wM_19 C hd cl_5 (inb_i (by decide +kernel)) dX8_copyBits_10 ?_
    refine lv_icmp_ge (tgt := 51) hx hb dX8_copyBits_11 (by decide) (fun c1 => ?_) (fun c1 => ?_)
    · replace h := iteT c1 h
      refine lv_iload_n hx hb dX8_copyBits_51 rfl (lv_at hl 2 rfl) ?_
      exact rIretP C hr hd h dX8_copyBits_52
    · replace h := iteF c1 h
      refine lv_iload_n hx hb dX8_copyBits_14 rfl (lv_at hl 1 rfl) ?_
      refine lv_if_ne (tgt := 29) hx hb dX8_copyBits_15 (by decide) (fun c2 => ?_) (fun c2 => ?_)
      · replace h := iteF c2 h
        refine lv_aload_n hx hb dX8_copyBits_29 rfl (lv_at hl 0 rfl) ?_
        refine lv_iload_n hx hb dX8_copyBits_30 rfl (lv_at hl 3 rfl) ?_
        refine lv_iload_n hx hb dX8_copyBits_31 rfl (lv_at hl 1 rfl) ?_
        obtain ⟨r3, er3, h⟩ := cal_e h
        refine rCallI C hd (c_X8_ofCopy hE er3) kX8_286 0 rfl rfl rfl rfl hl.1 rfl (Nat.le_of_ble_eq_true rfl) ⟨(Nat.le_of_ble_eq_true rfl), (Nat.le_of_ble_eq_true rfl)⟩ ⟨Nat.le_refl _, Nat.le_refl _⟩ dX8_copyBits_32 (fun H locs hd => ?_)
        refine lv_iconst (v := 1) hx hb dX8_copyBits_35 ic_1 ?_
        refine lv_icmp_ne (tgt := 45) hx hb dX8_copyBits_36 (by decide) (fun c4 => ?_) (fun c4 => ?_)
        · replace h := iteF c4 h
          exact w_X8_copyBits_45 C hr ih σ x1 x2 x3 h _ _ _ hd (lv_sub hl [0, 1, 2, 3] rfl)
        · replace h := iteT c4 h
          exact w_X8_copyBits_39 C hr ih σ x1 x2 x3 h _ _ _ hd (lv_sub hl [0, 1, 2, 3] rfl)
      · replace h := iteT c2 h
        refine lv_aload_n hx hb dX8_copyBits_18 rfl (lv_at hl 0 rfl) ?_
        refine lv_iload_n hx hb dX8_copyBits_19 rfl (lv_at hl 3 rfl) ?_
        obtain ⟨r5, er5, h⟩ := cal_e h
        refine rCallI C hd (c_X8_isFit hE er5) kX8_307 0 rfl rfl rfl rfl hl.1 rfl (Nat.le_of_ble_eq_true rfl) ⟨(Nat.le_of_ble_eq_true rfl), (Nat.le_of_ble_eq_true rfl)⟩ ⟨Nat.le_refl _, Nat.le_refl _⟩ dX8_copyBits_20 (fun H locs hd => ?_)
        refine lv_if_eq (tgt := 45) hx hb dX8_copyBits_23 (by decide) (fun c6 => ?_) (fun c6 => ?_)
        · replace h := iteT c6 h
          exact w_X8_copyBits_45 C hr ih σ x1 x2 x3 h _ _ _ hd (lv_sub hl [0, 1, 2, 3] rfl)
        · replace h := iteF c6 h
          refine lv_goto (tgt := 39) hx hb dX8_copyBits_26 (by decide) ?_
          exact w_X8_copyBits_39 C hr ih σ x1 x2 x3 h _ _ _ hd (lv_sub hl [0, 1, 2, 3] rfl)
noncomputable def f_X8_copyBits (F : Nat) (σ : St) (x1 : Int32) : Option Int32 :=
  f_X8_copyBits_4 F F σ x1 0 0
set_option maxRecDepth 100000 in
set_option maxHeartbeats 4000000 in
theorem c_X8_copyBits {l : Launch} {g : Gp} {X : va_W} (hE : E0 g) {F : Nat} {r' : Int32} {σ : St} {x1 : Int32} (h : f_X8_copyBits F σ x1 = some r') : Ci l g yX8_copyBits cX8_copyBits 4 (some .int) 3 [.ref (ga g 40), .int x1] (wM g σ ++ X) r' (wM g σ ++ X) := by
  refine rHead hE (by decide +kernel) (Nat.le_of_ble_eq_true rfl) (fun p e s m below meth c C hr _ hd ls hl => ?_)
  have hx := C.1
  have hb := C.2.1
  have hl : lv_has ls 4 [(0, .ref (ga g 40)), (1, .int x1)] := hl
  generalize ([.ref (ga g 40), .int x1] : List Value).toArray = args at C ⊢
  have C : Cx g p s m args meth c cX8_copyBits 4 RX8 := C
  rw [f_X8_copyBits] at h
  refine lv_iconst (v := 0) hx hb dX8_copyBits_0 ic_0 ?_
  refine lv_istore_n (lv' := [(2, .int 0), (0, .ref (ga g 40)), (1, .int x1)]) hx hb dX8_copyBits_1 rfl hl (Nat.le_of_ble_eq_true rfl) rfl (fun ls hl => ?_)
  refine lv_iconst (v := 0) hx hb dX8_copyBits_2 ic_0 ?_
  refine lv_istore_n (lv' := [(3, .int 0), (2, .int 0), (0, .ref (ga g 40)), (1, .int x1)]) hx hb dX8_copyBits_3 rfl hl (Nat.le_of_ble_eq_true rfl) rfl (fun ls hl => ?_)
  exact w_X8_copyBits_4 C hr _ σ x1 0 0 h _ _ _ hd (lv_sub hl [2, 3, 1, 0] rfl)
noncomputable def f_X8_count_167 (F : Nat) (k_148 : St → Int32 → Int32 → Option Int32) (σ : St) (x2 : Int32) (x3 : Int32) : Option Int32 :=
  bnd (x3 + 1) (fun v1 => k_148 σ x2 v1)
set_option maxRecDepth 100000 in
set_option maxHeartbeats 4000000 in
theorem w_X8_count_167 {F : Nat} {r' : Int32}  (C : Cx g p s m args meth c cX8_count 5 RX8) (hr : meth.sig.returnType = some .int)
    {k_148 : St → Int32 → Int32 → Option Int32} (hk_148 : (∀ (σ : St) (x2 : Int32) (x3 : Int32), k_148 σ x2 x3 = some r' → ∀ (H : Heap) (locs : List Loc) (ls : Array Slot), Dy g (wM g σ ++ X) s H locs → lv_has ls 5 [(0, .ref (ga g 40)), (2, .int x2), (3, .int x3)] → W p l e (rmD 4) s m args below meth c H locs 0 0 (QI g below args s (wM g σ ++ X) r') (F0 m 148 ls []))) :
    (∀ (σ : St) (x2 : Int32) (x3 : Int32), f_X8_count_167 F k_148 σ x2 x3 = some r' → ∀ (H : Heap) (locs : List Loc) (ls : Array Slot), Dy g (wM g σ ++ X) s H locs → lv_has ls 5 [(0, .ref (ga g 40)), (2, .int x2), (3, .int x3)] → W p l e (rmD 4) s m args below meth c H locs 0 0 (QI g below args s (wM g σ ++ X) r') (F0 m 167 ls [])) := by
  have hx := C.1
  have hb := C.2.1
  have hE := C.2.2.2.2.2.2.2.2
  intro σ x2 x3 h H locs ls hd hl
  rw [f_X8_count_167] at h
  obtain ⟨v1, ev1, h⟩ := bnd_e h
  refine lv_iinc (v := v1) (lv' := [(3, .int v1), (0, .ref (ga g 40)), (2, .int x2)]) hx hb dX8_count_167 hl (k := 2) rfl ((ii_1 _).trans ev1.symm) (Nat.le_of_ble_eq_true rfl) rfl (fun ls hl => ?_)
  refine lv_goto (tgt := 148) hx hb dX8_count_170 (by decide) ?_
  exact hk_148 σ x2 v1 h _ _ _ hd (lv_sub hl [1, 2, 0] rfl)
noncomputable def f_X8_count_148 (F : Nat) : Nat → St → Int32 → Int32 → Option Int32
  | 0, _, _, _ => none
  | n + 1, σ, x2, x3 => if 1380 ≤ x3 then (some x2) else (if inb x3 7164 = true then if (σ.2.1 19 x3.toNatClampNeg) ≤ 0 then (f_X8_count_167 F (f_X8_count_148 F n) σ x2 x3) else (bnd (x2 + 1) (fun v4 => f_X8_count_167 F (f_X8_count_148 F n) σ v4 x3)) else none)
set_option maxRecDepth 100000 in
set_option maxHeartbeats 4000000 in
theorem w_X8_count_148 {F : Nat} {r' : Int32}  (C : Cx g p s m args meth c cX8_count 5 RX8) (hr : meth.sig.returnType = some .int) :
    (∀ (n : Nat) (σ : St) (x2 : Int32) (x3 : Int32), f_X8_count_148 F n σ x2 x3 = some r' → ∀ (H : Heap) (locs : List Loc) (ls : Array Slot), Dy g (wM g σ ++ X) s H locs → lv_has ls 5 [(0, .ref (ga g 40)), (2, .int x2), (3, .int x3)] → W p l e (rmD 4) s m args below meth c H locs 0 0 (QI g below args s (wM g σ ++ X) r') (F0 m 148 ls [])) := by
  have hx := C.1
  have hb := C.2.1
  have hE := C.2.2.2.2.2.2.2.2
  intro n
  induction n with
  | zero =>
    intro σ x2 x3 h
    cases h
  | succ n ih =>
    intro σ x2 x3 h H locs ls hd hl
    rw [f_X8_count_148] at h
    refine lv_iload_n hx hb dX8_count_148 rfl (lv_at hl 2 rfl) ?_
    refine lv_sipush (v := 1380) hx hb dX8_count_149 si_1380 ?_
    refine lv_icmp_ge (tgt := 173) hx hb dX8_count_152 (by decide) (fun c1 => ?_) (fun c1 => ?_)
    · replace h := iteT c1 h
      refine lv_iload_n hx hb dX8_count_173 rfl (lv_at hl 1 rfl) ?_
      exact rIretP C hr hd h dX8_count_174
    · replace h := iteF c1 h
      refine lv_aload_n hx hb dX8_count_155 rfl (lv_at hl 0 rfl) ?_
      refine gX8_73 C hd dX8_count_156 ?_
      refine lv_iload_n hx hb dX8_count_159 rfl (lv_at hl 2 rfl) ?_
      obtain ⟨n2, h⟩ := chk h
      refine ld_wM_19 C hd (inb_i n2) dX8_count_160 ?_
      refine lv_if_le (tgt := 167) hx hb dX8_count_161 (by decide) (fun c3 => ?_) (fun c3 => ?_)
      · replace h := iteT c3 h
        exact w_X8_count_167 C hr ih σ x2 x3 h _ _ _ hd (lv_sub hl [0, 1, 2] rfl)
      · replace h := iteF c3 h
        obtain ⟨v4, ev4, h⟩ := bnd_e h
        refine lv_iinc (v := v4) (lv' := [(2, .int v4), (0, .ref (ga g 40)), (3, .int x3)]) hx hb dX8_count_164 hl (k := 1) rfl ((ii_1 _).trans ev4.symm) (Nat.le_of_ble_eq_true rfl) rfl (fun ls hl => ?_)
        exact w_X8_count_167 C hr ih σ v4 x3 h _ _ _ hd (lv_sub hl [1, 0, 2] rfl)
noncomputable def f_X8_count_203 (F : Nat) (σ : St) (y0 : Int32) (y1 : Int32) : Option Int32 :=
  if (σ.2.1 22 2) = 0 then (some ((y1 + y0) + 0)) else (some ((y1 + y0) + 1))
set_option maxRecDepth 100000 in
set_option maxHeartbeats 4000000 in
theorem w_X8_count_203 {F : Nat} {r' : Int32}  (C : Cx g p s m args meth c cX8_count 5 RX8) (hr : meth.sig.returnType = some .int) :
    (∀ (σ : St) (y0 : Int32) (y1 : Int32), f_X8_count_203 F σ y0 y1 = some r' → ∀ (H : Heap) (locs : List Loc) (ls : Array Slot), Dy g (wM g σ ++ X) s H locs → lv_has ls 5 [(0, .ref (ga g 40))] → W p l e (rmD 4) s m args below meth c H locs 0 0 (QI g below args s (wM g σ ++ X) r') (F0 m 203 ls [.int y0, .int y1])) := by
  have hx := C.1
  have hb := C.2.1
  have hE := C.2.2.2.2.2.2.2.2
  intro σ y0 y1 h H locs ls hd hl
  rw [f_X8_count_203] at h
  refine lv_iadd hx hb dX8_count_203 ?_
  refine lv_aload_n hx hb dX8_count_204 rfl (lv_at hl 0 rfl) ?_
  refine gX8_82 C hd dX8_count_205 ?_
  refine lv_iconst (v := 2) hx hb dX8_count_208 ic_2 ?_
  refine ldc_wM_22 C hd cl_2 (inb_i (by decide +kernel)) dX8_count_209 ?_
  refine lv_if_eq (tgt := 217) hx hb dX8_count_210 (by decide) (fun c1 => ?_) (fun c1 => ?_)
  · replace h := iteT c1 h
    refine lv_iconst (v := 0) hx hb dX8_count_217 ic_0 ?_
    refine lv_iadd hx hb dX8_count_218 ?_
    exact rIretP C hr hd h dX8_count_219
  · replace h := iteF c1 h
    refine lv_iconst (v := 1) hx hb dX8_count_213 ic_1 ?_
    refine lv_goto (tgt := 218) hx hb dX8_count_214 (by decide) ?_
    refine lv_iadd hx hb dX8_count_218 ?_
    exact rIretP C hr hd h dX8_count_219
noncomputable def f_X8_count_189 (F : Nat) (σ : St) (y0 : Int32) : Option Int32 :=
  if (σ.2.1 22 1) = 0 then (f_X8_count_203 F σ 0 y0) else (f_X8_count_203 F σ 1 y0)
set_option maxRecDepth 100000 in
set_option maxHeartbeats 4000000 in
theorem w_X8_count_189 {F : Nat} {r' : Int32}  (C : Cx g p s m args meth c cX8_count 5 RX8) (hr : meth.sig.returnType = some .int) :
    (∀ (σ : St) (y0 : Int32), f_X8_count_189 F σ y0 = some r' → ∀ (H : Heap) (locs : List Loc) (ls : Array Slot), Dy g (wM g σ ++ X) s H locs → lv_has ls 5 [(0, .ref (ga g 40))] → W p l e (rmD 4) s m args below meth c H locs 0 0 (QI g below args s (wM g σ ++ X) r') (F0 m 189 ls [.int y0])) := by
  have hx := C.1
  have hb := C.2.1
  have hE := C.2.2.2.2.2.2.2.2
  intro σ y0 h H locs ls hd hl
  rw [f_X8_count_189] at h
  refine lv_aload_n hx hb dX8_count_189 rfl (lv_at hl 0 rfl) ?_
  refine gX8_82 C hd dX8_count_190 ?_
  refine lv_iconst (v := 1) hx hb dX8_count_193 ic_1 ?_
  refine ldc_wM_22 C hd cl_1 (inb_i (by decide +kernel)) dX8_count_194 ?_
  refine lv_if_eq (tgt := 202) hx hb dX8_count_195 (by decide) (fun c1 => ?_) (fun c1 => ?_)
  · replace h := iteT c1 h
    refine lv_iconst (v := 0) hx hb dX8_count_202 ic_0 ?_
    exact w_X8_count_203 C hr σ 0 y0 h _ _ _ hd (lv_sub hl [0] rfl)
  · replace h := iteF c1 h
    refine lv_iconst (v := 1) hx hb dX8_count_198 ic_1 ?_
    refine lv_goto (tgt := 203) hx hb dX8_count_199 (by decide) ?_
    exact w_X8_count_203 C hr σ 1 y0 h _ _ _ hd (lv_sub hl [0] rfl)
noncomputable def f_X8_count_290 (F : Nat) (k_261 : St → Int32 → Int32 → Int32 → Option Int32) (σ : St) (x2 : Int32) (x3 : Int32) (x4 : Int32) : Option Int32 :=
  bnd (x4 + 1) (fun v1 => k_261 σ x2 x3 v1)
set_option maxRecDepth 100000 in
set_option maxHeartbeats 4000000 in
theorem w_X8_count_290 {F : Nat} {r' : Int32}  (C : Cx g p s m args meth c cX8_count 5 RX8) (hr : meth.sig.returnType = some .int)
    {k_261 : St → Int32 → Int32 → Int32 → Option Int32} (hk_261 : (∀ (σ : St) (x2 : Int32) (x3 : Int32) (x4 : Int32), k_261 σ x2 x3 x4 = some r' → ∀ (H : Heap) (locs : List Loc) (ls : Array Slot), Dy g (wM g σ ++ X) s H locs → lv_has ls 5 [(0, .ref (ga g 40)), (2, .int x2), (3, .int x3), (4, .int x4)] → W p l e (rmD 4) s m args below meth c H locs 0 0 (QI g below args s (wM g σ ++ X) r') (F0 m 261 ls []))) :
    (∀ (σ : St) (x2 : Int32) (x3 : Int32) (x4 : Int32), f_X8_count_290 F k_261 σ x2 x3 x4 = some r' → ∀ (H : Heap) (locs : List Loc) (ls : Array Slot), Dy g (wM g σ ++ X) s H locs → lv_has ls 5 [(0, .ref (ga g 40)), (2, .int x2), (3, .int x3), (4, .int x4)] → W p l e (rmD 4) s m args below meth c H locs 0 0 (QI g below args s (wM g σ ++ X) r') (F0 m 290 ls [])) := by
  have hx := C.1
  have hb := C.2.1
  have hE := C.2.2.2.2.2.2.2.2
  intro σ x2 x3 x4 h H locs ls hd hl
  rw [f_X8_count_290] at h
  obtain ⟨v1, ev1, h⟩ := bnd_e h
  refine lv_iinc (v := v1) (lv' := [(4, .int v1), (0, .ref (ga g 40)), (2, .int x2), (3, .int x3)]) hx hb dX8_count_290 hl (k := 3) rfl ((ii_1 _).trans ev1.symm) (Nat.le_of_ble_eq_true rfl) rfl (fun ls hl => ?_)
  refine lv_goto (tgt := 261) hx hb dX8_count_293 (by decide) ?_
  exact hk_261 σ x2 x3 v1 h _ _ _ hd (lv_sub hl [1, 2, 3, 0] rfl)
noncomputable def f_X8_count_261 (F : Nat) (k_242 : St → Int32 → Int32 → Option Int32) : Nat → St → Int32 → Int32 → Int32 → Option Int32
  | 0, _, _, _, _ => none
  | n + 1, σ, x2, x3, x4 => cal (f_X8_placeOf F σ x3) (fun r1 => if r1 < x4 then (bnd (x3 + 1) (fun v3 => k_242 σ x2 v3)) else (cal (f_X8_recordAt F σ x3 x4) (fun r4 => if inb r4 7164 = true then if (σ.2.1 19 r4.toNatClampNeg) = 2 then (bnd (x2 + 1) (fun v7 => f_X8_count_290 F (f_X8_count_261 F k_242 n) σ v7 x3 x4)) else (f_X8_count_290 F (f_X8_count_261 F k_242 n) σ x2 x3 x4) else none)))
set_option maxRecDepth 100000 in
set_option maxHeartbeats 4000000 in
theorem w_X8_count_261 {F : Nat} {r' : Int32}  (C : Cx g p s m args meth c cX8_count 5 RX8) (hr : meth.sig.returnType = some .int)
    {k_242 : St → Int32 → Int32 → Option Int32} (hk_242 : (∀ (σ : St) (x2 : Int32) (x3 : Int32), k_242 σ x2 x3 = some r' → ∀ (H : Heap) (locs : List Loc) (ls : Array Slot), Dy g (wM g σ ++ X) s H locs → lv_has ls 5 [(0, .ref (ga g 40)), (2, .int x2), (3, .int x3)] → W p l e (rmD 4) s m args below meth c H locs 0 0 (QI g below args s (wM g σ ++ X) r') (F0 m 242 ls []))) :
    (∀ (n : Nat) (σ : St) (x2 : Int32) (x3 : Int32) (x4 : Int32), f_X8_count_261 F k_242 n σ x2 x3 x4 = some r' → ∀ (H : Heap) (locs : List Loc) (ls : Array Slot), Dy g (wM g σ ++ X) s H locs → lv_has ls 5 [(0, .ref (ga g 40)), (2, .int x2), (3, .int x3), (4, .int x4)] → W p l e (rmD 4) s m args below meth c H locs 0 0 (QI g below args s (wM g σ ++ X) r') (F0 m 261 ls [])) := by
  have hx := C.1
  have hb := C.2.1
  have hE := C.2.2.2.2.2.2.2.2
  intro n
  induction n with
  | zero =>
    intro σ x2 x3 x4 h
    cases h
  | succ n ih =>
    intro σ x2 x3 x4 h H locs ls hd hl
    rw [f_X8_count_261] at h
    refine lv_iload hx hb dX8_count_261 (lv_at hl 3 rfl) ?_
    refine lv_aload_n hx hb dX8_count_263 rfl (lv_at hl 0 rfl) ?_
    refine lv_iload_n hx hb dX8_count_264 rfl (lv_at hl 2 rfl) ?_
    obtain ⟨r1, er1, h⟩ := cal_e h
    refine rCallI C hd (c_X8_placeOf hE er1) kX8_217 0 rfl rfl rfl rfl hl.1 rfl (Nat.le_of_ble_eq_true rfl) ⟨(Nat.le_of_ble_eq_true rfl), (Nat.le_of_ble_eq_true rfl)⟩ ⟨Nat.le_refl _, Nat.le_refl _⟩ dX8_count_265 (fun H locs hd => ?_)
    refine lv_icmp_gt (tgt := 296) hx hb dX8_count_268 (by decide) (fun c2 => ?_) (fun c2 => ?_)
    · replace h := iteT c2 h
      obtain ⟨v3, ev3, h⟩ := bnd_e h
      refine lv_iinc (v := v3) (lv' := [(3, .int v3), (0, .ref (ga g 40)), (2, .int x2), (4, .int x4)]) hx hb dX8_count_296 hl (k := 2) rfl ((ii_1 _).trans ev3.symm) (Nat.le_of_ble_eq_true rfl) rfl (fun ls hl => ?_)
      refine lv_goto (tgt := 242) hx hb dX8_count_299 (by decide) ?_
      exact hk_242 σ x2 v3 h _ _ _ hd (lv_sub hl [1, 2, 0] rfl)
    · replace h := iteF c2 h
      refine lv_aload_n hx hb dX8_count_271 rfl (lv_at hl 0 rfl) ?_
      refine gX8_73 C hd dX8_count_272 ?_
      refine lv_aload_n hx hb dX8_count_275 rfl (lv_at hl 0 rfl) ?_
      refine lv_iload_n hx hb dX8_count_276 rfl (lv_at hl 2 rfl) ?_
      refine lv_iload hx hb dX8_count_277 (lv_at hl 3 rfl) ?_
      obtain ⟨r4, er4, h⟩ := cal_e h
      refine rCallI C hd (c_X8_recordAt hE er4) kX8_280 0 rfl rfl rfl rfl hl.1 rfl (Nat.le_of_ble_eq_true rfl) ⟨(Nat.le_of_ble_eq_true rfl), (Nat.le_of_ble_eq_true rfl)⟩ ⟨Nat.le_refl _, Nat.le_refl _⟩ dX8_count_279 (fun H locs hd => ?_)
      obtain ⟨n5, h⟩ := chk h
      refine ld_wM_19 C hd (inb_i n5) dX8_count_282 ?_
      refine lv_iconst (v := 2) hx hb dX8_count_283 ic_2 ?_
      refine lv_icmp_ne (tgt := 290) hx hb dX8_count_284 (by decide) (fun c6 => ?_) (fun c6 => ?_)
      · replace h := iteF c6 h
        exact w_X8_count_290 C hr ih σ x2 x3 x4 h _ _ _ hd (lv_sub hl [0, 1, 2, 3] rfl)
      · replace h := iteT c6 h
        obtain ⟨v7, ev7, h⟩ := bnd_e h
        refine lv_iinc (v := v7) (lv' := [(2, .int v7), (0, .ref (ga g 40)), (3, .int x3), (4, .int x4)]) hx hb dX8_count_287 hl (k := 1) rfl ((ii_1 _).trans ev7.symm) (Nat.le_of_ble_eq_true rfl) rfl (fun ls hl => ?_)
        exact w_X8_count_290 C hr ih σ v7 x3 x4 h _ _ _ hd (lv_sub hl [1, 0, 2, 3] rfl)
noncomputable def f_X8_count_242 (F : Nat) : Nat → St → Int32 → Int32 → Option Int32
  | 0, _, _, _ => none
  | n + 1, σ, x2, x3 => if (σ.2.1 19 2) ≤ x3 then (some x2) else (cal (f_X8_forkOf F σ x3) (fun r2 => bnd (r2 + 1) (fun v3 => f_X8_count_261 F (f_X8_count_242 F n) F σ x2 x3 v3)))
set_option maxRecDepth 100000 in
set_option maxHeartbeats 4000000 in
theorem w_X8_count_242 {F : Nat} {r' : Int32}  (C : Cx g p s m args meth c cX8_count 5 RX8) (hr : meth.sig.returnType = some .int) :
    (∀ (n : Nat) (σ : St) (x2 : Int32) (x3 : Int32), f_X8_count_242 F n σ x2 x3 = some r' → ∀ (H : Heap) (locs : List Loc) (ls : Array Slot), Dy g (wM g σ ++ X) s H locs → lv_has ls 5 [(0, .ref (ga g 40)), (2, .int x2), (3, .int x3)] → W p l e (rmD 4) s m args below meth c H locs 0 0 (QI g below args s (wM g σ ++ X) r') (F0 m 242 ls [])) := by
  have hx := C.1
  have hb := C.2.1
  have hE := C.2.2.2.2.2.2.2.2
  intro n
  induction n with
  | zero =>
    intro σ x2 x3 h
    cases h
  | succ n ih =>
    intro σ x2 x3 h H locs ls hd hl
    rw [f_X8_count_242] at h
    refine lv_iload_n hx hb dX8_count_242 rfl (lv_at hl 2 rfl) ?_
    refine lv_aload_n hx hb dX8_count_243 rfl (lv_at hl 0 rfl) ?_
    refine gX8_73 C hd dX8_count_244 ?_
    refine lv_iconst (v := 2) hx hb dX8_count_247 ic_2 ?_
    refine ldc_wM_19 C hd cl_2 (inb_i (by decide +kernel)) dX8_count_248 ?_
    refine lv_icmp_ge (tgt := 302) hx hb dX8_count_249 (by decide) (fun c1 => ?_) (fun c1 => ?_)
    · replace h := iteT c1 h
      refine lv_iload_n hx hb dX8_count_302 rfl (lv_at hl 1 rfl) ?_
      exact rIretP C hr hd h dX8_count_303
    · replace h := iteF c1 h
      refine lv_aload_n hx hb dX8_count_252 rfl (lv_at hl 0 rfl) ?_
      refine lv_iload_n hx hb dX8_count_253 rfl (lv_at hl 2 rfl) ?_
      obtain ⟨r2, er2, h⟩ := cal_e h
      refine rCallI C hd (c_X8_forkOf hE er2) kX8_265 0 rfl rfl rfl rfl hl.1 rfl (Nat.le_of_ble_eq_true rfl) ⟨(Nat.le_of_ble_eq_true rfl), (Nat.le_of_ble_eq_true rfl)⟩ ⟨Nat.le_refl _, Nat.le_refl _⟩ dX8_count_254 (fun H locs hd => ?_)
      refine lv_iconst (v := 1) hx hb dX8_count_257 ic_1 ?_
      refine lv_iadd hx hb dX8_count_258 ?_
      obtain ⟨v3, ev3, h⟩ := bnd_e h
      refine rTop ev3 ?_
      refine lv_istore (lv' := [(4, .int v3), (0, .ref (ga g 40)), (2, .int x2), (3, .int x3)]) hx hb dX8_count_259 hl (Nat.le_of_ble_eq_true rfl) rfl (fun ls hl => ?_)
      exact w_X8_count_261 C hr ih _ σ x2 x3 v3 h _ _ _ hd (lv_sub hl [1, 2, 3, 0] rfl)
noncomputable def f_X8_count_306 (F : Nat) : Nat → St → Int32 → Int32 → Option Int32
  | 0, _, _, _ => none
  | n + 1, σ, x2, x3 => if (σ.2.1 19 2) ≤ x3 then (some x2) else (cal (f_X8_parentOf F σ x3) (fun r2 => bnd (x2 ||| (1 <<< (r2 &&& 31))) (fun v3 => bnd (x3 + 1) (fun v4 => f_X8_count_306 F n σ v3 v4))))
set_option maxRecDepth 100000 in
set_option maxHeartbeats 4000000 in
theorem w_X8_count_306 {F : Nat} {r' : Int32}  (C : Cx g p s m args meth c cX8_count 5 RX8) (hr : meth.sig.returnType = some .int) :
    (∀ (n : Nat) (σ : St) (x2 : Int32) (x3 : Int32), f_X8_count_306 F n σ x2 x3 = some r' → ∀ (H : Heap) (locs : List Loc) (ls : Array Slot), Dy g (wM g σ ++ X) s H locs → lv_has ls 5 [(0, .ref (ga g 40)), (2, .int x2), (3, .int x3)] → W p l e (rmD 4) s m args below meth c H locs 0 0 (QI g below args s (wM g σ ++ X) r') (F0 m 306 ls [])) := by
  have hx := C.1
  have hb := C.2.1
  have hE := C.2.2.2.2.2.2.2.2
  intro n
  induction n with
  | zero =>
    intro σ x2 x3 h
    cases h
  | succ n ih =>
    intro σ x2 x3 h H locs ls hd hl
    rw [f_X8_count_306] at h
    refine lv_iload_n hx hb dX8_count_306 rfl (lv_at hl 2 rfl) ?_
    refine lv_aload_n hx hb dX8_count_307 rfl (lv_at hl 0 rfl) ?_
    refine gX8_73 C hd dX8_count_308 ?_
    refine lv_iconst (v := 2) hx hb dX8_count_311 ic_2 ?_
    refine ldc_wM_19 C hd cl_2 (inb_i (by decide +kernel)) dX8_count_312 ?_
    refine lv_icmp_ge (tgt := 332) hx hb dX8_count_313 (by decide) (fun c1 => ?_) (fun c1 => ?_)
    · replace h := iteT c1 h
      refine lv_iload_n hx hb dX8_count_332 rfl (lv_at hl 1 rfl) ?_
      exact rIretP C hr hd h dX8_count_333
    · replace h := iteF c1 h
      refine lv_iload_n hx hb dX8_count_316 rfl (lv_at hl 1 rfl) ?_
      refine lv_iconst (v := 1) hx hb dX8_count_317 ic_1 ?_
      refine lv_aload_n hx hb dX8_count_318 rfl (lv_at hl 0 rfl) ?_
      refine lv_iload_n hx hb dX8_count_319 rfl (lv_at hl 2 rfl) ?_
      obtain ⟨r2, er2, h⟩ := cal_e h
      refine rCallI C hd (c_X8_parentOf hE er2) kX8_268 0 rfl rfl rfl rfl hl.1 rfl (Nat.le_of_ble_eq_true rfl) ⟨(Nat.le_of_ble_eq_true rfl), (Nat.le_of_ble_eq_true rfl)⟩ ⟨Nat.le_refl _, Nat.le_refl _⟩ dX8_count_320 (fun H locs hd => ?_)
      refine lv_ishl hx hb dX8_count_323 ?_
      refine lv_ior hx hb dX8_count_324 ?_
      obtain ⟨v3, ev3, h⟩ := bnd_e h
      refine rTop ev3 ?_
      refine lv_istore_n (lv' := [(2, .int v3), (0, .ref (ga g 40)), (3, .int x3)]) hx hb dX8_count_325 rfl hl (Nat.le_of_ble_eq_true rfl) rfl (fun ls hl => ?_)
      obtain ⟨v4, ev4, h⟩ := bnd_e h
      refine lv_iinc (v := v4) (lv' := [(3, .int v4), (2, .int v3), (0, .ref (ga g 40))]) hx hb dX8_count_326 hl (k := 2) rfl ((ii_1 _).trans ev4.symm) (Nat.le_of_ble_eq_true rfl) rfl (fun ls hl => ?_)
      refine lv_goto (tgt := 306) hx hb dX8_count_329 (by decide) ?_
      exact ih σ v3 v4 h _ _ _ hd (lv_sub hl [2, 1, 0] rfl)
noncomputable def f_X8_count (F : Nat) (σ : St) (x1 : Int32) : Option Int32 :=
  if x1 = 0 then (some (σ.2.1 19 0)) else (if x1 = 1 then (some (σ.2.1 19 1)) else (if x1 = 2 then (some (σ.2.1 19 2)) else (if x1 = 3 then (some (σ.2.1 19 3)) else (if x1 = 4 then (cal (f_X8_placeOf F σ (σ.2.1 19 3)) (fun r6 => some r6)) else (if x1 = 5 then (some (σ.2.1 19 4)) else (if x1 = 6 then (some (σ.2.1 19 5)) else (if x1 = 7 then (cal (f_X8_copyBits F σ 0) (fun r10 => some r10)) else (if x1 = 8 then (some (σ.1 1)) else (if x1 = 9 then (f_X8_count_148 F F σ 0 420) else (if x1 = 10 then (if (σ.2.1 22 0) = 0 then (f_X8_count_189 F σ 0) else (f_X8_count_189 F σ 1)) else (if x1 = 11 then (some (σ.2.1 19 6)) else (if x1 = 12 then (cal (f_X8_copyBits F σ 2) (fun r17 => some r17)) else (if x1 = 13 then (cal (f_X8_copyBits F σ 3) (fun r19 => some r19)) else (if x1 = 14 then (f_X8_count_242 F F σ 0 0) else (if x1 = 15 then (f_X8_count_306 F F σ 0 1) else (some (-1 : Int32)))))))))))))))))
set_option maxRecDepth 100000 in
set_option maxHeartbeats 4000000 in
theorem c_X8_count {l : Launch} {g : Gp} {X : va_W} (hE : E0 g) {F : Nat} {r' : Int32} {σ : St} {x1 : Int32} (h : f_X8_count F σ x1 = some r') : Ci l g yX8_count cX8_count 5 (some .int) 4 [.ref (ga g 40), .int x1] (wM g σ ++ X) r' (wM g σ ++ X) := by
  refine rHead hE (by decide +kernel) (Nat.le_of_ble_eq_true rfl) (fun p e s m below meth c C hr _ hd ls hl => ?_)
  have hx := C.1
  have hb := C.2.1
  have hl : lv_has ls 5 [(0, .ref (ga g 40)), (1, .int x1)] := hl
  generalize ([.ref (ga g 40), .int x1] : List Value).toArray = args at C ⊢
  have C : Cx g p s m args meth c cX8_count 5 RX8 := C
  rw [f_X8_count] at h
  refine lv_iconst (v := 0) hx hb dX8_count_0 ic_0 ?_
  refine lv_istore_n (lv' := [(2, .int 0), (0, .ref (ga g 40)), (1, .int x1)]) hx hb dX8_count_1 rfl hl (Nat.le_of_ble_eq_true rfl) rfl (fun ls hl => ?_)
  refine lv_iload_n hx hb dX8_count_2 rfl (lv_at hl 2 rfl) ?_
  by_cases c1 : x1 = 0
  · replace h := iteT c1 h
    refine rTop c1.symm ?_
    refine lv_tableIn (off := 77) (tgt := 80) hx hb dX8_count_3 (by decide) (by decide) (by decide) (by decide) ?_
    refine lv_aload_n hx hb dX8_count_80 rfl (lv_at hl 1 rfl) ?_
    refine gX8_73 C hd dX8_count_81 ?_
    refine lv_iconst (v := 0) hx hb dX8_count_84 ic_0 ?_
    refine ldc_wM_19 C hd cl_0 (inb_i (by decide +kernel)) dX8_count_85 ?_
    exact rIretP C hr hd h dX8_count_86
  · replace h := iteF c1 h
    by_cases c2 : x1 = 1
    · replace h := iteT c2 h
      refine rTop c2.symm ?_
      refine lv_tableIn (off := 84) (tgt := 87) hx hb dX8_count_3 (by decide) (by decide) (by decide) (by decide) ?_
      refine lv_aload_n hx hb dX8_count_87 rfl (lv_at hl 1 rfl) ?_
      refine gX8_73 C hd dX8_count_88 ?_
      refine lv_iconst (v := 1) hx hb dX8_count_91 ic_1 ?_
      refine ldc_wM_19 C hd cl_1 (inb_i (by decide +kernel)) dX8_count_92 ?_
      exact rIretP C hr hd h dX8_count_93
    · replace h := iteF c2 h
      by_cases c3 : x1 = 2
      · replace h := iteT c3 h
        refine rTop c3.symm ?_
        refine lv_tableIn (off := 91) (tgt := 94) hx hb dX8_count_3 (by decide) (by decide) (by decide) (by decide) ?_
        refine lv_aload_n hx hb dX8_count_94 rfl (lv_at hl 1 rfl) ?_
        refine gX8_73 C hd dX8_count_95 ?_
        refine lv_iconst (v := 2) hx hb dX8_count_98 ic_2 ?_
        refine ldc_wM_19 C hd cl_2 (inb_i (by decide +kernel)) dX8_count_99 ?_
        exact rIretP C hr hd h dX8_count_100
      · replace h := iteF c3 h
        by_cases c4 : x1 = 3
        · replace h := iteT c4 h
          refine rTop c4.symm ?_
          refine lv_tableIn (off := 98) (tgt := 101) hx hb dX8_count_3 (by decide) (by decide) (by decide) (by decide) ?_
          refine lv_aload_n hx hb dX8_count_101 rfl (lv_at hl 1 rfl) ?_
          refine gX8_73 C hd dX8_count_102 ?_
          refine lv_iconst (v := 3) hx hb dX8_count_105 ic_3 ?_
          refine ldc_wM_19 C hd cl_3 (inb_i (by decide +kernel)) dX8_count_106 ?_
          exact rIretP C hr hd h dX8_count_107
        · replace h := iteF c4 h
          by_cases c5 : x1 = 4
          · replace h := iteT c5 h
            refine rTop c5.symm ?_
            refine lv_tableIn (off := 105) (tgt := 108) hx hb dX8_count_3 (by decide) (by decide) (by decide) (by decide) ?_
            refine lv_aload_n hx hb dX8_count_108 rfl (lv_at hl 1 rfl) ?_
            refine lv_aload_n hx hb dX8_count_109 rfl (lv_at hl 1 rfl) ?_
            refine gX8_73 C hd dX8_count_110 ?_
            refine lv_iconst (v := 3) hx hb dX8_count_113 ic_3 ?_
            refine ldc_wM_19 C hd cl_3 (inb_i (by decide +kernel)) dX8_count_114 ?_
            obtain ⟨r6, er6, h⟩ := cal_e h
            refine rCallI C hd (c_X8_placeOf hE er6) kX8_217 0 rfl rfl rfl rfl hl.1 rfl (Nat.le_of_ble_eq_true rfl) ⟨(Nat.le_of_ble_eq_true rfl), (Nat.le_of_ble_eq_true rfl)⟩ ⟨Nat.le_refl _, Nat.le_refl _⟩ dX8_count_115 (fun H locs hd => ?_)
            exact rIretP C hr hd h dX8_count_118
          · replace h := iteF c5 h
            by_cases c7 : x1 = 5
            · replace h := iteT c7 h
              refine rTop c7.symm ?_
              refine lv_tableIn (off := 116) (tgt := 119) hx hb dX8_count_3 (by decide) (by decide) (by decide) (by decide) ?_
              refine lv_aload_n hx hb dX8_count_119 rfl (lv_at hl 1 rfl) ?_
              refine gX8_73 C hd dX8_count_120 ?_
              refine lv_iconst (v := 4) hx hb dX8_count_123 ic_4 ?_
              refine ldc_wM_19 C hd cl_4 (inb_i (by decide +kernel)) dX8_count_124 ?_
              exact rIretP C hr hd h dX8_count_125
            · replace h := iteF c7 h
              by_cases c8 : x1 = 6
              · replace h := iteT c8 h
                refine rTop c8.symm ?_
                refine lv_tableIn (off := 123) (tgt := 126) hx hb dX8_count_3 (by decide) (by decide) (by decide) (by decide) ?_
                refine lv_aload_n hx hb dX8_count_126 rfl (lv_at hl 1 rfl) ?_
                refine gX8_73 C hd dX8_count_127 ?_
                refine lv_iconst (v := 5) hx hb dX8_count_130 ic_5 ?_
                refine ldc_wM_19 C hd cl_5 (inb_i (by decide +kernel)) dX8_count_131 ?_
                exact rIretP C hr hd h dX8_count_132
              · replace h := iteF c8 h
                by_cases c9 : x1 = 7
                · replace h := iteT c9 h
                  refine rTop c9.symm ?_
                  refine lv_tableIn (off := 130) (tgt := 133) hx hb dX8_count_3 (by decide) (by decide) (by decide) (by decide) ?_
                  refine lv_aload_n hx hb dX8_count_133 rfl (lv_at hl 1 rfl) ?_
                  refine lv_iconst (v := 0) hx hb dX8_count_134 ic_0 ?_
                  obtain ⟨r10, er10, h⟩ := cal_e h
                  refine rCallI C hd (c_X8_copyBits hE er10) kX8_402 0 rfl rfl rfl rfl hl.1 rfl (Nat.le_of_ble_eq_true rfl) ⟨(Nat.le_of_ble_eq_true rfl), (Nat.le_of_ble_eq_true rfl)⟩ ⟨Nat.le_refl _, Nat.le_refl _⟩ dX8_count_135 (fun H locs hd => ?_)
                  exact rIretP C hr hd h dX8_count_138
                · replace h := iteF c9 h
                  by_cases c11 : x1 = 8
                  · replace h := iteT c11 h
                    refine rTop c11.symm ?_
                    refine lv_tableIn (off := 136) (tgt := 139) hx hb dX8_count_3 (by decide) (by decide) (by decide) (by decide) ?_
                    refine lv_aload_n hx hb dX8_count_139 rfl (lv_at hl 1 rfl) ?_
                    refine gX8_97 C hd dX8_count_140 ?_
                    exact rIretP C hr hd h dX8_count_143
                  · replace h := iteF c11 h
                    by_cases c12 : x1 = 9
                    · replace h := iteT c12 h
                      refine rTop c12.symm ?_
                      refine lv_tableIn (off := 141) (tgt := 144) hx hb dX8_count_3 (by decide) (by decide) (by decide) (by decide) ?_
                      refine lv_sipush (v := 420) hx hb dX8_count_144 si_420 ?_
                      refine lv_istore_n (lv' := [(3, .int 420), (2, .int 0), (0, .ref (ga g 40)), (1, .int x1)]) hx hb dX8_count_147 rfl hl (Nat.le_of_ble_eq_true rfl) rfl (fun ls hl => ?_)
                      exact w_X8_count_148 C hr _ σ 0 420 h _ _ _ hd (lv_sub hl [2, 1, 0] rfl)
                    · replace h := iteF c12 h
                      by_cases c13 : x1 = 10
                      · replace h := iteT c13 h
                        refine rTop c13.symm ?_
                        refine lv_tableIn (off := 172) (tgt := 175) hx hb dX8_count_3 (by decide) (by decide) (by decide) (by decide) ?_
                        refine lv_aload_n hx hb dX8_count_175 rfl (lv_at hl 1 rfl) ?_
                        refine gX8_82 C hd dX8_count_176 ?_
                        refine lv_iconst (v := 0) hx hb dX8_count_179 ic_0 ?_
                        refine ldc_wM_22 C hd cl_0 (inb_i (by decide +kernel)) dX8_count_180 ?_
                        refine lv_if_eq (tgt := 188) hx hb dX8_count_181 (by decide) (fun c14 => ?_) (fun c14 => ?_)
                        · replace h := iteT c14 h
                          refine lv_iconst (v := 0) hx hb dX8_count_188 ic_0 ?_
                          exact w_X8_count_189 C hr σ 0 h _ _ _ hd (lv_sub hl [1] rfl)
                        · replace h := iteF c14 h
                          refine lv_iconst (v := 1) hx hb dX8_count_184 ic_1 ?_
                          refine lv_goto (tgt := 189) hx hb dX8_count_185 (by decide) ?_
                          exact w_X8_count_189 C hr σ 1 h _ _ _ hd (lv_sub hl [1] rfl)
                      · replace h := iteF c13 h
                        by_cases c15 : x1 = 11
                        · replace h := iteT c15 h
                          refine rTop c15.symm ?_
                          refine lv_tableIn (off := 217) (tgt := 220) hx hb dX8_count_3 (by decide) (by decide) (by decide) (by decide) ?_
                          refine lv_aload_n hx hb dX8_count_220 rfl (lv_at hl 1 rfl) ?_
                          refine gX8_73 C hd dX8_count_221 ?_
                          refine lv_bipush (v := 6) hx hb dX8_count_224 bi_6 ?_
                          refine ldc_wM_19 C hd cl_6 (inb_i (by decide +kernel)) dX8_count_226 ?_
                          exact rIretP C hr hd h dX8_count_227
                        · replace h := iteF c15 h
                          by_cases c16 : x1 = 12
                          · replace h := iteT c16 h
                            refine rTop c16.symm ?_
                            refine lv_tableIn (off := 225) (tgt := 228) hx hb dX8_count_3 (by decide) (by decide) (by decide) (by decide) ?_
                            refine lv_aload_n hx hb dX8_count_228 rfl (lv_at hl 1 rfl) ?_
                            refine lv_iconst (v := 2) hx hb dX8_count_229 ic_2 ?_
                            obtain ⟨r17, er17, h⟩ := cal_e h
                            refine rCallI C hd (c_X8_copyBits hE er17) kX8_402 0 rfl rfl rfl rfl hl.1 rfl (Nat.le_of_ble_eq_true rfl) ⟨(Nat.le_of_ble_eq_true rfl), (Nat.le_of_ble_eq_true rfl)⟩ ⟨Nat.le_refl _, Nat.le_refl _⟩ dX8_count_230 (fun H locs hd => ?_)
                            exact rIretP C hr hd h dX8_count_233
                          · replace h := iteF c16 h
                            by_cases c18 : x1 = 13
                            · replace h := iteT c18 h
                              refine rTop c18.symm ?_
                              refine lv_tableIn (off := 231) (tgt := 234) hx hb dX8_count_3 (by decide) (by decide) (by decide) (by decide) ?_
                              refine lv_aload_n hx hb dX8_count_234 rfl (lv_at hl 1 rfl) ?_
                              refine lv_iconst (v := 3) hx hb dX8_count_235 ic_3 ?_
                              obtain ⟨r19, er19, h⟩ := cal_e h
                              refine rCallI C hd (c_X8_copyBits hE er19) kX8_402 0 rfl rfl rfl rfl hl.1 rfl (Nat.le_of_ble_eq_true rfl) ⟨(Nat.le_of_ble_eq_true rfl), (Nat.le_of_ble_eq_true rfl)⟩ ⟨Nat.le_refl _, Nat.le_refl _⟩ dX8_count_236 (fun H locs hd => ?_)
                              exact rIretP C hr hd h dX8_count_239
                            · replace h := iteF c18 h
                              by_cases c20 : x1 = 14
                              · replace h := iteT c20 h
                                refine rTop c20.symm ?_
                                refine lv_tableIn (off := 237) (tgt := 240) hx hb dX8_count_3 (by decide) (by decide) (by decide) (by decide) ?_
                                refine lv_iconst (v := 0) hx hb dX8_count_240 ic_0 ?_
                                refine lv_istore_n (lv' := [(3, .int 0), (2, .int 0), (0, .ref (ga g 40)), (1, .int x1)]) hx hb dX8_count_241 rfl hl (Nat.le_of_ble_eq_true rfl) rfl (fun ls hl => ?_)
                                exact w_X8_count_242 C hr _ σ 0 0 h _ _ _ hd (lv_sub hl [2, 1, 0] rfl)
                              · replace h := iteF c20 h
                                by_cases c21 : x1 = 15
                                · replace h := iteT c21 h
                                  refine rTop c21.symm ?_
                                  refine lv_tableIn (off := 301) (tgt := 304) hx hb dX8_count_3 (by decide) (by decide) (by decide) (by decide) ?_
                                  refine lv_iconst (v := 1) hx hb dX8_count_304 ic_1 ?_
                                  refine lv_istore_n (lv' := [(3, .int 1), (2, .int 0), (0, .ref (ga g 40)), (1, .int x1)]) hx hb dX8_count_305 rfl hl (Nat.le_of_ble_eq_true rfl) rfl (fun ls hl => ?_)
                                  exact w_X8_count_306 C hr _ σ 0 1 h _ _ _ hd (lv_sub hl [2, 1, 0] rfl)
                                · replace h := iteF c21 h
                                  refine lv_tableOut (tgt := 334) hx hb dX8_count_3 (sw_out (lo := 0) (hi := 15) (fun z z1 z2 e => ?_)) (by decide) ?_
                                  · have hz : z = 0 ∨ z = 1 ∨ z = 2 ∨ z = 3 ∨ z = 4 ∨ z = 5 ∨ z = 6 ∨ z = 7 ∨ z = 8 ∨ z = 9 ∨ z = 10 ∨ z = 11 ∨ z = 12 ∨ z = 13 ∨ z = 14 ∨ z = 15 := by omega
                                    rcases hz with rfl | rfl | rfl | rfl | rfl | rfl | rfl | rfl | rfl | rfl | rfl | rfl | rfl | rfl | rfl | rfl
                                    · exact c1 (Int32.toInt_inj.mp (e.trans (by decide)))
                                    · exact c2 (Int32.toInt_inj.mp (e.trans (by decide)))
                                    · exact c3 (Int32.toInt_inj.mp (e.trans (by decide)))
                                    · exact c4 (Int32.toInt_inj.mp (e.trans (by decide)))
                                    · exact c5 (Int32.toInt_inj.mp (e.trans (by decide)))
                                    · exact c7 (Int32.toInt_inj.mp (e.trans (by decide)))
                                    · exact c8 (Int32.toInt_inj.mp (e.trans (by decide)))
                                    · exact c9 (Int32.toInt_inj.mp (e.trans (by decide)))
                                    · exact c11 (Int32.toInt_inj.mp (e.trans (by decide)))
                                    · exact c12 (Int32.toInt_inj.mp (e.trans (by decide)))
                                    · exact c13 (Int32.toInt_inj.mp (e.trans (by decide)))
                                    · exact c15 (Int32.toInt_inj.mp (e.trans (by decide)))
                                    · exact c16 (Int32.toInt_inj.mp (e.trans (by decide)))
                                    · exact c18 (Int32.toInt_inj.mp (e.trans (by decide)))
                                    · exact c20 (Int32.toInt_inj.mp (e.trans (by decide)))
                                    · exact c21 (Int32.toInt_inj.mp (e.trans (by decide)))
                                  refine lv_iconst (v := (-1 : Int32)) hx hb dX8_count_334 ic_m1 ?_
                                  exact rIretP C hr hd h dX8_count_335
noncomputable def f_X8_token (F : Nat) (σ : St) (x1 : Int32) (x2 : Int32) (x3 : Int32) (x4 : Int64) : Option St :=
  if inb (σ.1 3) 403 = true then bnd (sr σ 3 (σ.1 3).toNatClampNeg x1) (fun t2 => if inb (t2.1 3) 403 = true then bnd (sr t2 4 (t2.1 3).toNatClampNeg x2) (fun t4 => if inb (t4.1 3) 403 = true then bnd (sr t4 5 (t4.1 3).toNatClampNeg x3) (fun t6 => if inb (t6.1 3) 403 = true then bnd (sl t6 6 (t6.1 3).toNatClampNeg x4) (fun t8 => bnd (ss t8 3 ((t8.1 3) + 1)) (fun t9 => some t9)) else none) else none) else none) else none
set_option maxRecDepth 100000 in
set_option maxHeartbeats 4000000 in
theorem c_X8_token {l : Launch} {g : Gp} {X : va_W} (hE : E0 g) {F : Nat} {σ' : St} {σ : St} {x1 : Int32} {x2 : Int32} {x3 : Int32} {x4 : Int64} (h : f_X8_token F σ x1 x2 x3 x4 = some σ') : Cv l g yX8_token cX8_token 6 0 [.ref (ga g 40), .int x1, .int x2, .int x3, .long x4] (wM g σ ++ X) (wM g σ' ++ X) := by
  refine rHead hE (by decide +kernel) (Nat.le_of_ble_eq_true rfl) (fun p e s m below meth c C hr _ hd ls hl => ?_)
  have hx := C.1
  have hb := C.2.1
  have hl : lv_has ls 6 [(0, .ref (ga g 40)), (1, .int x1), (2, .int x2), (3, .int x3), (4, .long x4)] := hl
  generalize ([.ref (ga g 40), .int x1, .int x2, .int x3, .long x4] : List Value).toArray = args at C ⊢
  have C : Cx g p s m args meth c cX8_token 6 RX8 := C
  rw [f_X8_token] at h
  refine lv_aload_n hx hb dX8_token_0 rfl (lv_at hl 0 rfl) ?_
  refine gX8_20 C hd dX8_token_1 ?_
  refine lv_aload_n hx hb dX8_token_4 rfl (lv_at hl 0 rfl) ?_
  refine gX8_113 C hd dX8_token_5 ?_
  refine lv_iload_n hx hb dX8_token_8 rfl (lv_at hl 1 rfl) ?_
  obtain ⟨n1, h⟩ := chk h
  obtain ⟨t2, et2, h⟩ := bnd_e h
  refine st_wM_3 C hd (inb_i n1) et2 dX8_token_9 (fun H locs hd => ?_)
  refine lv_aload_n hx hb dX8_token_10 rfl (lv_at hl 0 rfl) ?_
  refine gX8_24 C hd dX8_token_11 ?_
  refine lv_aload_n hx hb dX8_token_14 rfl (lv_at hl 0 rfl) ?_
  refine gX8_113 C hd dX8_token_15 ?_
  refine lv_iload_n hx hb dX8_token_18 rfl (lv_at hl 2 rfl) ?_
  obtain ⟨n3, h⟩ := chk h
  obtain ⟨t4, et4, h⟩ := bnd_e h
  refine st_wM_4 C hd (inb_i n3) et4 dX8_token_19 (fun H locs hd => ?_)
  refine lv_aload_n hx hb dX8_token_20 rfl (lv_at hl 0 rfl) ?_
  refine gX8_27 C hd dX8_token_21 ?_
  refine lv_aload_n hx hb dX8_token_24 rfl (lv_at hl 0 rfl) ?_
  refine gX8_113 C hd dX8_token_25 ?_
  refine lv_iload_n hx hb dX8_token_28 rfl (lv_at hl 3 rfl) ?_
  obtain ⟨n5, h⟩ := chk h
  obtain ⟨t6, et6, h⟩ := bnd_e h
  refine st_wM_5 C hd (inb_i n5) et6 dX8_token_29 (fun H locs hd => ?_)
  refine lv_aload_n hx hb dX8_token_30 rfl (lv_at hl 0 rfl) ?_
  refine gX8_30 C hd dX8_token_31 ?_
  refine lv_aload_n hx hb dX8_token_34 rfl (lv_at hl 0 rfl) ?_
  refine gX8_113 C hd dX8_token_35 ?_
  refine lv_lload hx hb dX8_token_38 (lv_at hl 4 rfl) ?_
  obtain ⟨n7, h⟩ := chk h
  obtain ⟨t8, et8, h⟩ := bnd_e h
  refine st_wM_6 C hd (inb_i n7) et8 dX8_token_40 (fun H locs hd => ?_)
  refine lv_aload_n hx hb dX8_token_41 rfl (lv_at hl 0 rfl) ?_
  refine lv_dup hx hb dX8_token_42 rfl ?_
  refine gX8_113 C hd dX8_token_43 ?_
  refine lv_iconst (v := 1) hx hb dX8_token_46 ic_1 ?_
  refine lv_iadd hx hb dX8_token_47 ?_
  obtain ⟨t9, et9, h⟩ := bnd_e h
  refine pX8_113 C hd et9 dX8_token_48 (fun H locs hd => ?_)
  exact rVretS (w := wM g) C hr hd h dX8_token_51
noncomputable def f_X8_isLetter (F : Nat) (σ : St) (x0 : Int32) : Option Int32 :=
  if x0 < 97 then (some 0) else (if 122 < x0 then (some 0) else (some 1))
set_option maxRecDepth 100000 in
set_option maxHeartbeats 4000000 in
theorem c_X8_isLetter {l : Launch} {g : Gp} {X : va_W} (hE : E0 g) {F : Nat} {r' : Int32} {σ : St} {x0 : Int32} (h : f_X8_isLetter F σ x0 = some r') : Ci l g yX8_isLetter cX8_isLetter 1 (some .boolean) 0 [.int x0] (wM g σ ++ X) r' (wM g σ ++ X) := by
  refine rHead hE (by decide +kernel) (Nat.le_of_ble_eq_true rfl) (fun p e s m below meth c C hr _ hd ls hl => ?_)
  have hx := C.1
  have hb := C.2.1
  have hl : lv_has ls 1 [(0, .int x0)] := hl
  generalize ([.int x0] : List Value).toArray = args at C ⊢
  have C : Cx g p s m args meth c cX8_isLetter 1 RX8 := C
  rw [f_X8_isLetter] at h
  refine lv_iload_n hx hb dX8_isLetter_0 rfl (lv_at hl 0 rfl) ?_
  refine lv_bipush (v := 97) hx hb dX8_isLetter_1 bi_97 ?_
  refine lv_icmp_lt (tgt := 16) hx hb dX8_isLetter_3 (by decide) (fun c1 => ?_) (fun c1 => ?_)
  · replace h := iteT c1 h
    refine lv_iconst (v := 0) hx hb dX8_isLetter_16 ic_0 ?_
    exact rZretP C hr hd h (by decide) dX8_isLetter_17
  · replace h := iteF c1 h
    refine lv_iload_n hx hb dX8_isLetter_6 rfl (lv_at hl 0 rfl) ?_
    refine lv_bipush (v := 122) hx hb dX8_isLetter_7 bi_122 ?_
    refine lv_icmp_gt (tgt := 16) hx hb dX8_isLetter_9 (by decide) (fun c2 => ?_) (fun c2 => ?_)
    · replace h := iteT c2 h
      refine lv_iconst (v := 0) hx hb dX8_isLetter_16 ic_0 ?_
      exact rZretP C hr hd h (by decide) dX8_isLetter_17
    · replace h := iteF c2 h
      refine lv_iconst (v := 1) hx hb dX8_isLetter_12 ic_1 ?_
      refine lv_goto (tgt := 17) hx hb dX8_isLetter_13 (by decide) ?_
      exact rZretP C hr hd h (by decide) dX8_isLetter_17
noncomputable def f_X8_isDigit (F : Nat) (σ : St) (x0 : Int32) : Option Int32 :=
  if x0 < 48 then (some 0) else (if 57 < x0 then (some 0) else (some 1))
set_option maxRecDepth 100000 in
set_option maxHeartbeats 4000000 in
theorem c_X8_isDigit {l : Launch} {g : Gp} {X : va_W} (hE : E0 g) {F : Nat} {r' : Int32} {σ : St} {x0 : Int32} (h : f_X8_isDigit F σ x0 = some r') : Ci l g yX8_isDigit cX8_isDigit 1 (some .boolean) 0 [.int x0] (wM g σ ++ X) r' (wM g σ ++ X) := by
  refine rHead hE (by decide +kernel) (Nat.le_of_ble_eq_true rfl) (fun p e s m below meth c C hr _ hd ls hl => ?_)
  have hx := C.1
  have hb := C.2.1
  have hl : lv_has ls 1 [(0, .int x0)] := hl
  generalize ([.int x0] : List Value).toArray = args at C ⊢
  have C : Cx g p s m args meth c cX8_isDigit 1 RX8 := C
  rw [f_X8_isDigit] at h
  refine lv_iload_n hx hb dX8_isDigit_0 rfl (lv_at hl 0 rfl) ?_
  refine lv_bipush (v := 48) hx hb dX8_isDigit_1 bi_48 ?_
  refine lv_icmp_lt (tgt := 16) hx hb dX8_isDigit_3 (by decide) (fun c1 => ?_) (fun c1 => ?_)
  · replace h := iteT c1 h
    refine lv_iconst (v := 0) hx hb dX8_isDigit_16 ic_0 ?_
    exact rZretP C hr hd h (by decide) dX8_isDigit_17
  · replace h := iteF c1 h
    refine lv_iload_n hx hb dX8_isDigit_6 rfl (lv_at hl 0 rfl) ?_
    refine lv_bipush (v := 57) hx hb dX8_isDigit_7 bi_57 ?_
    refine lv_icmp_gt (tgt := 16) hx hb dX8_isDigit_9 (by decide) (fun c2 => ?_) (fun c2 => ?_)
    · replace h := iteT c2 h
      refine lv_iconst (v := 0) hx hb dX8_isDigit_16 ic_0 ?_
      exact rZretP C hr hd h (by decide) dX8_isDigit_17
    · replace h := iteF c2 h
      refine lv_iconst (v := 1) hx hb dX8_isDigit_12 ic_1 ?_
      refine lv_goto (tgt := 17) hx hb dX8_isDigit_13 (by decide) ?_
      exact rZretP C hr hd h (by decide) dX8_isDigit_17
noncomputable def f_X8_sign_75 (F : Nat) (σ : St) (x1 : Int32) (x2 : Int32) (x4 : Int32) : Option (Int32 × St) :=
  if x2 = 37 then (cal (f_X8_token F σ 16 x1 0 (0 : Int64)) (fun t3 => some (1, t3))) else (cal (f_X8_token F σ x4 x1 0 (0 : Int64)) (fun t2 => some (1, t2)))
set_option maxRecDepth 100000 in
set_option maxHeartbeats 4000000 in
theorem w_X8_sign_75 {F : Nat} {r' : Int32} {σ' : St}  (C : Cx g p s m args meth c cX8_sign 5 RX8) (hr : meth.sig.returnType = some .int) :
    (∀ (σ : St) (x1 : Int32) (x2 : Int32) (x4 : Int32), f_X8_sign_75 F σ x1 x2 x4 = some (r', σ') → ∀ (H : Heap) (locs : List Loc) (ls : Array Slot), Dy g (wM g σ ++ X) s H locs → lv_has ls 5 [(0, .ref (ga g 40)), (1, .int x1), (2, .int x2), (4, .int x4)] → W p l e (rmD 1) s m args below meth c H locs 0 0 (QI g below args s (wM g σ' ++ X) r') (F0 m 75 ls [])) := by
  have hx := C.1
  have hb := C.2.1
  have hE := C.2.2.2.2.2.2.2.2
  intro σ x1 x2 x4 h H locs ls hd hl
  rw [f_X8_sign_75] at h
  refine lv_iload_n hx hb dX8_sign_75 rfl (lv_at hl 2 rfl) ?_
  refine lv_bipush (v := 37) hx hb dX8_sign_76 bi_37 ?_
  refine lv_icmp_ne (tgt := 85) hx hb dX8_sign_78 (by decide) (fun c1 => ?_) (fun c1 => ?_)
  · replace h := iteF c1 h
    refine lv_aload_n hx hb dX8_sign_85 rfl (lv_at hl 0 rfl) ?_
    refine lv_iload hx hb dX8_sign_86 (lv_at hl 3 rfl) ?_
    refine lv_iload_n hx hb dX8_sign_88 rfl (lv_at hl 1 rfl) ?_
    refine lv_iconst (v := 0) hx hb dX8_sign_89 ic_0 ?_
    refine lv_lconst (v := 0) hx hb dX8_sign_90 (by decide) ?_
    obtain ⟨t2, et2, h⟩ := cal_e h
    refine rCallV C hd (c_X8_token hE et2) kX8_120 0 rfl rfl rfl rfl hl.1 rfl (Nat.le_of_ble_eq_true rfl) ⟨(Nat.le_of_ble_eq_true rfl), (Nat.le_of_ble_eq_true rfl)⟩ ⟨Nat.le_refl _, Nat.le_refl _⟩ dX8_sign_91 (fun H locs hd => ?_)
    refine lv_iconst (v := 1) hx hb dX8_sign_94 ic_1 ?_
    exact rIretS (w := wM g) C hr hd h dX8_sign_95
  · replace h := iteT c1 h
    refine lv_bipush (v := 16) hx hb dX8_sign_81 bi_16 ?_
    refine lv_istore (lv' := [(4, .int 16), (0, .ref (ga g 40)), (1, .int x1), (2, .int x2)]) hx hb dX8_sign_83 hl (Nat.le_of_ble_eq_true rfl) rfl (fun ls hl => ?_)
    refine lv_aload_n hx hb dX8_sign_85 rfl (lv_at hl 1 rfl) ?_
    refine lv_iload hx hb dX8_sign_86 (lv_at hl 0 rfl) ?_
    refine lv_iload_n hx hb dX8_sign_88 rfl (lv_at hl 2 rfl) ?_
    refine lv_iconst (v := 0) hx hb dX8_sign_89 ic_0 ?_
    refine lv_lconst (v := 0) hx hb dX8_sign_90 (by decide) ?_
    obtain ⟨t3, et3, h⟩ := cal_e h
    refine rCallV C hd (c_X8_token hE et3) kX8_120 0 rfl rfl rfl rfl hl.1 rfl (Nat.le_of_ble_eq_true rfl) ⟨(Nat.le_of_ble_eq_true rfl), (Nat.le_of_ble_eq_true rfl)⟩ ⟨Nat.le_refl _, Nat.le_refl _⟩ dX8_sign_91 (fun H locs hd => ?_)
    refine lv_iconst (v := 1) hx hb dX8_sign_94 ic_1 ?_
    exact rIretS (w := wM g) C hr hd h dX8_sign_95
noncomputable def f_X8_sign_65 (F : Nat) (σ : St) (x1 : Int32) (x2 : Int32) (x4 : Int32) : Option (Int32 × St) :=
  if x2 = 47 then (f_X8_sign_75 F σ x1 x2 15) else (f_X8_sign_75 F σ x1 x2 x4)
set_option maxRecDepth 100000 in
set_option maxHeartbeats 4000000 in
theorem w_X8_sign_65 {F : Nat} {r' : Int32} {σ' : St}  (C : Cx g p s m args meth c cX8_sign 5 RX8) (hr : meth.sig.returnType = some .int) :
    (∀ (σ : St) (x1 : Int32) (x2 : Int32) (x4 : Int32), f_X8_sign_65 F σ x1 x2 x4 = some (r', σ') → ∀ (H : Heap) (locs : List Loc) (ls : Array Slot), Dy g (wM g σ ++ X) s H locs → lv_has ls 5 [(0, .ref (ga g 40)), (1, .int x1), (2, .int x2), (4, .int x4)] → W p l e (rmD 1) s m args below meth c H locs 0 0 (QI g below args s (wM g σ' ++ X) r') (F0 m 65 ls [])) := by
  have hx := C.1
  have hb := C.2.1
  have hE := C.2.2.2.2.2.2.2.2
  intro σ x1 x2 x4 h H locs ls hd hl
  rw [f_X8_sign_65] at h
  refine lv_iload_n hx hb dX8_sign_65 rfl (lv_at hl 2 rfl) ?_
  refine lv_bipush (v := 47) hx hb dX8_sign_66 bi_47 ?_
  refine lv_icmp_ne (tgt := 75) hx hb dX8_sign_68 (by decide) (fun c1 => ?_) (fun c1 => ?_)
  · replace h := iteF c1 h
    exact w_X8_sign_75 C hr σ x1 x2 x4 h _ _ _ hd (lv_sub hl [0, 1, 2, 3] rfl)
  · replace h := iteT c1 h
    refine lv_bipush (v := 15) hx hb dX8_sign_71 bi_15 ?_
    refine lv_istore (lv' := [(4, .int 15), (0, .ref (ga g 40)), (1, .int x1), (2, .int x2)]) hx hb dX8_sign_73 hl (Nat.le_of_ble_eq_true rfl) rfl (fun ls hl => ?_)
    exact w_X8_sign_75 C hr σ x1 x2 15 h _ _ _ hd (lv_sub hl [1, 2, 3, 0] rfl)
noncomputable def f_X8_sign_55 (F : Nat) (σ : St) (x1 : Int32) (x2 : Int32) (x4 : Int32) : Option (Int32 × St) :=
  if x2 = 42 then (f_X8_sign_65 F σ x1 x2 10) else (f_X8_sign_65 F σ x1 x2 x4)
set_option maxRecDepth 100000 in
set_option maxHeartbeats 4000000 in
theorem w_X8_sign_55 {F : Nat} {r' : Int32} {σ' : St}  (C : Cx g p s m args meth c cX8_sign 5 RX8) (hr : meth.sig.returnType = some .int) :
    (∀ (σ : St) (x1 : Int32) (x2 : Int32) (x4 : Int32), f_X8_sign_55 F σ x1 x2 x4 = some (r', σ') → ∀ (H : Heap) (locs : List Loc) (ls : Array Slot), Dy g (wM g σ ++ X) s H locs → lv_has ls 5 [(0, .ref (ga g 40)), (1, .int x1), (2, .int x2), (4, .int x4)] → W p l e (rmD 1) s m args below meth c H locs 0 0 (QI g below args s (wM g σ' ++ X) r') (F0 m 55 ls [])) := by
  have hx := C.1
  have hb := C.2.1
  have hE := C.2.2.2.2.2.2.2.2
  intro σ x1 x2 x4 h H locs ls hd hl
  rw [f_X8_sign_55] at h
  refine lv_iload_n hx hb dX8_sign_55 rfl (lv_at hl 2 rfl) ?_
  refine lv_bipush (v := 42) hx hb dX8_sign_56 bi_42 ?_
  refine lv_icmp_ne (tgt := 65) hx hb dX8_sign_58 (by decide) (fun c1 => ?_) (fun c1 => ?_)
  · replace h := iteF c1 h
    exact w_X8_sign_65 C hr σ x1 x2 x4 h _ _ _ hd (lv_sub hl [0, 1, 2, 3] rfl)
  · replace h := iteT c1 h
    refine lv_bipush (v := 10) hx hb dX8_sign_61 bi_10 ?_
    refine lv_istore (lv' := [(4, .int 10), (0, .ref (ga g 40)), (1, .int x1), (2, .int x2)]) hx hb dX8_sign_63 hl (Nat.le_of_ble_eq_true rfl) rfl (fun ls hl => ?_)
    exact w_X8_sign_65 C hr σ x1 x2 10 h _ _ _ hd (lv_sub hl [1, 2, 3, 0] rfl)
noncomputable def f_X8_sign_45 (F : Nat) (σ : St) (x1 : Int32) (x2 : Int32) (x4 : Int32) : Option (Int32 × St) :=
  if x2 = 45 then (f_X8_sign_55 F σ x1 x2 9) else (f_X8_sign_55 F σ x1 x2 x4)
set_option maxRecDepth 100000 in
set_option maxHeartbeats 4000000 in
theorem w_X8_sign_45 {F : Nat} {r' : Int32} {σ' : St}  (C : Cx g p s m args meth c cX8_sign 5 RX8) (hr : meth.sig.returnType = some .int) :
    (∀ (σ : St) (x1 : Int32) (x2 : Int32) (x4 : Int32), f_X8_sign_45 F σ x1 x2 x4 = some (r', σ') → ∀ (H : Heap) (locs : List Loc) (ls : Array Slot), Dy g (wM g σ ++ X) s H locs → lv_has ls 5 [(0, .ref (ga g 40)), (1, .int x1), (2, .int x2), (4, .int x4)] → W p l e (rmD 1) s m args below meth c H locs 0 0 (QI g below args s (wM g σ' ++ X) r') (F0 m 45 ls [])) := by
  have hx := C.1
  have hb := C.2.1
  have hE := C.2.2.2.2.2.2.2.2
  intro σ x1 x2 x4 h H locs ls hd hl
  rw [f_X8_sign_45] at h
  refine lv_iload_n hx hb dX8_sign_45 rfl (lv_at hl 2 rfl) ?_
  refine lv_bipush (v := 45) hx hb dX8_sign_46 bi_45 ?_
  refine lv_icmp_ne (tgt := 55) hx hb dX8_sign_48 (by decide) (fun c1 => ?_) (fun c1 => ?_)
  · replace h := iteF c1 h
    exact w_X8_sign_55 C hr σ x1 x2 x4 h _ _ _ hd (lv_sub hl [0, 1, 2, 3] rfl)
  · replace h := iteT c1 h
    refine lv_bipush (v := 9) hx hb dX8_sign_51 bi_9 ?_
    refine lv_istore (lv' := [(4, .int 9), (0, .ref (ga g 40)), (1, .int x1), (2, .int x2)]) hx hb dX8_sign_53 hl (Nat.le_of_ble_eq_true rfl) rfl (fun ls hl => ?_)
    exact w_X8_sign_55 C hr σ x1 x2 9 h _ _ _ hd (lv_sub hl [1, 2, 3, 0] rfl)
noncomputable def f_X8_sign_33 (F : Nat) (σ : St) (x1 : Int32) (x2 : Int32) (y0 : Int32) : Option (Int32 × St) :=
  if x2 = 43 then (f_X8_sign_45 F σ x1 x2 8) else (f_X8_sign_45 F σ x1 x2 y0)
set_option maxRecDepth 100000 in
set_option maxHeartbeats 4000000 in
theorem w_X8_sign_33 {F : Nat} {r' : Int32} {σ' : St}  (C : Cx g p s m args meth c cX8_sign 5 RX8) (hr : meth.sig.returnType = some .int) :
    (∀ (σ : St) (x1 : Int32) (x2 : Int32) (y0 : Int32), f_X8_sign_33 F σ x1 x2 y0 = some (r', σ') → ∀ (H : Heap) (locs : List Loc) (ls : Array Slot), Dy g (wM g σ ++ X) s H locs → lv_has ls 5 [(0, .ref (ga g 40)), (1, .int x1), (2, .int x2)] → W p l e (rmD 1) s m args below meth c H locs 0 0 (QI g below args s (wM g σ' ++ X) r') (F0 m 33 ls [.int y0])) := by
  have hx := C.1
  have hb := C.2.1
  have hE := C.2.2.2.2.2.2.2.2
  intro σ x1 x2 y0 h H locs ls hd hl
  rw [f_X8_sign_33] at h
  refine lv_istore (lv' := [(4, .int y0), (0, .ref (ga g 40)), (1, .int x1), (2, .int x2)]) hx hb dX8_sign_33 hl (Nat.le_of_ble_eq_true rfl) rfl (fun ls hl => ?_)
  refine lv_iload_n hx hb dX8_sign_35 rfl (lv_at hl 3 rfl) ?_
  refine lv_bipush (v := 43) hx hb dX8_sign_36 bi_43 ?_
  refine lv_icmp_ne (tgt := 45) hx hb dX8_sign_38 (by decide) (fun c1 => ?_) (fun c1 => ?_)
  · replace h := iteF c1 h
    exact w_X8_sign_45 C hr σ x1 x2 y0 h _ _ _ hd (lv_sub hl [1, 2, 3, 0] rfl)
  · replace h := iteT c1 h
    refine lv_bipush (v := 8) hx hb dX8_sign_41 bi_8 ?_
    refine lv_istore (lv' := [(4, .int 8), (0, .ref (ga g 40)), (1, .int x1), (2, .int x2)]) hx hb dX8_sign_43 hl (Nat.le_of_ble_eq_true rfl) rfl (fun ls hl => ?_)
    exact w_X8_sign_45 C hr σ x1 x2 8 h _ _ _ hd (lv_sub hl [1, 2, 3, 0] rfl)
noncomputable def f_X8_sign (F : Nat) (σ : St) (x1 : Int32) (x2 : Int32) (x3 : Int32) : Option (Int32 × St) :=
  if x2 = 59 then (f_X8_sign_33 F σ x1 x2 4) else (if x2 = 40 then (f_X8_sign_33 F σ x1 x2 6) else (if x2 = 41 then (f_X8_sign_33 F σ x1 x2 7) else (f_X8_sign_33 F σ x1 x2 3)))
set_option maxRecDepth 100000 in
set_option maxHeartbeats 4000000 in
theorem c_X8_sign {l : Launch} {g : Gp} {X : va_W} (hE : E0 g) {F : Nat} {r' : Int32} {σ' : St} {σ : St} {x1 : Int32} {x2 : Int32} {x3 : Int32} (h : f_X8_sign F σ x1 x2 x3 = some (r', σ')) : Ci l g yX8_sign cX8_sign 5 (some .int) 1 [.ref (ga g 40), .int x1, .int x2, .int x3] (wM g σ ++ X) r' (wM g σ' ++ X) := by
  refine rHead hE (by decide +kernel) (Nat.le_of_ble_eq_true rfl) (fun p e s m below meth c C hr _ hd ls hl => ?_)
  have hx := C.1
  have hb := C.2.1
  have hl : lv_has ls 5 [(0, .ref (ga g 40)), (1, .int x1), (2, .int x2), (3, .int x3)] := hl
  generalize ([.ref (ga g 40), .int x1, .int x2, .int x3] : List Value).toArray = args at C ⊢
  have C : Cx g p s m args meth c cX8_sign 5 RX8 := C
  rw [f_X8_sign] at h
  refine lv_iload_n hx hb dX8_sign_0 rfl (lv_at hl 2 rfl) ?_
  refine lv_bipush (v := 59) hx hb dX8_sign_1 bi_59 ?_
  refine lv_icmp_ne (tgt := 10) hx hb dX8_sign_3 (by decide) (fun c1 => ?_) (fun c1 => ?_)
  · replace h := iteF c1 h
    refine lv_iload_n hx hb dX8_sign_10 rfl (lv_at hl 2 rfl) ?_
    refine lv_bipush (v := 40) hx hb dX8_sign_11 bi_40 ?_
    refine lv_icmp_ne (tgt := 21) hx hb dX8_sign_13 (by decide) (fun c2 => ?_) (fun c2 => ?_)
    · replace h := iteF c2 h
      refine lv_iload_n hx hb dX8_sign_21 rfl (lv_at hl 2 rfl) ?_
      refine lv_bipush (v := 41) hx hb dX8_sign_22 bi_41 ?_
      refine lv_icmp_ne (tgt := 32) hx hb dX8_sign_24 (by decide) (fun c3 => ?_) (fun c3 => ?_)
      · replace h := iteF c3 h
        refine lv_iconst (v := 3) hx hb dX8_sign_32 ic_3 ?_
        exact w_X8_sign_33 C hr σ x1 x2 3 h _ _ _ hd (lv_sub hl [0, 1, 2] rfl)
      · replace h := iteT c3 h
        refine lv_bipush (v := 7) hx hb dX8_sign_27 bi_7 ?_
        refine lv_goto (tgt := 33) hx hb dX8_sign_29 (by decide) ?_
        exact w_X8_sign_33 C hr σ x1 x2 7 h _ _ _ hd (lv_sub hl [0, 1, 2] rfl)
    · replace h := iteT c2 h
      refine lv_bipush (v := 6) hx hb dX8_sign_16 bi_6 ?_
      refine lv_goto (tgt := 33) hx hb dX8_sign_18 (by decide) ?_
      exact w_X8_sign_33 C hr σ x1 x2 6 h _ _ _ hd (lv_sub hl [0, 1, 2] rfl)
  · replace h := iteT c1 h
    refine lv_iconst (v := 4) hx hb dX8_sign_6 ic_4 ?_
    refine lv_goto (tgt := 33) hx hb dX8_sign_7 (by decide) ?_
    exact w_X8_sign_33 C hr σ x1 x2 4 h _ _ _ hd (lv_sub hl [0, 1, 2] rfl)
noncomputable def f_X8_cutsUp_291 (F : Nat) (k_7 : St → Int32 → Option St) (σ : St) (x1 : Int32) : Option St :=
  k_7 σ x1
set_option maxRecDepth 100000 in
set_option maxHeartbeats 4000000 in
theorem w_X8_cutsUp_291 {F : Nat} {σ' : St}  (C : Cx g p s m args meth c cX8_cutsUp 8 RX8) (hr : meth.sig.returnType = none)
    {k_7 : St → Int32 → Option St} (hk_7 : (∀ (σ : St) (x1 : Int32), k_7 σ x1 = some σ' → ∀ (H : Heap) (locs : List Loc) (ls : Array Slot), Dy g (wM g σ ++ X) s H locs → lv_has ls 8 [(0, .ref (ga g 40)), (1, .int x1)] → W p l e (rmD 2) s m args below meth c H locs 0 0 (QV g below args s (wM g σ' ++ X)) (F0 m 7 ls []))) :
    (∀ (σ : St) (x1 : Int32), f_X8_cutsUp_291 F k_7 σ x1 = some σ' → ∀ (H : Heap) (locs : List Loc) (ls : Array Slot), Dy g (wM g σ ++ X) s H locs → lv_has ls 8 [(0, .ref (ga g 40)), (1, .int x1)] → W p l e (rmD 2) s m args below meth c H locs 0 0 (QV g below args s (wM g σ' ++ X)) (F0 m 291 ls [])) := by
  have hx := C.1
  have hb := C.2.1
  have hE := C.2.2.2.2.2.2.2.2
  intro σ x1 h H locs ls hd hl
  rw [f_X8_cutsUp_291] at h
  refine lv_goto (tgt := 7) hx hb dX8_cutsUp_291 (by decide) ?_
  exact hk_7 σ x1 h _ _ _ hd (lv_sub hl [0, 1] rfl)
noncomputable def f_X8_cutsUp_67 (F : Nat) (k_7 : St → Int32 → Option St) (σ : St) (x1 : Int32) : Option St :=
  bnd (x1 + 1) (fun v1 => f_X8_cutsUp_291 F k_7 σ v1)
set_option maxRecDepth 100000 in
set_option maxHeartbeats 4000000 in
theorem w_X8_cutsUp_67 {F : Nat} {σ' : St}  (C : Cx g p s m args meth c cX8_cutsUp 8 RX8) (hr : meth.sig.returnType = none)
    {k_7 : St → Int32 → Option St} (hk_7 : (∀ (σ : St) (x1 : Int32), k_7 σ x1 = some σ' → ∀ (H : Heap) (locs : List Loc) (ls : Array Slot), Dy g (wM g σ ++ X) s H locs → lv_has ls 8 [(0, .ref (ga g 40)), (1, .int x1)] → W p l e (rmD 2) s m args below meth c H locs 0 0 (QV g below args s (wM g σ' ++ X)) (F0 m 7 ls []))) :
    (∀ (σ : St) (x1 : Int32), f_X8_cutsUp_67 F k_7 σ x1 = some σ' → ∀ (H : Heap) (locs : List Loc) (ls : Array Slot), Dy g (wM g σ ++ X) s H locs → lv_has ls 8 [(0, .ref (ga g 40)), (1, .int x1)] → W p l e (rmD 2) s m args below meth c H locs 0 0 (QV g below args s (wM g σ' ++ X)) (F0 m 67 ls [])) := by
  have hx := C.1
  have hb := C.2.1
  have hE := C.2.2.2.2.2.2.2.2
  intro σ x1 h H locs ls hd hl
  rw [f_X8_cutsUp_67] at h
  obtain ⟨v1, ev1, h⟩ := bnd_e h
  refine lv_iinc (v := v1) (lv' := [(1, .int v1), (0, .ref (ga g 40))]) hx hb dX8_cutsUp_67 hl (k := 1) rfl ((ii_1 _).trans ev1.symm) (Nat.le_of_ble_eq_true rfl) rfl (fun ls hl => ?_)
  refine lv_goto (tgt := 291) hx hb dX8_cutsUp_70 (by decide) ?_
  exact w_X8_cutsUp_291 C hr hk_7 σ v1 h _ _ _ hd (lv_sub hl [1, 0] rfl)
noncomputable def f_X8_cutsUp_261 (F : Nat) (k_7 : St → Int32 → Option St) (σ : St) (x1 : Int32) (x3 : Int32) (x4 : Int32) (y0 : Int32) : Option St :=
  cal (f_X8_token F σ y0 x1 x4 (0 : Int64)) (fun t1 => bnd (x1 + x3) (fun v2 => f_X8_cutsUp_291 F k_7 t1 v2))
set_option maxRecDepth 100000 in
set_option maxHeartbeats 4000000 in
theorem w_X8_cutsUp_261 {F : Nat} {σ' : St}  (C : Cx g p s m args meth c cX8_cutsUp 8 RX8) (hr : meth.sig.returnType = none)
    {k_7 : St → Int32 → Option St} (hk_7 : (∀ (σ : St) (x1 : Int32), k_7 σ x1 = some σ' → ∀ (H : Heap) (locs : List Loc) (ls : Array Slot), Dy g (wM g σ ++ X) s H locs → lv_has ls 8 [(0, .ref (ga g 40)), (1, .int x1)] → W p l e (rmD 2) s m args below meth c H locs 0 0 (QV g below args s (wM g σ' ++ X)) (F0 m 7 ls []))) :
    (∀ (σ : St) (x1 : Int32) (x3 : Int32) (x4 : Int32) (y0 : Int32), f_X8_cutsUp_261 F k_7 σ x1 x3 x4 y0 = some σ' → ∀ (H : Heap) (locs : List Loc) (ls : Array Slot), Dy g (wM g σ ++ X) s H locs → lv_has ls 8 [(0, .ref (ga g 40)), (1, .int x1), (3, .int x3), (4, .int x4)] → W p l e (rmD 2) s m args below meth c H locs 0 0 (QV g below args s (wM g σ' ++ X)) (F0 m 261 ls [.int y0, .ref (ga g 40)])) := by
  have hx := C.1
  have hb := C.2.1
  have hE := C.2.2.2.2.2.2.2.2
  intro σ x1 x3 x4 y0 h H locs ls hd hl
  rw [f_X8_cutsUp_261] at h
  refine lv_iload_n hx hb dX8_cutsUp_261 rfl (lv_at hl 1 rfl) ?_
  refine lv_iload hx hb dX8_cutsUp_262 (lv_at hl 3 rfl) ?_
  refine lv_lconst (v := 0) hx hb dX8_cutsUp_264 (by decide) ?_
  obtain ⟨t1, et1, h⟩ := cal_e h
  refine rCallV C hd (c_X8_token hE et1) kX8_120 0 rfl rfl rfl rfl hl.1 rfl (Nat.le_of_ble_eq_true rfl) ⟨(Nat.le_of_ble_eq_true rfl), (Nat.le_of_ble_eq_true rfl)⟩ ⟨Nat.le_refl _, Nat.le_refl _⟩ dX8_cutsUp_265 (fun H locs hd => ?_)
  refine lv_iload_n hx hb dX8_cutsUp_268 rfl (lv_at hl 1 rfl) ?_
  refine lv_iload_n hx hb dX8_cutsUp_269 rfl (lv_at hl 2 rfl) ?_
  refine lv_iadd hx hb dX8_cutsUp_270 ?_
  obtain ⟨v2, ev2, h⟩ := bnd_e h
  refine rTop ev2 ?_
  refine lv_istore_n (lv' := [(1, .int v2), (0, .ref (ga g 40)), (3, .int x3), (4, .int x4)]) hx hb dX8_cutsUp_271 rfl hl (Nat.le_of_ble_eq_true rfl) rfl (fun ls hl => ?_)
  refine lv_goto (tgt := 291) hx hb dX8_cutsUp_272 (by decide) ?_
  exact w_X8_cutsUp_291 C hr hk_7 t1 v2 h _ _ _ hd (lv_sub hl [1, 0] rfl)
noncomputable def f_X8_cutsUp_244 (F : Nat) (k_208 : St → Int32 → Int32 → Int32 → Option St) (σ : St) (x1 : Int32) (x3 : Int32) (x4 : Int32) : Option St :=
  bnd (x3 + 1) (fun v1 => k_208 σ x1 v1 x4)
set_option maxRecDepth 100000 in
set_option maxHeartbeats 4000000 in
theorem w_X8_cutsUp_244 {F : Nat} {σ' : St}  (C : Cx g p s m args meth c cX8_cutsUp 8 RX8) (hr : meth.sig.returnType = none)
    {k_208 : St → Int32 → Int32 → Int32 → Option St} (hk_208 : (∀ (σ : St) (x1 : Int32) (x3 : Int32) (x4 : Int32), k_208 σ x1 x3 x4 = some σ' → ∀ (H : Heap) (locs : List Loc) (ls : Array Slot), Dy g (wM g σ ++ X) s H locs → lv_has ls 8 [(0, .ref (ga g 40)), (1, .int x1), (3, .int x3), (4, .int x4)] → W p l e (rmD 2) s m args below meth c H locs 0 0 (QV g below args s (wM g σ' ++ X)) (F0 m 208 ls []))) :
    (∀ (σ : St) (x1 : Int32) (x3 : Int32) (x4 : Int32), f_X8_cutsUp_244 F k_208 σ x1 x3 x4 = some σ' → ∀ (H : Heap) (locs : List Loc) (ls : Array Slot), Dy g (wM g σ ++ X) s H locs → lv_has ls 8 [(0, .ref (ga g 40)), (1, .int x1), (3, .int x3), (4, .int x4)] → W p l e (rmD 2) s m args below meth c H locs 0 0 (QV g below args s (wM g σ' ++ X)) (F0 m 244 ls [])) := by
  have hx := C.1
  have hb := C.2.1
  have hE := C.2.2.2.2.2.2.2.2
  intro σ x1 x3 x4 h H locs ls hd hl
  rw [f_X8_cutsUp_244] at h
  obtain ⟨v1, ev1, h⟩ := bnd_e h
  refine lv_iinc (v := v1) (lv' := [(3, .int v1), (0, .ref (ga g 40)), (1, .int x1), (4, .int x4)]) hx hb dX8_cutsUp_244 hl (k := 2) rfl ((ii_1 _).trans ev1.symm) (Nat.le_of_ble_eq_true rfl) rfl (fun ls hl => ?_)
  refine lv_goto (tgt := 208) hx hb dX8_cutsUp_247 (by decide) ?_
  exact hk_208 σ x1 v1 x4 h _ _ _ hd (lv_sub hl [1, 2, 0, 3] rfl)
noncomputable def f_X8_cutsUp_208 (F : Nat) (k_7 : St → Int32 → Option St) : Nat → St → Int32 → Int32 → Int32 → Option St
  | 0, _, _, _, _ => none
  | n + 1, σ, x1, x3, x4 => cal (f_X8_byteAt F σ (x1 + x3)) (fun r1 => cal (f_X8_isDigit F σ r1) (fun r2 => if r2 = 0 then (if x3 ≤ 4 then (f_X8_cutsUp_261 F k_7 σ x1 x3 x4 2) else (f_X8_cutsUp_261 F k_7 σ x1 x3 x4 3)) else (if 4 ≤ x3 then (f_X8_cutsUp_244 F (f_X8_cutsUp_208 F k_7 n) σ x1 x3 x4) else (cal (f_X8_byteAt F σ (x1 + x3)) (fun r6 => bnd (((10 * x4) + r6) - 48) (fun v7 => f_X8_cutsUp_244 F (f_X8_cutsUp_208 F k_7 n) σ x1 x3 v7))))))
set_option maxRecDepth 100000 in
set_option maxHeartbeats 4000000 in
theorem w_X8_cutsUp_208 {F : Nat} {σ' : St}  (C : Cx g p s m args meth c cX8_cutsUp 8 RX8) (hr : meth.sig.returnType = none)
    {k_7 : St → Int32 → Option St} (hk_7 : (∀ (σ : St) (x1 : Int32), k_7 σ x1 = some σ' → ∀ (H : Heap) (locs : List Loc) (ls : Array Slot), Dy g (wM g σ ++ X) s H locs → lv_has ls 8 [(0, .ref (ga g 40)), (1, .int x1)] → W p l e (rmD 2) s m args below meth c H locs 0 0 (QV g below args s (wM g σ' ++ X)) (F0 m 7 ls []))) :
    (∀ (n : Nat) (σ : St) (x1 : Int32) (x3 : Int32) (x4 : Int32), f_X8_cutsUp_208 F k_7 n σ x1 x3 x4 = some σ' → ∀ (H : Heap) (locs : List Loc) (ls : Array Slot), Dy g (wM g σ ++ X) s H locs → lv_has ls 8 [(0, .ref (ga g 40)), (1, .int x1), (3, .int x3), (4, .int x4)] → W p l e (rmD 2) s m args below meth c H locs 0 0 (QV g below args s (wM g σ' ++ X)) (F0 m 208 ls [])) := by
  have hx := C.1
  have hb := C.2.1
  have hE := C.2.2.2.2.2.2.2.2
  intro n
  induction n with
  | zero =>
    intro σ x1 x3 x4 h
    cases h
  | succ n ih =>
    intro σ x1 x3 x4 h H locs ls hd hl
    rw [f_X8_cutsUp_208] at h
    refine lv_aload_n hx hb dX8_cutsUp_208 rfl (lv_at hl 0 rfl) ?_
    refine lv_iload_n hx hb dX8_cutsUp_209 rfl (lv_at hl 1 rfl) ?_
    refine lv_iload_n hx hb dX8_cutsUp_210 rfl (lv_at hl 2 rfl) ?_
    refine lv_iadd hx hb dX8_cutsUp_211 ?_
    obtain ⟨r1, er1, h⟩ := cal_e h
    refine rCallI C hd (c_X8_byteAt hE er1) kX8_116 0 rfl rfl rfl rfl hl.1 rfl (Nat.le_of_ble_eq_true rfl) ⟨(Nat.le_of_ble_eq_true rfl), (Nat.le_of_ble_eq_true rfl)⟩ ⟨Nat.le_refl _, Nat.le_refl _⟩ dX8_cutsUp_212 (fun H locs hd => ?_)
    obtain ⟨r2, er2, h⟩ := cal_e h
    refine rCallSI C hd (c_X8_isDigit hE er2) kX8_128 rfl hl.1 rfl (Nat.le_of_ble_eq_true rfl) ⟨(Nat.le_of_ble_eq_true rfl), (Nat.le_of_ble_eq_true rfl)⟩ ⟨Nat.le_refl _, Nat.le_refl _⟩ dX8_cutsUp_215 (fun H locs hd => ?_)
    refine lv_if_eq (tgt := 250) hx hb dX8_cutsUp_218 (by decide) (fun c3 => ?_) (fun c3 => ?_)
    · replace h := iteT c3 h
      refine lv_aload_n hx hb dX8_cutsUp_250 rfl (lv_at hl 0 rfl) ?_
      refine lv_iload_n hx hb dX8_cutsUp_251 rfl (lv_at hl 2 rfl) ?_
      refine lv_iconst (v := 4) hx hb dX8_cutsUp_252 ic_4 ?_
      refine lv_icmp_le (tgt := 260) hx hb dX8_cutsUp_253 (by decide) (fun c4 => ?_) (fun c4 => ?_)
      · replace h := iteT c4 h
        refine lv_iconst (v := 2) hx hb dX8_cutsUp_260 ic_2 ?_
        exact w_X8_cutsUp_261 C hr hk_7 σ x1 x3 x4 2 h _ _ _ hd (lv_sub hl [0, 1, 2, 3] rfl)
      · replace h := iteF c4 h
        refine lv_iconst (v := 3) hx hb dX8_cutsUp_256 ic_3 ?_
        refine lv_goto (tgt := 261) hx hb dX8_cutsUp_257 (by decide) ?_
        exact w_X8_cutsUp_261 C hr hk_7 σ x1 x3 x4 3 h _ _ _ hd (lv_sub hl [0, 1, 2, 3] rfl)
    · replace h := iteF c3 h
      refine lv_iload_n hx hb dX8_cutsUp_221 rfl (lv_at hl 2 rfl) ?_
      refine lv_iconst (v := 4) hx hb dX8_cutsUp_222 ic_4 ?_
      refine lv_icmp_ge (tgt := 244) hx hb dX8_cutsUp_223 (by decide) (fun c5 => ?_) (fun c5 => ?_)
      · replace h := iteT c5 h
        exact w_X8_cutsUp_244 C hr ih σ x1 x3 x4 h _ _ _ hd (lv_sub hl [0, 1, 2, 3] rfl)
      · replace h := iteF c5 h
        refine lv_bipush (v := 10) hx hb dX8_cutsUp_226 bi_10 ?_
        refine lv_iload hx hb dX8_cutsUp_228 (lv_at hl 3 rfl) ?_
        refine lv_imul hx hb dX8_cutsUp_230 ?_
        refine lv_aload_n hx hb dX8_cutsUp_231 rfl (lv_at hl 0 rfl) ?_
        refine lv_iload_n hx hb dX8_cutsUp_232 rfl (lv_at hl 1 rfl) ?_
        refine lv_iload_n hx hb dX8_cutsUp_233 rfl (lv_at hl 2 rfl) ?_
        refine lv_iadd hx hb dX8_cutsUp_234 ?_
        obtain ⟨r6, er6, h⟩ := cal_e h
        refine rCallI C hd (c_X8_byteAt hE er6) kX8_116 0 rfl rfl rfl rfl hl.1 rfl (Nat.le_of_ble_eq_true rfl) ⟨(Nat.le_of_ble_eq_true rfl), (Nat.le_of_ble_eq_true rfl)⟩ ⟨Nat.le_refl _, Nat.le_refl _⟩ dX8_cutsUp_235 (fun H locs hd => ?_)
        refine lv_iadd hx hb dX8_cutsUp_238 ?_
        refine lv_bipush (v := 48) hx hb dX8_cutsUp_239 bi_48 ?_
        refine lv_isub hx hb dX8_cutsUp_241 ?_
        obtain ⟨v7, ev7, h⟩ := bnd_e h
        refine rTop ev7 ?_
        refine lv_istore (lv' := [(4, .int v7), (0, .ref (ga g 40)), (1, .int x1), (3, .int x3)]) hx hb dX8_cutsUp_242 hl (Nat.le_of_ble_eq_true rfl) rfl (fun ls hl => ?_)
        exact w_X8_cutsUp_244 C hr ih σ x1 x3 v7 h _ _ _ hd (lv_sub hl [1, 2, 3, 0] rfl)
noncomputable def f_X8_cutsUp_179 (F : Nat) (k_7 : St → Int32 → Option St) (σ : St) (x1 : Int32) (x3 : Int32) (x4 : Int64) (x6 : Int32) : Option St :=
  cal (f_X8_token F σ x6 x1 0 x4) (fun t1 => bnd (x1 + x3) (fun v2 => f_X8_cutsUp_291 F k_7 t1 v2))
set_option maxRecDepth 100000 in
set_option maxHeartbeats 4000000 in
theorem w_X8_cutsUp_179 {F : Nat} {σ' : St}  (C : Cx g p s m args meth c cX8_cutsUp 8 RX8) (hr : meth.sig.returnType = none)
    {k_7 : St → Int32 → Option St} (hk_7 : (∀ (σ : St) (x1 : Int32), k_7 σ x1 = some σ' → ∀ (H : Heap) (locs : List Loc) (ls : Array Slot), Dy g (wM g σ ++ X) s H locs → lv_has ls 8 [(0, .ref (ga g 40)), (1, .int x1)] → W p l e (rmD 2) s m args below meth c H locs 0 0 (QV g below args s (wM g σ' ++ X)) (F0 m 7 ls []))) :
    (∀ (σ : St) (x1 : Int32) (x3 : Int32) (x4 : Int64) (x6 : Int32), f_X8_cutsUp_179 F k_7 σ x1 x3 x4 x6 = some σ' → ∀ (H : Heap) (locs : List Loc) (ls : Array Slot), Dy g (wM g σ ++ X) s H locs → lv_has ls 8 [(0, .ref (ga g 40)), (1, .int x1), (3, .int x3), (4, .long x4), (6, .int x6)] → W p l e (rmD 2) s m args below meth c H locs 0 0 (QV g below args s (wM g σ' ++ X)) (F0 m 179 ls [])) := by
  have hx := C.1
  have hb := C.2.1
  have hE := C.2.2.2.2.2.2.2.2
  intro σ x1 x3 x4 x6 h H locs ls hd hl
  rw [f_X8_cutsUp_179] at h
  refine lv_aload_n hx hb dX8_cutsUp_179 rfl (lv_at hl 0 rfl) ?_
  refine lv_iload hx hb dX8_cutsUp_180 (lv_at hl 4 rfl) ?_
  refine lv_iload_n hx hb dX8_cutsUp_182 rfl (lv_at hl 1 rfl) ?_
  refine lv_iconst (v := 0) hx hb dX8_cutsUp_183 ic_0 ?_
  refine lv_lload hx hb dX8_cutsUp_184 (lv_at hl 3 rfl) ?_
  obtain ⟨t1, et1, h⟩ := cal_e h
  refine rCallV C hd (c_X8_token hE et1) kX8_120 0 rfl rfl rfl rfl hl.1 rfl (Nat.le_of_ble_eq_true rfl) ⟨(Nat.le_of_ble_eq_true rfl), (Nat.le_of_ble_eq_true rfl)⟩ ⟨Nat.le_refl _, Nat.le_refl _⟩ dX8_cutsUp_186 (fun H locs hd => ?_)
  refine lv_iload_n hx hb dX8_cutsUp_189 rfl (lv_at hl 1 rfl) ?_
  refine lv_iload_n hx hb dX8_cutsUp_190 rfl (lv_at hl 2 rfl) ?_
  refine lv_iadd hx hb dX8_cutsUp_191 ?_
  obtain ⟨v2, ev2, h⟩ := bnd_e h
  refine rTop ev2 ?_
  refine lv_istore_n (lv' := [(1, .int v2), (0, .ref (ga g 40)), (3, .int x3), (4, .long x4), (6, .int x6)]) hx hb dX8_cutsUp_192 rfl hl (Nat.le_of_ble_eq_true rfl) rfl (fun ls hl => ?_)
  refine lv_goto (tgt := 291) hx hb dX8_cutsUp_193 (by decide) ?_
  exact w_X8_cutsUp_291 C hr hk_7 t1 v2 h _ _ _ hd (lv_sub hl [1, 0] rfl)
noncomputable def f_X8_cutsUp_173 (F : Nat) (k_146 : St → Int32 → Int32 → Int64 → Int32 → Int32 → Option St) (σ : St) (x1 : Int32) (x3 : Int32) (x4 : Int64) (x6 : Int32) (x7 : Int32) : Option St :=
  bnd (x7 + 1) (fun v1 => k_146 σ x1 x3 x4 x6 v1)
set_option maxRecDepth 100000 in
set_option maxHeartbeats 4000000 in
theorem w_X8_cutsUp_173 {F : Nat} {σ' : St}  (C : Cx g p s m args meth c cX8_cutsUp 8 RX8) (hr : meth.sig.returnType = none)
    {k_146 : St → Int32 → Int32 → Int64 → Int32 → Int32 → Option St} (hk_146 : (∀ (σ : St) (x1 : Int32) (x3 : Int32) (x4 : Int64) (x6 : Int32) (x7 : Int32), k_146 σ x1 x3 x4 x6 x7 = some σ' → ∀ (H : Heap) (locs : List Loc) (ls : Array Slot), Dy g (wM g σ ++ X) s H locs → lv_has ls 8 [(0, .ref (ga g 40)), (1, .int x1), (3, .int x3), (4, .long x4), (6, .int x6), (7, .int x7)] → W p l e (rmD 2) s m args below meth c H locs 0 0 (QV g below args s (wM g σ' ++ X)) (F0 m 146 ls []))) :
    (∀ (σ : St) (x1 : Int32) (x3 : Int32) (x4 : Int64) (x6 : Int32) (x7 : Int32), f_X8_cutsUp_173 F k_146 σ x1 x3 x4 x6 x7 = some σ' → ∀ (H : Heap) (locs : List Loc) (ls : Array Slot), Dy g (wM g σ ++ X) s H locs → lv_has ls 8 [(0, .ref (ga g 40)), (1, .int x1), (3, .int x3), (4, .long x4), (6, .int x6), (7, .int x7)] → W p l e (rmD 2) s m args below meth c H locs 0 0 (QV g below args s (wM g σ' ++ X)) (F0 m 173 ls [])) := by
  have hx := C.1
  have hb := C.2.1
  have hE := C.2.2.2.2.2.2.2.2
  intro σ x1 x3 x4 x6 x7 h H locs ls hd hl
  rw [f_X8_cutsUp_173] at h
  obtain ⟨v1, ev1, h⟩ := bnd_e h
  refine lv_iinc (v := v1) (lv' := [(7, .int v1), (0, .ref (ga g 40)), (1, .int x1), (3, .int x3), (4, .long x4), (6, .int x6)]) hx hb dX8_cutsUp_173 hl (k := 5) rfl ((ii_1 _).trans ev1.symm) (Nat.le_of_ble_eq_true rfl) rfl (fun ls hl => ?_)
  refine lv_goto (tgt := 146) hx hb dX8_cutsUp_176 (by decide) ?_
  exact hk_146 σ x1 x3 x4 x6 v1 h _ _ _ hd (lv_sub hl [1, 2, 3, 4, 5, 0] rfl)
noncomputable def f_X8_cutsUp_146 (F : Nat) (k_7 : St → Int32 → Option St) : Nat → St → Int32 → Int32 → Int64 → Int32 → Int32 → Option St
  | 0, _, _, _, _, _, _ => none
  | n + 1, σ, x1, x3, x4, x6, x7 => if 20 ≤ x7 then (f_X8_cutsUp_179 F k_7 σ x1 x3 x4 x6) else (if inb x7 20 = true then if (lg_cmp (σ.2.2 7 x7.toNatClampNeg) x4) = 0 then (bnd (20 + x7) (fun v4 => f_X8_cutsUp_173 F (f_X8_cutsUp_146 F k_7 n) σ x1 x3 x4 v4 x7)) else (f_X8_cutsUp_173 F (f_X8_cutsUp_146 F k_7 n) σ x1 x3 x4 x6 x7) else none)
set_option maxRecDepth 100000 in
set_option maxHeartbeats 4000000 in
theorem w_X8_cutsUp_146 {F : Nat} {σ' : St}  (C : Cx g p s m args meth c cX8_cutsUp 8 RX8) (hr : meth.sig.returnType = none)
    {k_7 : St → Int32 → Option St} (hk_7 : (∀ (σ : St) (x1 : Int32), k_7 σ x1 = some σ' → ∀ (H : Heap) (locs : List Loc) (ls : Array Slot), Dy g (wM g σ ++ X) s H locs → lv_has ls 8 [(0, .ref (ga g 40)), (1, .int x1)] → W p l e (rmD 2) s m args below meth c H locs 0 0 (QV g below args s (wM g σ' ++ X)) (F0 m 7 ls []))) :
    (∀ (n : Nat) (σ : St) (x1 : Int32) (x3 : Int32) (x4 : Int64) (x6 : Int32) (x7 : Int32), f_X8_cutsUp_146 F k_7 n σ x1 x3 x4 x6 x7 = some σ' → ∀ (H : Heap) (locs : List Loc) (ls : Array Slot), Dy g (wM g σ ++ X) s H locs → lv_has ls 8 [(0, .ref (ga g 40)), (1, .int x1), (3, .int x3), (4, .long x4), (6, .int x6), (7, .int x7)] → W p l e (rmD 2) s m args below meth c H locs 0 0 (QV g below args s (wM g σ' ++ X)) (F0 m 146 ls [])) := by
  have hx := C.1
  have hb := C.2.1
  have hE := C.2.2.2.2.2.2.2.2
  intro n
  induction n with
  | zero =>
    intro σ x1 x3 x4 x6 x7 h
    cases h
  | succ n ih =>
    intro σ x1 x3 x4 x6 x7 h H locs ls hd hl
    rw [f_X8_cutsUp_146] at h
    refine lv_iload hx hb dX8_cutsUp_146 (lv_at hl 5 rfl) ?_
    refine lv_bipush (v := 20) hx hb dX8_cutsUp_148 bi_20 ?_
    refine lv_icmp_ge (tgt := 179) hx hb dX8_cutsUp_150 (by decide) (fun c1 => ?_) (fun c1 => ?_)
    · replace h := iteT c1 h
      exact w_X8_cutsUp_179 C hr hk_7 σ x1 x3 x4 x6 h _ _ _ hd (lv_sub hl [0, 1, 2, 3, 4] rfl)
    · replace h := iteF c1 h
      refine lv_aload_n hx hb dX8_cutsUp_153 rfl (lv_at hl 0 rfl) ?_
      refine gX8_34 C hd dX8_cutsUp_154 ?_
      refine lv_iload hx hb dX8_cutsUp_157 (lv_at hl 5 rfl) ?_
      obtain ⟨n2, h⟩ := chk h
      refine ld_wM_7 C hd (inb_i n2) dX8_cutsUp_159 ?_
      refine lv_lload hx hb dX8_cutsUp_160 (lv_at hl 3 rfl) ?_
      refine W.lcmp hx hb dX8_cutsUp_162 ?_
      refine lv_if_ne (tgt := 173) hx hb dX8_cutsUp_163 (by decide) (fun c3 => ?_) (fun c3 => ?_)
      · replace h := iteF c3 h
        exact w_X8_cutsUp_173 C hr ih σ x1 x3 x4 x6 x7 h _ _ _ hd (lv_sub hl [0, 1, 2, 3, 4, 5] rfl)
      · replace h := iteT c3 h
        refine lv_bipush (v := 20) hx hb dX8_cutsUp_166 bi_20 ?_
        refine lv_iload hx hb dX8_cutsUp_168 (lv_at hl 5 rfl) ?_
        refine lv_iadd hx hb dX8_cutsUp_170 ?_
        obtain ⟨v4, ev4, h⟩ := bnd_e h
        refine rTop ev4 ?_
        refine lv_istore (lv' := [(6, .int v4), (0, .ref (ga g 40)), (1, .int x1), (3, .int x3), (4, .long x4), (7, .int x7)]) hx hb dX8_cutsUp_171 hl (Nat.le_of_ble_eq_true rfl) rfl (fun ls hl => ?_)
        exact w_X8_cutsUp_173 C hr ih σ x1 x3 x4 v4 x7 h _ _ _ hd (lv_sub hl [1, 2, 3, 4, 0, 5] rfl)
noncomputable def f_X8_cutsUp_135 (F : Nat) (k_7 : St → Int32 → Option St) (σ : St) (x1 : Int32) (x3 : Int32) (x4 : Int64) (y0 : Int32) : Option St :=
  if 8 < x3 then (f_X8_cutsUp_179 F k_7 σ x1 x3 x4 y0) else (f_X8_cutsUp_146 F k_7 F σ x1 x3 x4 y0 0)
set_option maxRecDepth 100000 in
set_option maxHeartbeats 4000000 in
theorem w_X8_cutsUp_135 {F : Nat} {σ' : St}  (C : Cx g p s m args meth c cX8_cutsUp 8 RX8) (hr : meth.sig.returnType = none)
    {k_7 : St → Int32 → Option St} (hk_7 : (∀ (σ : St) (x1 : Int32), k_7 σ x1 = some σ' → ∀ (H : Heap) (locs : List Loc) (ls : Array Slot), Dy g (wM g σ ++ X) s H locs → lv_has ls 8 [(0, .ref (ga g 40)), (1, .int x1)] → W p l e (rmD 2) s m args below meth c H locs 0 0 (QV g below args s (wM g σ' ++ X)) (F0 m 7 ls []))) :
    (∀ (σ : St) (x1 : Int32) (x3 : Int32) (x4 : Int64) (y0 : Int32), f_X8_cutsUp_135 F k_7 σ x1 x3 x4 y0 = some σ' → ∀ (H : Heap) (locs : List Loc) (ls : Array Slot), Dy g (wM g σ ++ X) s H locs → lv_has ls 8 [(0, .ref (ga g 40)), (1, .int x1), (3, .int x3), (4, .long x4)] → W p l e (rmD 2) s m args below meth c H locs 0 0 (QV g below args s (wM g σ' ++ X)) (F0 m 135 ls [.int y0])) := by
  have hx := C.1
  have hb := C.2.1
  have hE := C.2.2.2.2.2.2.2.2
  intro σ x1 x3 x4 y0 h H locs ls hd hl
  rw [f_X8_cutsUp_135] at h
  refine lv_istore (lv' := [(6, .int y0), (0, .ref (ga g 40)), (1, .int x1), (3, .int x3), (4, .long x4)]) hx hb dX8_cutsUp_135 hl (Nat.le_of_ble_eq_true rfl) rfl (fun ls hl => ?_)
  refine lv_iload_n hx hb dX8_cutsUp_137 rfl (lv_at hl 3 rfl) ?_
  refine lv_bipush (v := 8) hx hb dX8_cutsUp_138 bi_8 ?_
  refine lv_icmp_gt (tgt := 179) hx hb dX8_cutsUp_140 (by decide) (fun c1 => ?_) (fun c1 => ?_)
  · replace h := iteT c1 h
    exact w_X8_cutsUp_179 C hr hk_7 σ x1 x3 x4 y0 h _ _ _ hd (lv_sub hl [1, 2, 3, 4, 0] rfl)
  · replace h := iteF c1 h
    refine lv_iconst (v := 0) hx hb dX8_cutsUp_143 ic_0 ?_
    refine lv_istore (lv' := [(7, .int 0), (6, .int y0), (0, .ref (ga g 40)), (1, .int x1), (3, .int x3), (4, .long x4)]) hx hb dX8_cutsUp_144 hl (Nat.le_of_ble_eq_true rfl) rfl (fun ls hl => ?_)
    exact w_X8_cutsUp_146 C hr hk_7 _ σ x1 x3 x4 y0 0 h _ _ _ hd (lv_sub hl [2, 3, 4, 5, 1, 0] rfl)
noncomputable def f_X8_cutsUp_118 (F : Nat) (k_85 : St → Int32 → Int32 → Int64 → Option St) (σ : St) (x1 : Int32) (x3 : Int32) (x4 : Int64) : Option St :=
  bnd (x3 + 1) (fun v1 => k_85 σ x1 v1 x4)
set_option maxRecDepth 100000 in
set_option maxHeartbeats 4000000 in
theorem w_X8_cutsUp_118 {F : Nat} {σ' : St}  (C : Cx g p s m args meth c cX8_cutsUp 8 RX8) (hr : meth.sig.returnType = none)
    {k_85 : St → Int32 → Int32 → Int64 → Option St} (hk_85 : (∀ (σ : St) (x1 : Int32) (x3 : Int32) (x4 : Int64), k_85 σ x1 x3 x4 = some σ' → ∀ (H : Heap) (locs : List Loc) (ls : Array Slot), Dy g (wM g σ ++ X) s H locs → lv_has ls 8 [(0, .ref (ga g 40)), (1, .int x1), (3, .int x3), (4, .long x4)] → W p l e (rmD 2) s m args below meth c H locs 0 0 (QV g below args s (wM g σ' ++ X)) (F0 m 85 ls []))) :
    (∀ (σ : St) (x1 : Int32) (x3 : Int32) (x4 : Int64), f_X8_cutsUp_118 F k_85 σ x1 x3 x4 = some σ' → ∀ (H : Heap) (locs : List Loc) (ls : Array Slot), Dy g (wM g σ ++ X) s H locs → lv_has ls 8 [(0, .ref (ga g 40)), (1, .int x1), (3, .int x3), (4, .long x4)] → W p l e (rmD 2) s m args below meth c H locs 0 0 (QV g below args s (wM g σ' ++ X)) (F0 m 118 ls [])) := by
  have hx := C.1
  have hb := C.2.1
  have hE := C.2.2.2.2.2.2.2.2
  intro σ x1 x3 x4 h H locs ls hd hl
  rw [f_X8_cutsUp_118] at h
  obtain ⟨v1, ev1, h⟩ := bnd_e h
  refine lv_iinc (v := v1) (lv' := [(3, .int v1), (0, .ref (ga g 40)), (1, .int x1), (4, .long x4)]) hx hb dX8_cutsUp_118 hl (k := 2) rfl ((ii_1 _).trans ev1.symm) (Nat.le_of_ble_eq_true rfl) rfl (fun ls hl => ?_)
  refine lv_goto (tgt := 85) hx hb dX8_cutsUp_121 (by decide) ?_
  exact hk_85 σ x1 v1 x4 h _ _ _ hd (lv_sub hl [1, 2, 0, 3] rfl)
noncomputable def f_X8_cutsUp_85 (F : Nat) (k_7 : St → Int32 → Option St) : Nat → St → Int32 → Int32 → Int64 → Option St
  | 0, _, _, _, _ => none
  | n + 1, σ, x1, x3, x4 => cal (f_X8_byteAt F σ (x1 + x3)) (fun r1 => cal (f_X8_isLetter F σ r1) (fun r2 => if r2 = 0 then (if x3 ≤ 8 then (f_X8_cutsUp_135 F k_7 σ x1 x3 x4 1) else (f_X8_cutsUp_135 F k_7 σ x1 x3 x4 3)) else (if 8 ≤ x3 then (f_X8_cutsUp_118 F (f_X8_cutsUp_85 F k_7 n) σ x1 x3 x4) else (cal (f_X8_byteAt F σ (x1 + x3)) (fun r6 => cal (f_X8_appends F σ x4 r6) (fun r7 => f_X8_cutsUp_118 F (f_X8_cutsUp_85 F k_7 n) σ x1 x3 r7))))))
set_option maxRecDepth 100000 in
set_option maxHeartbeats 4000000 in
theorem w_X8_cutsUp_85 {F : Nat} {σ' : St}  (C : Cx g p s m args meth c cX8_cutsUp 8 RX8) (hr : meth.sig.returnType = none)
    {k_7 : St → Int32 → Option St} (hk_7 : (∀ (σ : St) (x1 : Int32), k_7 σ x1 = some σ' → ∀ (H : Heap) (locs : List Loc) (ls : Array Slot), Dy g (wM g σ ++ X) s H locs → lv_has ls 8 [(0, .ref (ga g 40)), (1, .int x1)] → W p l e (rmD 2) s m args below meth c H locs 0 0 (QV g below args s (wM g σ' ++ X)) (F0 m 7 ls []))) :
    (∀ (n : Nat) (σ : St) (x1 : Int32) (x3 : Int32) (x4 : Int64), f_X8_cutsUp_85 F k_7 n σ x1 x3 x4 = some σ' → ∀ (H : Heap) (locs : List Loc) (ls : Array Slot), Dy g (wM g σ ++ X) s H locs → lv_has ls 8 [(0, .ref (ga g 40)), (1, .int x1), (3, .int x3), (4, .long x4)] → W p l e (rmD 2) s m args below meth c H locs 0 0 (QV g below args s (wM g σ' ++ X)) (F0 m 85 ls [])) := by
  have hx := C.1
  have hb := C.2.1
  have hE := C.2.2.2.2.2.2.2.2
  intro n
  induction n with
  | zero =>
    intro σ x1 x3 x4 h
    cases h
  | succ n ih =>
    intro σ x1 x3 x4 h H locs ls hd hl
    rw [f_X8_cutsUp_85] at h
    refine lv_aload_n hx hb dX8_cutsUp_85 rfl (lv_at hl 0 rfl) ?_
    refine lv_iload_n hx hb dX8_cutsUp_86 rfl (lv_at hl 1 rfl) ?_
    refine lv_iload_n hx hb dX8_cutsUp_87 rfl (lv_at hl 2 rfl) ?_
    refine lv_iadd hx hb dX8_cutsUp_88 ?_
    obtain ⟨r1, er1, h⟩ := cal_e h
    refine rCallI C hd (c_X8_byteAt hE er1) kX8_116 0 rfl rfl rfl rfl hl.1 rfl (Nat.le_of_ble_eq_true rfl) ⟨(Nat.le_of_ble_eq_true rfl), (Nat.le_of_ble_eq_true rfl)⟩ ⟨Nat.le_refl _, Nat.le_refl _⟩ dX8_cutsUp_89 (fun H locs hd => ?_)
    obtain ⟨r2, er2, h⟩ := cal_e h
    refine rCallSI C hd (c_X8_isLetter hE er2) kX8_124 rfl hl.1 rfl (Nat.le_of_ble_eq_true rfl) ⟨(Nat.le_of_ble_eq_true rfl), (Nat.le_of_ble_eq_true rfl)⟩ ⟨Nat.le_refl _, Nat.le_refl _⟩ dX8_cutsUp_92 (fun H locs hd => ?_)
    refine lv_if_eq (tgt := 124) hx hb dX8_cutsUp_95 (by decide) (fun c3 => ?_) (fun c3 => ?_)
    · replace h := iteT c3 h
      refine lv_iload_n hx hb dX8_cutsUp_124 rfl (lv_at hl 2 rfl) ?_
      refine lv_bipush (v := 8) hx hb dX8_cutsUp_125 bi_8 ?_
      refine lv_icmp_le (tgt := 134) hx hb dX8_cutsUp_127 (by decide) (fun c4 => ?_) (fun c4 => ?_)
      · replace h := iteT c4 h
        refine lv_iconst (v := 1) hx hb dX8_cutsUp_134 ic_1 ?_
        exact w_X8_cutsUp_135 C hr hk_7 σ x1 x3 x4 1 h _ _ _ hd (lv_sub hl [0, 1, 2, 3] rfl)
      · replace h := iteF c4 h
        refine lv_iconst (v := 3) hx hb dX8_cutsUp_130 ic_3 ?_
        refine lv_goto (tgt := 135) hx hb dX8_cutsUp_131 (by decide) ?_
        exact w_X8_cutsUp_135 C hr hk_7 σ x1 x3 x4 3 h _ _ _ hd (lv_sub hl [0, 1, 2, 3] rfl)
    · replace h := iteF c3 h
      refine lv_iload_n hx hb dX8_cutsUp_98 rfl (lv_at hl 2 rfl) ?_
      refine lv_bipush (v := 8) hx hb dX8_cutsUp_99 bi_8 ?_
      refine lv_icmp_ge (tgt := 118) hx hb dX8_cutsUp_101 (by decide) (fun c5 => ?_) (fun c5 => ?_)
      · replace h := iteT c5 h
        exact w_X8_cutsUp_118 C hr ih σ x1 x3 x4 h _ _ _ hd (lv_sub hl [0, 1, 2, 3] rfl)
      · replace h := iteF c5 h
        refine lv_lload hx hb dX8_cutsUp_104 (lv_at hl 3 rfl) ?_
        refine lv_aload_n hx hb dX8_cutsUp_106 rfl (lv_at hl 0 rfl) ?_
        refine lv_iload_n hx hb dX8_cutsUp_107 rfl (lv_at hl 1 rfl) ?_
        refine lv_iload_n hx hb dX8_cutsUp_108 rfl (lv_at hl 2 rfl) ?_
        refine lv_iadd hx hb dX8_cutsUp_109 ?_
        obtain ⟨r6, er6, h⟩ := cal_e h
        refine rCallI C hd (c_X8_byteAt hE er6) kX8_116 0 rfl rfl rfl rfl hl.1 rfl (Nat.le_of_ble_eq_true rfl) ⟨(Nat.le_of_ble_eq_true rfl), (Nat.le_of_ble_eq_true rfl)⟩ ⟨Nat.le_refl _, Nat.le_refl _⟩ dX8_cutsUp_110 (fun H locs hd => ?_)
        obtain ⟨r7, er7, h⟩ := cal_e h
        refine rCallSL C hd (c_X8_appends hE er7) kX8_109 rfl hl.1 rfl (Nat.le_of_ble_eq_true rfl) ⟨(Nat.le_of_ble_eq_true rfl), (Nat.le_of_ble_eq_true rfl)⟩ ⟨Nat.le_refl _, Nat.le_refl _⟩ dX8_cutsUp_113 (fun H locs hd => ?_)
        refine lv_lstore (lv' := [(4, .long r7), (0, .ref (ga g 40)), (1, .int x1), (3, .int x3)]) hx hb dX8_cutsUp_116 hl (Nat.le_of_ble_eq_true rfl) rfl (fun ls hl => ?_)
        exact w_X8_cutsUp_118 C hr ih σ x1 x3 r7 h _ _ _ hd (lv_sub hl [1, 2, 3, 0] rfl)
noncomputable def f_X8_cutsUp_7 (F : Nat) : Nat → St → Int32 → Option St
  | 0, _, _ => none
  | n + 1, σ, x1 => if 400 < (σ.1 3) then (some σ) else (cal (f_X8_byteAt F σ x1) (fun r2 => if x1 < (σ.1 2) then (if r2 = 9 then (f_X8_cutsUp_67 F (f_X8_cutsUp_7 F n) σ x1) else (if r2 = 10 then (f_X8_cutsUp_67 F (f_X8_cutsUp_7 F n) σ x1) else (if r2 = 13 then (f_X8_cutsUp_67 F (f_X8_cutsUp_7 F n) σ x1) else (if r2 = 32 then (f_X8_cutsUp_67 F (f_X8_cutsUp_7 F n) σ x1) else (cal (f_X8_isLetter F σ r2) (fun r8 => if r8 = 0 then (cal (f_X8_isDigit F σ r2) (fun r10 => if r10 = 0 then (cal (f_X8_byteAt F σ (x1 + 1)) (fun r12 => cal2 (f_X8_sign F σ x1 r2 r12) (fun r13 t14 => bnd (x1 + r13) (fun v15 => f_X8_cutsUp_291 F (f_X8_cutsUp_7 F n) t14 v15)))) else (f_X8_cutsUp_208 F (f_X8_cutsUp_7 F n) F σ x1 0 0))) else (bnd (0 : Int64) (fun v16 => f_X8_cutsUp_85 F (f_X8_cutsUp_7 F n) F σ x1 0 v16)))))))) else (cal (f_X8_token F σ 0 (σ.1 2) 0 (0 : Int64)) (fun t17 => some t17))))
set_option maxRecDepth 100000 in
set_option maxHeartbeats 4000000 in
theorem w_X8_cutsUp_7 {F : Nat} {σ' : St}  (C : Cx g p s m args meth c cX8_cutsUp 8 RX8) (hr : meth.sig.returnType = none) :
    (∀ (n : Nat) (σ : St) (x1 : Int32), f_X8_cutsUp_7 F n σ x1 = some σ' → ∀ (H : Heap) (locs : List Loc) (ls : Array Slot), Dy g (wM g σ ++ X) s H locs → lv_has ls 8 [(0, .ref (ga g 40)), (1, .int x1)] → W p l e (rmD 2) s m args below meth c H locs 0 0 (QV g below args s (wM g σ' ++ X)) (F0 m 7 ls [])) := by
  have hx := C.1
  have hb := C.2.1
  have hE := C.2.2.2.2.2.2.2.2
  intro n
  induction n with
  | zero =>
    intro σ x1 h
    cases h
  | succ n ih =>
    intro σ x1 h H locs ls hd hl
    rw [f_X8_cutsUp_7] at h
    refine lv_aload_n hx hb dX8_cutsUp_7 rfl (lv_at hl 0 rfl) ?_
    refine gX8_113 C hd dX8_cutsUp_8 ?_
    refine lv_sipush (v := 400) hx hb dX8_cutsUp_11 si_400 ?_
    refine lv_icmp_gt (tgt := 294) hx hb dX8_cutsUp_14 (by decide) (fun c1 => ?_) (fun c1 => ?_)
    · replace h := iteT c1 h
      exact rVretS (w := wM g) C hr hd h dX8_cutsUp_294
    · replace h := iteF c1 h
      refine lv_aload_n hx hb dX8_cutsUp_17 rfl (lv_at hl 0 rfl) ?_
      refine lv_iload_n hx hb dX8_cutsUp_18 rfl (lv_at hl 1 rfl) ?_
      obtain ⟨r2, er2, h⟩ := cal_e h
      refine rCallI C hd (c_X8_byteAt hE er2) kX8_116 0 rfl rfl rfl rfl hl.1 rfl (Nat.le_of_ble_eq_true rfl) ⟨(Nat.le_of_ble_eq_true rfl), (Nat.le_of_ble_eq_true rfl)⟩ ⟨Nat.le_refl _, Nat.le_refl _⟩ dX8_cutsUp_19 (fun H locs hd => ?_)
      refine lv_istore_n (lv' := [(2, .int r2), (0, .ref (ga g 40)), (1, .int x1)]) hx hb dX8_cutsUp_22 rfl hl (Nat.le_of_ble_eq_true rfl) rfl (fun ls hl => ?_)
      refine lv_iload_n hx hb dX8_cutsUp_23 rfl (lv_at hl 2 rfl) ?_
      refine lv_aload_n hx hb dX8_cutsUp_24 rfl (lv_at hl 1 rfl) ?_
      refine gX8_104 C hd dX8_cutsUp_25 ?_
      refine lv_icmp_lt (tgt := 43) hx hb dX8_cutsUp_28 (by decide) (fun c3 => ?_) (fun c3 => ?_)
      · replace h := iteT c3 h
        refine lv_iload_n hx hb dX8_cutsUp_43 rfl (lv_at hl 0 rfl) ?_
        refine lv_bipush (v := 9) hx hb dX8_cutsUp_44 bi_9 ?_
        refine lv_icmp_eq (tgt := 67) hx hb dX8_cutsUp_46 (by decide) (fun c4 => ?_) (fun c4 => ?_)
        · replace h := iteT c4 h
          exact w_X8_cutsUp_67 C hr ih σ x1 h _ _ _ hd (lv_sub hl [1, 2] rfl)
        · replace h := iteF c4 h
          refine lv_iload_n hx hb dX8_cutsUp_49 rfl (lv_at hl 0 rfl) ?_
          refine lv_bipush (v := 10) hx hb dX8_cutsUp_50 bi_10 ?_
          refine lv_icmp_eq (tgt := 67) hx hb dX8_cutsUp_52 (by decide) (fun c5 => ?_) (fun c5 => ?_)
          · replace h := iteT c5 h
            exact w_X8_cutsUp_67 C hr ih σ x1 h _ _ _ hd (lv_sub hl [1, 2] rfl)
          · replace h := iteF c5 h
            refine lv_iload_n hx hb dX8_cutsUp_55 rfl (lv_at hl 0 rfl) ?_
            refine lv_bipush (v := 13) hx hb dX8_cutsUp_56 bi_13 ?_
            refine lv_icmp_eq (tgt := 67) hx hb dX8_cutsUp_58 (by decide) (fun c6 => ?_) (fun c6 => ?_)
            · replace h := iteT c6 h
              exact w_X8_cutsUp_67 C hr ih σ x1 h _ _ _ hd (lv_sub hl [1, 2] rfl)
            · replace h := iteF c6 h
              refine lv_iload_n hx hb dX8_cutsUp_61 rfl (lv_at hl 0 rfl) ?_
              refine lv_bipush (v := 32) hx hb dX8_cutsUp_62 bi_32 ?_
              refine lv_icmp_ne (tgt := 73) hx hb dX8_cutsUp_64 (by decide) (fun c7 => ?_) (fun c7 => ?_)
              · replace h := iteF c7 h
                refine lv_iload_n hx hb dX8_cutsUp_73 rfl (lv_at hl 0 rfl) ?_
                obtain ⟨r8, er8, h⟩ := cal_e h
                refine rCallSI C hd (c_X8_isLetter hE er8) kX8_124 rfl hl.1 rfl (Nat.le_of_ble_eq_true rfl) ⟨(Nat.le_of_ble_eq_true rfl), (Nat.le_of_ble_eq_true rfl)⟩ ⟨Nat.le_refl _, Nat.le_refl _⟩ dX8_cutsUp_74 (fun H locs hd => ?_)
                refine lv_if_eq (tgt := 196) hx hb dX8_cutsUp_77 (by decide) (fun c9 => ?_) (fun c9 => ?_)
                · replace h := iteT c9 h
                  refine lv_iload_n hx hb dX8_cutsUp_196 rfl (lv_at hl 0 rfl) ?_
                  obtain ⟨r10, er10, h⟩ := cal_e h
                  refine rCallSI C hd (c_X8_isDigit hE er10) kX8_128 rfl hl.1 rfl (Nat.le_of_ble_eq_true rfl) ⟨(Nat.le_of_ble_eq_true rfl), (Nat.le_of_ble_eq_true rfl)⟩ ⟨Nat.le_refl _, Nat.le_refl _⟩ dX8_cutsUp_197 (fun H locs hd => ?_)
                  refine lv_if_eq (tgt := 275) hx hb dX8_cutsUp_200 (by decide) (fun c11 => ?_) (fun c11 => ?_)
                  · replace h := iteT c11 h
                    refine lv_iload_n hx hb dX8_cutsUp_275 rfl (lv_at hl 2 rfl) ?_
                    refine lv_aload_n hx hb dX8_cutsUp_276 rfl (lv_at hl 1 rfl) ?_
                    refine lv_iload_n hx hb dX8_cutsUp_277 rfl (lv_at hl 2 rfl) ?_
                    refine lv_iload_n hx hb dX8_cutsUp_278 rfl (lv_at hl 0 rfl) ?_
                    refine lv_aload_n hx hb dX8_cutsUp_279 rfl (lv_at hl 1 rfl) ?_
                    refine lv_iload_n hx hb dX8_cutsUp_280 rfl (lv_at hl 2 rfl) ?_
                    refine lv_iconst (v := 1) hx hb dX8_cutsUp_281 ic_1 ?_
                    refine lv_iadd hx hb dX8_cutsUp_282 ?_
                    obtain ⟨r12, er12, h⟩ := cal_e h
                    refine rCallI C hd (c_X8_byteAt hE er12) kX8_116 0 rfl rfl rfl rfl hl.1 rfl (Nat.le_of_ble_eq_true rfl) ⟨(Nat.le_of_ble_eq_true rfl), (Nat.le_of_ble_eq_true rfl)⟩ ⟨Nat.le_refl _, Nat.le_refl _⟩ dX8_cutsUp_283 (fun H locs hd => ?_)
                    obtain ⟨r13, t14, et14, h⟩ := cal2_e h
                    refine rCallI C hd (c_X8_sign hE et14) kX8_131 0 rfl rfl rfl rfl hl.1 rfl (Nat.le_of_ble_eq_true rfl) ⟨(Nat.le_of_ble_eq_true rfl), (Nat.le_of_ble_eq_true rfl)⟩ ⟨Nat.le_refl _, Nat.le_refl _⟩ dX8_cutsUp_286 (fun H locs hd => ?_)
                    refine lv_iadd hx hb dX8_cutsUp_289 ?_
                    obtain ⟨v15, ev15, h⟩ := bnd_e h
                    refine rTop ev15 ?_
                    refine lv_istore_n (lv' := [(1, .int v15), (2, .int r2), (0, .ref (ga g 40))]) hx hb dX8_cutsUp_290 rfl hl (Nat.le_of_ble_eq_true rfl) rfl (fun ls hl => ?_)
                    exact w_X8_cutsUp_291 C hr ih t14 v15 h _ _ _ hd (lv_sub hl [2, 0] rfl)
                  · replace h := iteF c11 h
                    refine lv_iconst (v := 0) hx hb dX8_cutsUp_203 ic_0 ?_
                    refine lv_istore_n (lv' := [(3, .int 0), (2, .int r2), (0, .ref (ga g 40)), (1, .int x1)]) hx hb dX8_cutsUp_204 rfl hl (Nat.le_of_ble_eq_true rfl) rfl (fun ls hl => ?_)
                    refine lv_iconst (v := 0) hx hb dX8_cutsUp_205 ic_0 ?_
                    refine lv_istore (lv' := [(4, .int 0), (3, .int 0), (2, .int r2), (0, .ref (ga g 40)), (1, .int x1)]) hx hb dX8_cutsUp_206 hl (Nat.le_of_ble_eq_true rfl) rfl (fun ls hl => ?_)
                    exact w_X8_cutsUp_208 C hr ih _ σ x1 0 0 h _ _ _ hd (lv_sub hl [3, 4, 1, 0] rfl)
                · replace h := iteF c9 h
                  refine lv_iconst (v := 0) hx hb dX8_cutsUp_80 ic_0 ?_
                  refine lv_istore_n (lv' := [(3, .int 0), (2, .int r2), (0, .ref (ga g 40)), (1, .int x1)]) hx hb dX8_cutsUp_81 rfl hl (Nat.le_of_ble_eq_true rfl) rfl (fun ls hl => ?_)
                  refine lv_lconst (v := 0) hx hb dX8_cutsUp_82 (by decide) ?_
                  obtain ⟨v16, ev16, h⟩ := bnd_e h
                  refine rTopL ev16 ?_
                  refine lv_lstore (lv' := [(4, .long v16), (3, .int 0), (2, .int r2), (0, .ref (ga g 40)), (1, .int x1)]) hx hb dX8_cutsUp_83 hl (Nat.le_of_ble_eq_true rfl) rfl (fun ls hl => ?_)
                  exact w_X8_cutsUp_85 C hr ih _ σ x1 0 v16 h _ _ _ hd (lv_sub hl [3, 4, 1, 0] rfl)
              · replace h := iteT c7 h
                exact w_X8_cutsUp_67 C hr ih σ x1 h _ _ _ hd (lv_sub hl [1, 2] rfl)
      · replace h := iteF c3 h
        refine lv_aload_n hx hb dX8_cutsUp_31 rfl (lv_at hl 1 rfl) ?_
        refine lv_iconst (v := 0) hx hb dX8_cutsUp_32 ic_0 ?_
        refine lv_aload_n hx hb dX8_cutsUp_33 rfl (lv_at hl 1 rfl) ?_
        refine gX8_104 C hd dX8_cutsUp_34 ?_
        refine lv_iconst (v := 0) hx hb dX8_cutsUp_37 ic_0 ?_
        refine lv_lconst (v := 0) hx hb dX8_cutsUp_38 (by decide) ?_
        obtain ⟨t17, et17, h⟩ := cal_e h
        refine rCallV C hd (c_X8_token hE et17) kX8_120 0 rfl rfl rfl rfl hl.1 rfl (Nat.le_of_ble_eq_true rfl) ⟨(Nat.le_of_ble_eq_true rfl), (Nat.le_of_ble_eq_true rfl)⟩ ⟨Nat.le_refl _, Nat.le_refl _⟩ dX8_cutsUp_39 (fun H locs hd => ?_)
        exact rVretS (w := wM g) C hr hd h dX8_cutsUp_42
noncomputable def f_X8_cutsUp (F : Nat) (σ : St) : Option St :=
  bnd (ss σ 3 0) (fun t1 => f_X8_cutsUp_7 F F t1 0)
set_option maxRecDepth 100000 in
set_option maxHeartbeats 4000000 in
theorem c_X8_cutsUp {l : Launch} {g : Gp} {X : va_W} (hE : E0 g) {F : Nat} {σ' : St} {σ : St} (h : f_X8_cutsUp F σ = some σ') : Cv l g yX8_cutsUp cX8_cutsUp 8 2 [.ref (ga g 40)] (wM g σ ++ X) (wM g σ' ++ X) := by
  refine rHead hE (by decide +kernel) (Nat.le_of_ble_eq_true rfl) (fun p e s m below meth c C hr _ hd ls hl => ?_)
  have hx := C.1
  have hb := C.2.1
  have hl : lv_has ls 8 [(0, .ref (ga g 40))] := hl
  generalize ([.ref (ga g 40)] : List Value).toArray = args at C ⊢
  have C : Cx g p s m args meth c cX8_cutsUp 8 RX8 := C
  rw [f_X8_cutsUp] at h
  refine lv_aload_n hx hb dX8_cutsUp_0 rfl (lv_at hl 0 rfl) ?_
  refine lv_iconst (v := 0) hx hb dX8_cutsUp_1 ic_0 ?_
  obtain ⟨t1, et1, h⟩ := bnd_e h
  refine pX8_113 C hd et1 dX8_cutsUp_2 (fun H locs hd => ?_)
  refine lv_iconst (v := 0) hx hb dX8_cutsUp_5 ic_0 ?_
  refine lv_istore_n (lv' := [(1, .int 0), (0, .ref (ga g 40))]) hx hb dX8_cutsUp_6 rfl hl (Nat.le_of_ble_eq_true rfl) rfl (fun ls hl => ?_)
  exact w_X8_cutsUp_7 C hr _ t1 0 h _ _ _ hd (lv_sub hl [1, 0] rfl)
noncomputable def f_X8_pageAt_71 (F : Nat) (k_6 : St → Int32 → Int32 → Int32 → Int32 → Int32 → Option Int32) (σ : St) (x1 : Int32) (x2 : Int32) (x3 : Int32) (x4 : Int32) (x5 : Int32) : Option Int32 :=
  bnd (x5 + 1) (fun v1 => k_6 σ x1 x2 x3 x4 v1)
set_option maxRecDepth 100000 in
set_option maxHeartbeats 4000000 in
theorem w_X8_pageAt_71 {F : Nat} {r' : Int32}  (C : Cx g p s m args meth c cX8_pageAt 7 RX8) (hr : meth.sig.returnType = some .int)
    {k_6 : St → Int32 → Int32 → Int32 → Int32 → Int32 → Option Int32} (hk_6 : (∀ (σ : St) (x1 : Int32) (x2 : Int32) (x3 : Int32) (x4 : Int32) (x5 : Int32), k_6 σ x1 x2 x3 x4 x5 = some r' → ∀ (H : Heap) (locs : List Loc) (ls : Array Slot), Dy g (wM g σ ++ X) s H locs → lv_has ls 7 [(0, .ref (ga g 40)), (1, .int x1), (2, .int x2), (3, .int x3), (4, .int x4), (5, .int x5)] → W p l e (rmD 4) s m args below meth c H locs 0 0 (QI g below args s (wM g σ ++ X) r') (F0 m 6 ls []))) :
    (∀ (σ : St) (x1 : Int32) (x2 : Int32) (x3 : Int32) (x4 : Int32) (x5 : Int32), f_X8_pageAt_71 F k_6 σ x1 x2 x3 x4 x5 = some r' → ∀ (H : Heap) (locs : List Loc) (ls : Array Slot), Dy g (wM g σ ++ X) s H locs → lv_has ls 7 [(0, .ref (ga g 40)), (1, .int x1), (2, .int x2), (3, .int x3), (4, .int x4), (5, .int x5)] → W p l e (rmD 4) s m args below meth c H locs 0 0 (QI g below args s (wM g σ ++ X) r') (F0 m 71 ls [])) := by
  have hx := C.1
  have hb := C.2.1
  have hE := C.2.2.2.2.2.2.2.2
  intro σ x1 x2 x3 x4 x5 h H locs ls hd hl
  rw [f_X8_pageAt_71] at h
  obtain ⟨v1, ev1, h⟩ := bnd_e h
  refine lv_iinc (v := v1) (lv' := [(5, .int v1), (0, .ref (ga g 40)), (1, .int x1), (2, .int x2), (3, .int x3), (4, .int x4)]) hx hb dX8_pageAt_71 hl (k := 5) rfl ((ii_1 _).trans ev1.symm) (Nat.le_of_ble_eq_true rfl) rfl (fun ls hl => ?_)
  refine lv_goto (tgt := 6) hx hb dX8_pageAt_74 (by decide) ?_
  exact hk_6 σ x1 x2 x3 x4 v1 h _ _ _ hd (lv_sub hl [1, 2, 3, 4, 5, 0] rfl)
noncomputable def f_X8_pageAt_69 (F : Nat) (k_6 : St → Int32 → Int32 → Int32 → Int32 → Int32 → Option Int32) (σ : St) (x1 : Int32) (x2 : Int32) (x3 : Int32) (x5 : Int32) (y0 : Int32) : Option Int32 :=
  f_X8_pageAt_71 F k_6 σ x1 x2 x3 y0 x5
set_option maxRecDepth 100000 in
set_option maxHeartbeats 4000000 in
theorem w_X8_pageAt_69 {F : Nat} {r' : Int32}  (C : Cx g p s m args meth c cX8_pageAt 7 RX8) (hr : meth.sig.returnType = some .int)
    {k_6 : St → Int32 → Int32 → Int32 → Int32 → Int32 → Option Int32} (hk_6 : (∀ (σ : St) (x1 : Int32) (x2 : Int32) (x3 : Int32) (x4 : Int32) (x5 : Int32), k_6 σ x1 x2 x3 x4 x5 = some r' → ∀ (H : Heap) (locs : List Loc) (ls : Array Slot), Dy g (wM g σ ++ X) s H locs → lv_has ls 7 [(0, .ref (ga g 40)), (1, .int x1), (2, .int x2), (3, .int x3), (4, .int x4), (5, .int x5)] → W p l e (rmD 4) s m args below meth c H locs 0 0 (QI g below args s (wM g σ ++ X) r') (F0 m 6 ls []))) :
    (∀ (σ : St) (x1 : Int32) (x2 : Int32) (x3 : Int32) (x5 : Int32) (y0 : Int32), f_X8_pageAt_69 F k_6 σ x1 x2 x3 x5 y0 = some r' → ∀ (H : Heap) (locs : List Loc) (ls : Array Slot), Dy g (wM g σ ++ X) s H locs → lv_has ls 7 [(0, .ref (ga g 40)), (1, .int x1), (2, .int x2), (3, .int x3), (5, .int x5)] → W p l e (rmD 4) s m args below meth c H locs 0 0 (QI g below args s (wM g σ ++ X) r') (F0 m 69 ls [.int y0])) := by
  have hx := C.1
  have hb := C.2.1
  have hE := C.2.2.2.2.2.2.2.2
  intro σ x1 x2 x3 x5 y0 h H locs ls hd hl
  rw [f_X8_pageAt_69] at h
  refine lv_istore (lv' := [(4, .int y0), (0, .ref (ga g 40)), (1, .int x1), (2, .int x2), (3, .int x3), (5, .int x5)]) hx hb dX8_pageAt_69 hl (Nat.le_of_ble_eq_true rfl) rfl (fun ls hl => ?_)
  exact w_X8_pageAt_71 C hr hk_6 σ x1 x2 x3 y0 x5 h _ _ _ hd (lv_sub hl [1, 2, 3, 4, 0, 5] rfl)
noncomputable def f_X8_pageAt_6 (F : Nat) : Nat → St → Int32 → Int32 → Int32 → Int32 → Int32 → Option Int32
  | 0, _, _, _, _, _, _ => none
  | n + 1, σ, x1, x2, x3, x4, x5 => if x3 < x5 then (some x4) else (cal (f_X8_changedBy F σ x2 x5) (fun r2 => if r2 = x1 then (cal (f_X8_recordAt F σ x2 x5) (fun r4 => if inb r4 7164 = true then if (σ.2.1 19 r4.toNatClampNeg) = 0 then (if inb (r4 + 2) 7164 = true then f_X8_pageAt_69 F (f_X8_pageAt_6 F n) σ x1 x2 x3 x5 (σ.2.1 19 (r4 + 2).toNatClampNeg) else none) else (if inb (r4 + 2) 7164 = true then f_X8_pageAt_69 F (f_X8_pageAt_6 F n) σ x1 x2 x3 x5 (x4 + (σ.2.1 19 (r4 + 2).toNatClampNeg)) else none) else none)) else (f_X8_pageAt_71 F (f_X8_pageAt_6 F n) σ x1 x2 x3 x4 x5)))
set_option maxRecDepth 100000 in
set_option maxHeartbeats 4000000 in
theorem w_X8_pageAt_6 {F : Nat} {r' : Int32}  (C : Cx g p s m args meth c cX8_pageAt 7 RX8) (hr : meth.sig.returnType = some .int) :
    (∀ (n : Nat) (σ : St) (x1 : Int32) (x2 : Int32) (x3 : Int32) (x4 : Int32) (x5 : Int32), f_X8_pageAt_6 F n σ x1 x2 x3 x4 x5 = some r' → ∀ (H : Heap) (locs : List Loc) (ls : Array Slot), Dy g (wM g σ ++ X) s H locs → lv_has ls 7 [(0, .ref (ga g 40)), (1, .int x1), (2, .int x2), (3, .int x3), (4, .int x4), (5, .int x5)] → W p l e (rmD 4) s m args below meth c H locs 0 0 (QI g below args s (wM g σ ++ X) r') (F0 m 6 ls [])) := by
  have hx := C.1
  have hb := C.2.1
  have hE := C.2.2.2.2.2.2.2.2
  intro n
  induction n with
  | zero =>
    intro σ x1 x2 x3 x4 x5 h
    cases h
  | succ n ih =>
    intro σ x1 x2 x3 x4 x5 h H locs ls hd hl
    rw [f_X8_pageAt_6] at h
    refine lv_iload hx hb dX8_pageAt_6 (lv_at hl 5 rfl) ?_
    refine lv_iload_n hx hb dX8_pageAt_8 rfl (lv_at hl 3 rfl) ?_
    refine lv_icmp_gt (tgt := 77) hx hb dX8_pageAt_9 (by decide) (fun c1 => ?_) (fun c1 => ?_)
    · replace h := iteT c1 h
      refine lv_iload hx hb dX8_pageAt_77 (lv_at hl 4 rfl) ?_
      exact rIretP C hr hd h dX8_pageAt_79
    · replace h := iteF c1 h
      refine lv_aload_n hx hb dX8_pageAt_12 rfl (lv_at hl 0 rfl) ?_
      refine lv_iload_n hx hb dX8_pageAt_13 rfl (lv_at hl 2 rfl) ?_
      refine lv_iload hx hb dX8_pageAt_14 (lv_at hl 5 rfl) ?_
      obtain ⟨r2, er2, h⟩ := cal_e h
      refine rCallI C hd (c_X8_changedBy hE er2) kX8_283 0 rfl rfl rfl rfl hl.1 rfl (Nat.le_of_ble_eq_true rfl) ⟨(Nat.le_of_ble_eq_true rfl), (Nat.le_of_ble_eq_true rfl)⟩ ⟨Nat.le_refl _, Nat.le_refl _⟩ dX8_pageAt_16 (fun H locs hd => ?_)
      refine lv_iload_n hx hb dX8_pageAt_19 rfl (lv_at hl 1 rfl) ?_
      refine lv_icmp_eq (tgt := 26) hx hb dX8_pageAt_20 (by decide) (fun c3 => ?_) (fun c3 => ?_)
      · replace h := iteT c3 h
        refine lv_aload_n hx hb dX8_pageAt_26 rfl (lv_at hl 0 rfl) ?_
        refine lv_iload_n hx hb dX8_pageAt_27 rfl (lv_at hl 2 rfl) ?_
        refine lv_iload hx hb dX8_pageAt_28 (lv_at hl 5 rfl) ?_
        obtain ⟨r4, er4, h⟩ := cal_e h
        refine rCallI C hd (c_X8_recordAt hE er4) kX8_280 0 rfl rfl rfl rfl hl.1 rfl (Nat.le_of_ble_eq_true rfl) ⟨(Nat.le_of_ble_eq_true rfl), (Nat.le_of_ble_eq_true rfl)⟩ ⟨Nat.le_refl _, Nat.le_refl _⟩ dX8_pageAt_30 (fun H locs hd => ?_)
        refine lv_istore (lv' := [(6, .int r4), (0, .ref (ga g 40)), (1, .int x1), (2, .int x2), (3, .int x3), (4, .int x4), (5, .int x5)]) hx hb dX8_pageAt_33 hl (Nat.le_of_ble_eq_true rfl) rfl (fun ls hl => ?_)
        refine lv_aload_n hx hb dX8_pageAt_35 rfl (lv_at hl 1 rfl) ?_
        refine gX8_73 C hd dX8_pageAt_36 ?_
        refine lv_iload hx hb dX8_pageAt_39 (lv_at hl 0 rfl) ?_
        obtain ⟨n5, h⟩ := chk h
        refine ld_wM_19 C hd (inb_i n5) dX8_pageAt_41 ?_
        refine lv_if_ne (tgt := 57) hx hb dX8_pageAt_42 (by decide) (fun c6 => ?_) (fun c6 => ?_)
        · replace h := iteF c6 h
          refine lv_iload hx hb dX8_pageAt_57 (lv_at hl 5 rfl) ?_
          refine lv_aload_n hx hb dX8_pageAt_59 rfl (lv_at hl 1 rfl) ?_
          refine gX8_73 C hd dX8_pageAt_60 ?_
          refine lv_iload hx hb dX8_pageAt_63 (lv_at hl 0 rfl) ?_
          refine lv_iconst (v := 2) hx hb dX8_pageAt_65 ic_2 ?_
          refine lv_iadd hx hb dX8_pageAt_66 ?_
          obtain ⟨n7, h⟩ := chk h
          refine ld_wM_19 C hd (inb_i n7) dX8_pageAt_67 ?_
          refine lv_iadd hx hb dX8_pageAt_68 ?_
          exact w_X8_pageAt_69 C hr ih σ x1 x2 x3 x5 (x4 + (σ.2.1 19 (r4 + 2).toNatClampNeg)) h _ _ _ hd (lv_sub hl [1, 2, 3, 4, 6] rfl)
        · replace h := iteT c6 h
          refine lv_aload_n hx hb dX8_pageAt_45 rfl (lv_at hl 1 rfl) ?_
          refine gX8_73 C hd dX8_pageAt_46 ?_
          refine lv_iload hx hb dX8_pageAt_49 (lv_at hl 0 rfl) ?_
          refine lv_iconst (v := 2) hx hb dX8_pageAt_51 ic_2 ?_
          refine lv_iadd hx hb dX8_pageAt_52 ?_
          obtain ⟨n8, h⟩ := chk h
          refine ld_wM_19 C hd (inb_i n8) dX8_pageAt_53 ?_
          refine lv_goto (tgt := 69) hx hb dX8_pageAt_54 (by decide) ?_
          exact w_X8_pageAt_69 C hr ih σ x1 x2 x3 x5 (σ.2.1 19 (r4 + 2).toNatClampNeg) h _ _ _ hd (lv_sub hl [1, 2, 3, 4, 6] rfl)
      · replace h := iteF c3 h
        refine lv_goto (tgt := 71) hx hb dX8_pageAt_23 (by decide) ?_
        exact w_X8_pageAt_71 C hr ih σ x1 x2 x3 x4 x5 h _ _ _ hd (lv_sub hl [0, 1, 2, 3, 4, 5] rfl)
noncomputable def f_X8_pageAt (F : Nat) (σ : St) (x1 : Int32) (x2 : Int32) (x3 : Int32) : Option Int32 :=
  f_X8_pageAt_6 F F σ x1 x2 x3 0 1
set_option maxRecDepth 100000 in
set_option maxHeartbeats 4000000 in
theorem c_X8_pageAt {l : Launch} {g : Gp} {X : va_W} (hE : E0 g) {F : Nat} {r' : Int32} {σ : St} {x1 : Int32} {x2 : Int32} {x3 : Int32} (h : f_X8_pageAt F σ x1 x2 x3 = some r') : Ci l g yX8_pageAt cX8_pageAt 7 (some .int) 4 [.ref (ga g 40), .int x1, .int x2, .int x3] (wM g σ ++ X) r' (wM g σ ++ X) := by
  refine rHead hE (by decide +kernel) (Nat.le_of_ble_eq_true rfl) (fun p e s m below meth c C hr _ hd ls hl => ?_)
  have hx := C.1
  have hb := C.2.1
  have hl : lv_has ls 7 [(0, .ref (ga g 40)), (1, .int x1), (2, .int x2), (3, .int x3)] := hl
  generalize ([.ref (ga g 40), .int x1, .int x2, .int x3] : List Value).toArray = args at C ⊢
  have C : Cx g p s m args meth c cX8_pageAt 7 RX8 := C
  rw [f_X8_pageAt] at h
  refine lv_iconst (v := 0) hx hb dX8_pageAt_0 ic_0 ?_
  refine lv_istore (lv' := [(4, .int 0), (0, .ref (ga g 40)), (1, .int x1), (2, .int x2), (3, .int x3)]) hx hb dX8_pageAt_1 hl (Nat.le_of_ble_eq_true rfl) rfl (fun ls hl => ?_)
  refine lv_iconst (v := 1) hx hb dX8_pageAt_3 ic_1 ?_
  refine lv_istore (lv' := [(5, .int 1), (4, .int 0), (0, .ref (ga g 40)), (1, .int x1), (2, .int x2), (3, .int x3)]) hx hb dX8_pageAt_4 hl (Nat.le_of_ble_eq_true rfl) rfl (fun ls hl => ?_)
  exact w_X8_pageAt_6 C hr _ σ x1 x2 x3 0 1 h _ _ _ hd (lv_sub hl [2, 3, 4, 5, 1, 0] rfl)
noncomputable def f_X8_differ_67 (F : Nat) (k_27 : St → Int32 → Int32 → Int32 → Int32 → Int32 → Int32 → Option Int32) (σ : St) (x1 : Int32) (x2 : Int32) (x3 : Int32) (x4 : Int32) (x5 : Int32) (x6 : Int32) : Option Int32 :=
  bnd (x6 + 1) (fun v1 => k_27 σ x1 x2 x3 x4 x5 v1)
set_option maxRecDepth 100000 in
set_option maxHeartbeats 4000000 in
theorem w_X8_differ_67 {F : Nat} {r' : Int32}  (C : Cx g p s m args meth c cX8_differ 7 RX8) (hr : meth.sig.returnType = some .int)
    {k_27 : St → Int32 → Int32 → Int32 → Int32 → Int32 → Int32 → Option Int32} (hk_27 : (∀ (σ : St) (x1 : Int32) (x2 : Int32) (x3 : Int32) (x4 : Int32) (x5 : Int32) (x6 : Int32), k_27 σ x1 x2 x3 x4 x5 x6 = some r' → ∀ (H : Heap) (locs : List Loc) (ls : Array Slot), Dy g (wM g σ ++ X) s H locs → lv_has ls 7 [(0, .ref (ga g 40)), (1, .int x1), (2, .int x2), (3, .int x3), (4, .int x4), (5, .int x5), (6, .int x6)] → W p l e (rmD 5) s m args below meth c H locs 0 0 (QI g below args s (wM g σ ++ X) r') (F0 m 27 ls []))) :
    (∀ (σ : St) (x1 : Int32) (x2 : Int32) (x3 : Int32) (x4 : Int32) (x5 : Int32) (x6 : Int32), f_X8_differ_67 F k_27 σ x1 x2 x3 x4 x5 x6 = some r' → ∀ (H : Heap) (locs : List Loc) (ls : Array Slot), Dy g (wM g σ ++ X) s H locs → lv_has ls 7 [(0, .ref (ga g 40)), (1, .int x1), (2, .int x2), (3, .int x3), (4, .int x4), (5, .int x5), (6, .int x6)] → W p l e (rmD 5) s m args below meth c H locs 0 0 (QI g below args s (wM g σ ++ X) r') (F0 m 67 ls [])) := by
  have hx := C.1
  have hb := C.2.1
  have hE := C.2.2.2.2.2.2.2.2
  intro σ x1 x2 x3 x4 x5 x6 h H locs ls hd hl
  rw [f_X8_differ_67] at h
  obtain ⟨v1, ev1, h⟩ := bnd_e h
  refine lv_iinc (v := v1) (lv' := [(6, .int v1), (0, .ref (ga g 40)), (1, .int x1), (2, .int x2), (3, .int x3), (4, .int x4), (5, .int x5)]) hx hb dX8_differ_67 hl (k := 6) rfl ((ii_1 _).trans ev1.symm) (Nat.le_of_ble_eq_true rfl) rfl (fun ls hl => ?_)
  refine lv_goto (tgt := 27) hx hb dX8_differ_70 (by decide) ?_
  exact hk_27 σ x1 x2 x3 x4 x5 v1 h _ _ _ hd (lv_sub hl [1, 2, 3, 4, 5, 6, 0] rfl)
noncomputable def f_X8_differ_27 (F : Nat) : Nat → St → Int32 → Int32 → Int32 → Int32 → Int32 → Int32 → Option Int32
  | 0, _, _, _, _, _, _, _ => none
  | n + 1, σ, x1, x2, x3, x4, x5, x6 => if (σ.2.1 19 0) ≤ x6 then (some x5) else (cal (f_X8_pageAt F σ x6 x1 x2) (fun r2 => cal (f_X8_pageAt F σ x6 x3 x4) (fun r3 => if r2 = r3 then (f_X8_differ_67 F (f_X8_differ_27 F n) σ x1 x2 x3 x4 x5 x6) else (bnd (x5 ||| (1 <<< (x6 &&& 31))) (fun v5 => f_X8_differ_67 F (f_X8_differ_27 F n) σ x1 x2 x3 x4 v5 x6)))))
set_option maxRecDepth 100000 in
set_option maxHeartbeats 4000000 in
theorem w_X8_differ_27 {F : Nat} {r' : Int32}  (C : Cx g p s m args meth c cX8_differ 7 RX8) (hr : meth.sig.returnType = some .int) :
    (∀ (n : Nat) (σ : St) (x1 : Int32) (x2 : Int32) (x3 : Int32) (x4 : Int32) (x5 : Int32) (x6 : Int32), f_X8_differ_27 F n σ x1 x2 x3 x4 x5 x6 = some r' → ∀ (H : Heap) (locs : List Loc) (ls : Array Slot), Dy g (wM g σ ++ X) s H locs → lv_has ls 7 [(0, .ref (ga g 40)), (1, .int x1), (2, .int x2), (3, .int x3), (4, .int x4), (5, .int x5), (6, .int x6)] → W p l e (rmD 5) s m args below meth c H locs 0 0 (QI g below args s (wM g σ ++ X) r') (F0 m 27 ls [])) := by
  have hx := C.1
  have hb := C.2.1
  have hE := C.2.2.2.2.2.2.2.2
  intro n
  induction n with
  | zero =>
    intro σ x1 x2 x3 x4 x5 x6 h
    cases h
  | succ n ih =>
    intro σ x1 x2 x3 x4 x5 x6 h H locs ls hd hl
    rw [f_X8_differ_27] at h
    refine lv_iload hx hb dX8_differ_27 (lv_at hl 6 rfl) ?_
    refine lv_aload_n hx hb dX8_differ_29 rfl (lv_at hl 0 rfl) ?_
    refine gX8_73 C hd dX8_differ_30 ?_
    refine lv_iconst (v := 0) hx hb dX8_differ_33 ic_0 ?_
    refine ldc_wM_19 C hd cl_0 (inb_i (by decide +kernel)) dX8_differ_34 ?_
    refine lv_icmp_ge (tgt := 73) hx hb dX8_differ_35 (by decide) (fun c1 => ?_) (fun c1 => ?_)
    · replace h := iteT c1 h
      refine lv_iload hx hb dX8_differ_73 (lv_at hl 5 rfl) ?_
      exact rIretP C hr hd h dX8_differ_75
    · replace h := iteF c1 h
      refine lv_aload_n hx hb dX8_differ_38 rfl (lv_at hl 0 rfl) ?_
      refine lv_iload hx hb dX8_differ_39 (lv_at hl 6 rfl) ?_
      refine lv_iload_n hx hb dX8_differ_41 rfl (lv_at hl 1 rfl) ?_
      refine lv_iload_n hx hb dX8_differ_42 rfl (lv_at hl 2 rfl) ?_
      obtain ⟨r2, er2, h⟩ := cal_e h
      refine rCallI C hd (c_X8_pageAt hE er2) kX8_343 0 rfl rfl rfl rfl hl.1 rfl (Nat.le_of_ble_eq_true rfl) ⟨(Nat.le_of_ble_eq_true rfl), (Nat.le_of_ble_eq_true rfl)⟩ ⟨Nat.le_refl _, Nat.le_refl _⟩ dX8_differ_43 (fun H locs hd => ?_)
      refine lv_aload_n hx hb dX8_differ_46 rfl (lv_at hl 0 rfl) ?_
      refine lv_iload hx hb dX8_differ_47 (lv_at hl 6 rfl) ?_
      refine lv_iload_n hx hb dX8_differ_49 rfl (lv_at hl 3 rfl) ?_
      refine lv_iload hx hb dX8_differ_50 (lv_at hl 4 rfl) ?_
      obtain ⟨r3, er3, h⟩ := cal_e h
      refine rCallI C hd (c_X8_pageAt hE er3) kX8_343 0 rfl rfl rfl rfl hl.1 rfl (Nat.le_of_ble_eq_true rfl) ⟨(Nat.le_of_ble_eq_true rfl), (Nat.le_of_ble_eq_true rfl)⟩ ⟨Nat.le_refl _, Nat.le_refl _⟩ dX8_differ_52 (fun H locs hd => ?_)
      refine lv_icmp_eq (tgt := 67) hx hb dX8_differ_55 (by decide) (fun c4 => ?_) (fun c4 => ?_)
      · replace h := iteT c4 h
        exact w_X8_differ_67 C hr ih σ x1 x2 x3 x4 x5 x6 h _ _ _ hd (lv_sub hl [0, 1, 2, 3, 4, 5, 6] rfl)
      · replace h := iteF c4 h
        refine lv_iload hx hb dX8_differ_58 (lv_at hl 5 rfl) ?_
        refine lv_iconst (v := 1) hx hb dX8_differ_60 ic_1 ?_
        refine lv_iload hx hb dX8_differ_61 (lv_at hl 6 rfl) ?_
        refine lv_ishl hx hb dX8_differ_63 ?_
        refine lv_ior hx hb dX8_differ_64 ?_
        obtain ⟨v5, ev5, h⟩ := bnd_e h
        refine rTop ev5 ?_
        refine lv_istore (lv' := [(5, .int v5), (0, .ref (ga g 40)), (1, .int x1), (2, .int x2), (3, .int x3), (4, .int x4), (6, .int x6)]) hx hb dX8_differ_65 hl (Nat.le_of_ble_eq_true rfl) rfl (fun ls hl => ?_)
        exact w_X8_differ_67 C hr ih σ x1 x2 x3 x4 v5 x6 h _ _ _ hd (lv_sub hl [1, 2, 3, 4, 5, 0, 6] rfl)
noncomputable def f_X8_differ (F : Nat) (σ : St) (x1 : Int32) (x2 : Int32) (x3 : Int32) (x4 : Int32) : Option Int32 :=
  cal (f_X8_isAt F σ x1 x2) (fun r1 => if r1 = 0 then (some (-1 : Int32)) else (cal (f_X8_isAt F σ x3 x4) (fun r3 => if r3 = 0 then (some (-1 : Int32)) else (f_X8_differ_27 F F σ x1 x2 x3 x4 0 0))))
set_option maxRecDepth 100000 in
set_option maxHeartbeats 4000000 in
theorem c_X8_differ {l : Launch} {g : Gp} {X : va_W} (hE : E0 g) {F : Nat} {r' : Int32} {σ : St} {x1 : Int32} {x2 : Int32} {x3 : Int32} {x4 : Int32} (h : f_X8_differ F σ x1 x2 x3 x4 = some r') : Ci l g yX8_differ cX8_differ 7 (some .int) 5 [.ref (ga g 40), .int x1, .int x2, .int x3, .int x4] (wM g σ ++ X) r' (wM g σ ++ X) := by
  refine rHead hE (by decide +kernel) (Nat.le_of_ble_eq_true rfl) (fun p e s m below meth c C hr _ hd ls hl => ?_)
  have hx := C.1
  have hb := C.2.1
  have hl : lv_has ls 7 [(0, .ref (ga g 40)), (1, .int x1), (2, .int x2), (3, .int x3), (4, .int x4)] := hl
  generalize ([.ref (ga g 40), .int x1, .int x2, .int x3, .int x4] : List Value).toArray = args at C ⊢
  have C : Cx g p s m args meth c cX8_differ 7 RX8 := C
  rw [f_X8_differ] at h
  refine lv_aload_n hx hb dX8_differ_0 rfl (lv_at hl 0 rfl) ?_
  refine lv_iload_n hx hb dX8_differ_1 rfl (lv_at hl 1 rfl) ?_
  refine lv_iload_n hx hb dX8_differ_2 rfl (lv_at hl 2 rfl) ?_
  obtain ⟨r1, er1, h⟩ := cal_e h
  refine rCallI C hd (c_X8_isAt hE er1) kX8_304 0 rfl rfl rfl rfl hl.1 rfl (Nat.le_of_ble_eq_true rfl) ⟨(Nat.le_of_ble_eq_true rfl), (Nat.le_of_ble_eq_true rfl)⟩ ⟨Nat.le_refl _, Nat.le_refl _⟩ dX8_differ_3 (fun H locs hd => ?_)
  refine lv_if_eq (tgt := 19) hx hb dX8_differ_6 (by decide) (fun c2 => ?_) (fun c2 => ?_)
  · replace h := iteT c2 h
    refine lv_iconst (v := (-1 : Int32)) hx hb dX8_differ_19 ic_m1 ?_
    exact rIretP C hr hd h dX8_differ_20
  · replace h := iteF c2 h
    refine lv_aload_n hx hb dX8_differ_9 rfl (lv_at hl 0 rfl) ?_
    refine lv_iload_n hx hb dX8_differ_10 rfl (lv_at hl 3 rfl) ?_
    refine lv_iload hx hb dX8_differ_11 (lv_at hl 4 rfl) ?_
    obtain ⟨r3, er3, h⟩ := cal_e h
    refine rCallI C hd (c_X8_isAt hE er3) kX8_304 0 rfl rfl rfl rfl hl.1 rfl (Nat.le_of_ble_eq_true rfl) ⟨(Nat.le_of_ble_eq_true rfl), (Nat.le_of_ble_eq_true rfl)⟩ ⟨Nat.le_refl _, Nat.le_refl _⟩ dX8_differ_13 (fun H locs hd => ?_)
    refine lv_if_ne (tgt := 21) hx hb dX8_differ_16 (by decide) (fun c4 => ?_) (fun c4 => ?_)
    · replace h := iteF c4 h
      refine lv_iconst (v := 0) hx hb dX8_differ_21 ic_0 ?_
      refine lv_istore (lv' := [(5, .int 0), (0, .ref (ga g 40)), (1, .int x1), (2, .int x2), (3, .int x3), (4, .int x4)]) hx hb dX8_differ_22 hl (Nat.le_of_ble_eq_true rfl) rfl (fun ls hl => ?_)
      refine lv_iconst (v := 0) hx hb dX8_differ_24 ic_0 ?_
      refine lv_istore (lv' := [(6, .int 0), (5, .int 0), (0, .ref (ga g 40)), (1, .int x1), (2, .int x2), (3, .int x3), (4, .int x4)]) hx hb dX8_differ_25 hl (Nat.le_of_ble_eq_true rfl) rfl (fun ls hl => ?_)
      exact w_X8_differ_27 C hr _ σ x1 x2 x3 x4 0 0 h _ _ _ hd (lv_sub hl [2, 3, 4, 5, 6, 1, 0] rfl)
    · replace h := iteT c4 h
      refine lv_iconst (v := (-1 : Int32)) hx hb dX8_differ_19 ic_m1 ?_
      exact rIretP C hr hd h dX8_differ_20
noncomputable def f_X8_dirty_104 (F : Nat) (k_22 : St → Int32 → Int32 → Int32 → Int32 → Option Int32) (σ : St) (x1 : Int32) (x2 : Int32) (x3 : Int32) (x4 : Int32) : Option Int32 :=
  bnd (x4 + 1) (fun v1 => k_22 σ x1 x2 x3 v1)
set_option maxRecDepth 100000 in
set_option maxHeartbeats 4000000 in
theorem w_X8_dirty_104 {F : Nat} {r' : Int32}  (C : Cx g p s m args meth c cX8_dirty 6 RX8) (hr : meth.sig.returnType = some .int)
    {k_22 : St → Int32 → Int32 → Int32 → Int32 → Option Int32} (hk_22 : (∀ (σ : St) (x1 : Int32) (x2 : Int32) (x3 : Int32) (x4 : Int32), k_22 σ x1 x2 x3 x4 = some r' → ∀ (H : Heap) (locs : List Loc) (ls : Array Slot), Dy g (wM g σ ++ X) s H locs → lv_has ls 6 [(0, .ref (ga g 40)), (1, .int x1), (2, .int x2), (3, .int x3), (4, .int x4)] → W p l e (rmD 5) s m args below meth c H locs 0 0 (QI g below args s (wM g σ ++ X) r') (F0 m 22 ls []))) :
    (∀ (σ : St) (x1 : Int32) (x2 : Int32) (x3 : Int32) (x4 : Int32), f_X8_dirty_104 F k_22 σ x1 x2 x3 x4 = some r' → ∀ (H : Heap) (locs : List Loc) (ls : Array Slot), Dy g (wM g σ ++ X) s H locs → lv_has ls 6 [(0, .ref (ga g 40)), (1, .int x1), (2, .int x2), (3, .int x3), (4, .int x4)] → W p l e (rmD 5) s m args below meth c H locs 0 0 (QI g below args s (wM g σ ++ X) r') (F0 m 104 ls [])) := by
  have hx := C.1
  have hb := C.2.1
  have hE := C.2.2.2.2.2.2.2.2
  intro σ x1 x2 x3 x4 h H locs ls hd hl
  rw [f_X8_dirty_104] at h
  obtain ⟨v1, ev1, h⟩ := bnd_e h
  refine lv_iinc (v := v1) (lv' := [(4, .int v1), (0, .ref (ga g 40)), (1, .int x1), (2, .int x2), (3, .int x3)]) hx hb dX8_dirty_104 hl (k := 4) rfl ((ii_1 _).trans ev1.symm) (Nat.le_of_ble_eq_true rfl) rfl (fun ls hl => ?_)
  refine lv_goto (tgt := 22) hx hb dX8_dirty_107 (by decide) ?_
  exact hk_22 σ x1 x2 x3 v1 h _ _ _ hd (lv_sub hl [1, 2, 3, 4, 0] rfl)
noncomputable def f_X8_dirty_97 (F : Nat) (k_22 : St → Int32 → Int32 → Int32 → Int32 → Option Int32) (σ : St) (x1 : Int32) (x2 : Int32) (x3 : Int32) (x4 : Int32) : Option Int32 :=
  bnd (x2 ||| (1 <<< (x4 &&& 31))) (fun v1 => f_X8_dirty_104 F k_22 σ x1 v1 x3 x4)
set_option maxRecDepth 100000 in
set_option maxHeartbeats 4000000 in
theorem w_X8_dirty_97 {F : Nat} {r' : Int32}  (C : Cx g p s m args meth c cX8_dirty 6 RX8) (hr : meth.sig.returnType = some .int)
    {k_22 : St → Int32 → Int32 → Int32 → Int32 → Option Int32} (hk_22 : (∀ (σ : St) (x1 : Int32) (x2 : Int32) (x3 : Int32) (x4 : Int32), k_22 σ x1 x2 x3 x4 = some r' → ∀ (H : Heap) (locs : List Loc) (ls : Array Slot), Dy g (wM g σ ++ X) s H locs → lv_has ls 6 [(0, .ref (ga g 40)), (1, .int x1), (2, .int x2), (3, .int x3), (4, .int x4)] → W p l e (rmD 5) s m args below meth c H locs 0 0 (QI g below args s (wM g σ ++ X) r') (F0 m 22 ls []))) :
    (∀ (σ : St) (x1 : Int32) (x2 : Int32) (x3 : Int32) (x4 : Int32), f_X8_dirty_97 F k_22 σ x1 x2 x3 x4 = some r' → ∀ (H : Heap) (locs : List Loc) (ls : Array Slot), Dy g (wM g σ ++ X) s H locs → lv_has ls 6 [(0, .ref (ga g 40)), (1, .int x1), (2, .int x2), (3, .int x3), (4, .int x4)] → W p l e (rmD 5) s m args below meth c H locs 0 0 (QI g below args s (wM g σ ++ X) r') (F0 m 97 ls [])) := by
  have hx := C.1
  have hb := C.2.1
  have hE := C.2.2.2.2.2.2.2.2
  intro σ x1 x2 x3 x4 h H locs ls hd hl
  rw [f_X8_dirty_97] at h
  refine lv_iload_n hx hb dX8_dirty_97 rfl (lv_at hl 2 rfl) ?_
  refine lv_iconst (v := 1) hx hb dX8_dirty_98 ic_1 ?_
  refine lv_iload hx hb dX8_dirty_99 (lv_at hl 4 rfl) ?_
  refine lv_ishl hx hb dX8_dirty_101 ?_
  refine lv_ior hx hb dX8_dirty_102 ?_
  obtain ⟨v1, ev1, h⟩ := bnd_e h
  refine rTop ev1 ?_
  refine lv_istore_n (lv' := [(2, .int v1), (0, .ref (ga g 40)), (1, .int x1), (3, .int x3), (4, .int x4)]) hx hb dX8_dirty_103 rfl hl (Nat.le_of_ble_eq_true rfl) rfl (fun ls hl => ?_)
  exact w_X8_dirty_104 C hr hk_22 σ x1 v1 x3 x4 h _ _ _ hd (lv_sub hl [1, 2, 0, 3, 4] rfl)
noncomputable def f_X8_dirty_22 (F : Nat) : Nat → St → Int32 → Int32 → Int32 → Int32 → Option Int32
  | 0, _, _, _, _, _ => none
  | n + 1, σ, x1, x2, x3, x4 => if (σ.2.1 19 0) ≤ x4 then (some x2) else (cal (f_X8_takenAt F σ x1 x4) (fun r2 => if r2 < 0 then (f_X8_dirty_97 F (f_X8_dirty_22 F n) σ x1 x2 x3 x4) else (if inb (r2 + 1) 7164 = true then if inb (r2 + 2) 7164 = true then cal (f_X8_isBranch F σ x3 (σ.2.1 19 (r2 + 1).toNatClampNeg) (σ.2.1 19 (r2 + 2).toNatClampNeg)) (fun r6 => if r6 = 0 then (cal (f_X8_placeOf F σ x3) (fun r8 => cal (f_X8_changeAhead F σ x4 x3 r8) (fun r9 => if inb (r2 + 2) 7164 = true then if r9 ≤ (σ.2.1 19 (r2 + 2).toNatClampNeg) then (f_X8_dirty_104 F (f_X8_dirty_22 F n) σ x1 x2 x3 x4) else (f_X8_dirty_97 F (f_X8_dirty_22 F n) σ x1 x2 x3 x4) else none))) else (f_X8_dirty_97 F (f_X8_dirty_22 F n) σ x1 x2 x3 x4)) else none else none)))
set_option maxRecDepth 100000 in
set_option maxHeartbeats 4000000 in
theorem w_X8_dirty_22 {F : Nat} {r' : Int32}  (C : Cx g p s m args meth c cX8_dirty 6 RX8) (hr : meth.sig.returnType = some .int) :
    (∀ (n : Nat) (σ : St) (x1 : Int32) (x2 : Int32) (x3 : Int32) (x4 : Int32), f_X8_dirty_22 F n σ x1 x2 x3 x4 = some r' → ∀ (H : Heap) (locs : List Loc) (ls : Array Slot), Dy g (wM g σ ++ X) s H locs → lv_has ls 6 [(0, .ref (ga g 40)), (1, .int x1), (2, .int x2), (3, .int x3), (4, .int x4)] → W p l e (rmD 5) s m args below meth c H locs 0 0 (QI g below args s (wM g σ ++ X) r') (F0 m 22 ls [])) := by
  have hx := C.1
  have hb := C.2.1
  have hE := C.2.2.2.2.2.2.2.2
  intro n
  induction n with
  | zero =>
    intro σ x1 x2 x3 x4 h
    cases h
  | succ n ih =>
    intro σ x1 x2 x3 x4 h H locs ls hd hl
    rw [f_X8_dirty_22] at h
    refine lv_iload hx hb dX8_dirty_22 (lv_at hl 4 rfl) ?_
    refine lv_aload_n hx hb dX8_dirty_24 rfl (lv_at hl 0 rfl) ?_
    refine gX8_73 C hd dX8_dirty_25 ?_
    refine lv_iconst (v := 0) hx hb dX8_dirty_28 ic_0 ?_
    refine ldc_wM_19 C hd cl_0 (inb_i (by decide +kernel)) dX8_dirty_29 ?_
    refine lv_icmp_ge (tgt := 110) hx hb dX8_dirty_30 (by decide) (fun c1 => ?_) (fun c1 => ?_)
    · replace h := iteT c1 h
      refine lv_iload_n hx hb dX8_dirty_110 rfl (lv_at hl 2 rfl) ?_
      exact rIretP C hr hd h dX8_dirty_111
    · replace h := iteF c1 h
      refine lv_aload_n hx hb dX8_dirty_33 rfl (lv_at hl 0 rfl) ?_
      refine lv_iload_n hx hb dX8_dirty_34 rfl (lv_at hl 1 rfl) ?_
      refine lv_iload hx hb dX8_dirty_35 (lv_at hl 4 rfl) ?_
      obtain ⟨r2, er2, h⟩ := cal_e h
      refine rCallI C hd (c_X8_takenAt hE er2) kX8_289 0 rfl rfl rfl rfl hl.1 rfl (Nat.le_of_ble_eq_true rfl) ⟨(Nat.le_of_ble_eq_true rfl), (Nat.le_of_ble_eq_true rfl)⟩ ⟨Nat.le_refl _, Nat.le_refl _⟩ dX8_dirty_37 (fun H locs hd => ?_)
      refine lv_istore (lv' := [(5, .int r2), (0, .ref (ga g 40)), (1, .int x1), (2, .int x2), (3, .int x3), (4, .int x4)]) hx hb dX8_dirty_40 hl (Nat.le_of_ble_eq_true rfl) rfl (fun ls hl => ?_)
      refine lv_iload hx hb dX8_dirty_42 (lv_at hl 0 rfl) ?_
      refine lv_if_lt (tgt := 97) hx hb dX8_dirty_44 (by decide) (fun c3 => ?_) (fun c3 => ?_)
      · replace h := iteT c3 h
        exact w_X8_dirty_97 C hr ih σ x1 x2 x3 x4 h _ _ _ hd (lv_sub hl [1, 2, 3, 4, 5] rfl)
      · replace h := iteF c3 h
        refine lv_aload_n hx hb dX8_dirty_47 rfl (lv_at hl 1 rfl) ?_
        refine lv_iload_n hx hb dX8_dirty_48 rfl (lv_at hl 4 rfl) ?_
        refine lv_aload_n hx hb dX8_dirty_49 rfl (lv_at hl 1 rfl) ?_
        refine gX8_73 C hd dX8_dirty_50 ?_
        refine lv_iload hx hb dX8_dirty_53 (lv_at hl 0 rfl) ?_
        refine lv_iconst (v := 1) hx hb dX8_dirty_55 ic_1 ?_
        refine lv_iadd hx hb dX8_dirty_56 ?_
        obtain ⟨n4, h⟩ := chk h
        refine ld_wM_19 C hd (inb_i n4) dX8_dirty_57 ?_
        refine lv_aload_n hx hb dX8_dirty_58 rfl (lv_at hl 1 rfl) ?_
        refine gX8_73 C hd dX8_dirty_59 ?_
        refine lv_iload hx hb dX8_dirty_62 (lv_at hl 0 rfl) ?_
        refine lv_iconst (v := 2) hx hb dX8_dirty_64 ic_2 ?_
        refine lv_iadd hx hb dX8_dirty_65 ?_
        obtain ⟨n5, h⟩ := chk h
        refine ld_wM_19 C hd (inb_i n5) dX8_dirty_66 ?_
        obtain ⟨r6, er6, h⟩ := cal_e h
        refine rCallI C hd (c_X8_isBranch hE er6) kX8_298 0 rfl rfl rfl rfl hl.1 rfl (Nat.le_of_ble_eq_true rfl) ⟨(Nat.le_of_ble_eq_true rfl), (Nat.le_of_ble_eq_true rfl)⟩ ⟨Nat.le_refl _, Nat.le_refl _⟩ dX8_dirty_67 (fun H locs hd => ?_)
        refine lv_if_ne (tgt := 97) hx hb dX8_dirty_70 (by decide) (fun c7 => ?_) (fun c7 => ?_)
        · replace h := iteF c7 h
          exact w_X8_dirty_97 C hr ih σ x1 x2 x3 x4 h _ _ _ hd (lv_sub hl [1, 2, 3, 4, 5] rfl)
        · replace h := iteT c7 h
          refine lv_aload_n hx hb dX8_dirty_73 rfl (lv_at hl 1 rfl) ?_
          refine lv_iload hx hb dX8_dirty_74 (lv_at hl 5 rfl) ?_
          refine lv_iload_n hx hb dX8_dirty_76 rfl (lv_at hl 4 rfl) ?_
          refine lv_aload_n hx hb dX8_dirty_77 rfl (lv_at hl 1 rfl) ?_
          refine lv_iload_n hx hb dX8_dirty_78 rfl (lv_at hl 4 rfl) ?_
          obtain ⟨r8, er8, h⟩ := cal_e h
          refine rCallI C hd (c_X8_placeOf hE er8) kX8_217 0 rfl rfl rfl rfl hl.1 rfl (Nat.le_of_ble_eq_true rfl) ⟨(Nat.le_of_ble_eq_true rfl), (Nat.le_of_ble_eq_true rfl)⟩ ⟨Nat.le_refl _, Nat.le_refl _⟩ dX8_dirty_79 (fun H locs hd => ?_)
          obtain ⟨r9, er9, h⟩ := cal_e h
          refine rCallI C hd (c_X8_changeAhead hE er9) kX8_362 0 rfl rfl rfl rfl hl.1 rfl (Nat.le_of_ble_eq_true rfl) ⟨(Nat.le_of_ble_eq_true rfl), (Nat.le_of_ble_eq_true rfl)⟩ ⟨Nat.le_refl _, Nat.le_refl _⟩ dX8_dirty_82 (fun H locs hd => ?_)
          refine lv_aload_n hx hb dX8_dirty_85 rfl (lv_at hl 1 rfl) ?_
          refine gX8_73 C hd dX8_dirty_86 ?_
          refine lv_iload hx hb dX8_dirty_89 (lv_at hl 0 rfl) ?_
          refine lv_iconst (v := 2) hx hb dX8_dirty_91 ic_2 ?_
          refine lv_iadd hx hb dX8_dirty_92 ?_
          obtain ⟨n10, h⟩ := chk h
          refine ld_wM_19 C hd (inb_i n10) dX8_dirty_93 ?_
          refine lv_icmp_le (tgt := 104) hx hb dX8_dirty_94 (by decide) (fun c11 => ?_) (fun c11 => ?_)
          · replace h := iteT c11 h
            exact w_X8_dirty_104 C hr ih σ x1 x2 x3 x4 h _ _ _ hd (lv_sub hl [1, 2, 3, 4, 5] rfl)
          · replace h := iteF c11 h
            exact w_X8_dirty_97 C hr ih σ x1 x2 x3 x4 h _ _ _ hd (lv_sub hl [1, 2, 3, 4, 5] rfl)
noncomputable def f_X8_dirty (F : Nat) (σ : St) (x1 : Int32) : Option Int32 :=
  cal (f_X8_isCopy F σ x1) (fun r1 => if r1 = 0 then (some (-1 : Int32)) else (bnd (σ.2.1 19 3) (fun v3 => f_X8_dirty_22 F F σ x1 0 v3 0)))
set_option maxRecDepth 100000 in
set_option maxHeartbeats 4000000 in
theorem c_X8_dirty {l : Launch} {g : Gp} {X : va_W} (hE : E0 g) {F : Nat} {r' : Int32} {σ : St} {x1 : Int32} (h : f_X8_dirty F σ x1 = some r') : Ci l g yX8_dirty cX8_dirty 6 (some .int) 5 [.ref (ga g 40), .int x1] (wM g σ ++ X) r' (wM g σ ++ X) := by
  refine rHead hE (by decide +kernel) (Nat.le_of_ble_eq_true rfl) (fun p e s m below meth c C hr _ hd ls hl => ?_)
  have hx := C.1
  have hb := C.2.1
  have hl : lv_has ls 6 [(0, .ref (ga g 40)), (1, .int x1)] := hl
  generalize ([.ref (ga g 40), .int x1] : List Value).toArray = args at C ⊢
  have C : Cx g p s m args meth c cX8_dirty 6 RX8 := C
  rw [f_X8_dirty] at h
  refine lv_aload_n hx hb dX8_dirty_0 rfl (lv_at hl 0 rfl) ?_
  refine lv_iload_n hx hb dX8_dirty_1 rfl (lv_at hl 1 rfl) ?_
  obtain ⟨r1, er1, h⟩ := cal_e h
  refine rCallI C hd (c_X8_isCopy hE er1) kX8_301 0 rfl rfl rfl rfl hl.1 rfl (Nat.le_of_ble_eq_true rfl) ⟨(Nat.le_of_ble_eq_true rfl), (Nat.le_of_ble_eq_true rfl)⟩ ⟨Nat.le_refl _, Nat.le_refl _⟩ dX8_dirty_2 (fun H locs hd => ?_)
  refine lv_if_ne (tgt := 10) hx hb dX8_dirty_5 (by decide) (fun c2 => ?_) (fun c2 => ?_)
  · replace h := iteF c2 h
    refine lv_iconst (v := 0) hx hb dX8_dirty_10 ic_0 ?_
    refine lv_istore_n (lv' := [(2, .int 0), (0, .ref (ga g 40)), (1, .int x1)]) hx hb dX8_dirty_11 rfl hl (Nat.le_of_ble_eq_true rfl) rfl (fun ls hl => ?_)
    refine lv_aload_n hx hb dX8_dirty_12 rfl (lv_at hl 1 rfl) ?_
    refine gX8_73 C hd dX8_dirty_13 ?_
    refine lv_iconst (v := 3) hx hb dX8_dirty_16 ic_3 ?_
    refine ldc_wM_19 C hd cl_3 (inb_i (by decide +kernel)) dX8_dirty_17 ?_
    obtain ⟨v3, ev3, h⟩ := bnd_e h
    refine rTop ev3 ?_
    refine lv_istore_n (lv' := [(3, .int v3), (2, .int 0), (0, .ref (ga g 40)), (1, .int x1)]) hx hb dX8_dirty_18 rfl hl (Nat.le_of_ble_eq_true rfl) rfl (fun ls hl => ?_)
    refine lv_iconst (v := 0) hx hb dX8_dirty_19 ic_0 ?_
    refine lv_istore (lv' := [(4, .int 0), (3, .int v3), (2, .int 0), (0, .ref (ga g 40)), (1, .int x1)]) hx hb dX8_dirty_20 hl (Nat.le_of_ble_eq_true rfl) rfl (fun ls hl => ?_)
    exact w_X8_dirty_22 C hr _ σ x1 0 v3 0 h _ _ _ hd (lv_sub hl [3, 4, 2, 1, 0] rfl)
  · replace h := iteT c2 h
    refine lv_iconst (v := (-1 : Int32)) hx hb dX8_dirty_8 ic_m1 ?_
    exact rIretP C hr hd h dX8_dirty_9
noncomputable def f_X8_drop_63 (F : Nat) (k_32 : St → Int32 → Int32 → Option (Int32 × St)) (σ : St) (x1 : Int32) (x2 : Int32) : Option (Int32 × St) :=
  bnd (x2 + 1) (fun v1 => k_32 σ x1 v1)
set_option maxRecDepth 100000 in
set_option maxHeartbeats 4000000 in
theorem w_X8_drop_63 {F : Nat} {r' : Int32} {σ' : St}  (C : Cx g p s m args meth c cX8_drop 3 RX8) (hr : meth.sig.returnType = some .boolean)
    {k_32 : St → Int32 → Int32 → Option (Int32 × St)} (hk_32 : (∀ (σ : St) (x1 : Int32) (x2 : Int32), k_32 σ x1 x2 = some (r', σ') → ∀ (H : Heap) (locs : List Loc) (ls : Array Slot), Dy g (wM g σ ++ X) s H locs → lv_has ls 3 [(0, .ref (ga g 40)), (1, .int x1), (2, .int x2)] → W p l e (rmD 2) s m args below meth c H locs 0 0 (QI g below args s (wM g σ' ++ X) r') (F0 m 32 ls []))) :
    (∀ (σ : St) (x1 : Int32) (x2 : Int32), f_X8_drop_63 F k_32 σ x1 x2 = some (r', σ') → ∀ (H : Heap) (locs : List Loc) (ls : Array Slot), Dy g (wM g σ ++ X) s H locs → lv_has ls 3 [(0, .ref (ga g 40)), (1, .int x1), (2, .int x2)] → W p l e (rmD 2) s m args below meth c H locs 0 0 (QI g below args s (wM g σ' ++ X) r') (F0 m 63 ls [])) := by
  have hx := C.1
  have hb := C.2.1
  have hE := C.2.2.2.2.2.2.2.2
  intro σ x1 x2 h H locs ls hd hl
  rw [f_X8_drop_63] at h
  obtain ⟨v1, ev1, h⟩ := bnd_e h
  refine lv_iinc (v := v1) (lv' := [(2, .int v1), (0, .ref (ga g 40)), (1, .int x1)]) hx hb dX8_drop_63 hl (k := 2) rfl ((ii_1 _).trans ev1.symm) (Nat.le_of_ble_eq_true rfl) rfl (fun ls hl => ?_)
  refine lv_goto (tgt := 32) hx hb dX8_drop_66 (by decide) ?_
  exact hk_32 σ x1 v1 h _ _ _ hd (lv_sub hl [1, 2, 0] rfl)
noncomputable def f_X8_drop_32 (F : Nat) : Nat → St → Int32 → Int32 → Option (Int32 × St)
  | 0, _, _, _ => none
  | n + 1, σ, x1, x2 => if (σ.2.1 19 5) ≤ x2 then (if inb ((60 + (4 * x1)) + 3) 7164 = true then bnd (sr σ 19 ((60 + (4 * x1)) + 3).toNatClampNeg 1) (fun t3 => some (1, t3)) else none) else (cal (f_X8_ofCopy F σ x2 1) (fun r4 => if r4 = x1 then (cal (f_X8_ofCopy F σ x2 3) (fun r6 => if r6 = 0 then (some (0, σ)) else (f_X8_drop_63 F (f_X8_drop_32 F n) σ x1 x2))) else (f_X8_drop_63 F (f_X8_drop_32 F n) σ x1 x2)))
set_option maxRecDepth 100000 in
set_option maxHeartbeats 4000000 in
theorem w_X8_drop_32 {F : Nat} {r' : Int32} {σ' : St}  (C : Cx g p s m args meth c cX8_drop 3 RX8) (hr : meth.sig.returnType = some .boolean) :
    (∀ (n : Nat) (σ : St) (x1 : Int32) (x2 : Int32), f_X8_drop_32 F n σ x1 x2 = some (r', σ') → ∀ (H : Heap) (locs : List Loc) (ls : Array Slot), Dy g (wM g σ ++ X) s H locs → lv_has ls 3 [(0, .ref (ga g 40)), (1, .int x1), (2, .int x2)] → W p l e (rmD 2) s m args below meth c H locs 0 0 (QI g below args s (wM g σ' ++ X) r') (F0 m 32 ls [])) := by
  have hx := C.1
  have hb := C.2.1
  have hE := C.2.2.2.2.2.2.2.2
  intro n
  induction n with
  | zero =>
    intro σ x1 x2 h
    cases h
  | succ n ih =>
    intro σ x1 x2 h H locs ls hd hl
    rw [f_X8_drop_32] at h
    refine lv_iload_n hx hb dX8_drop_32 rfl (lv_at hl 2 rfl) ?_
    refine lv_aload_n hx hb dX8_drop_33 rfl (lv_at hl 0 rfl) ?_
    refine gX8_73 C hd dX8_drop_34 ?_
    refine lv_iconst (v := 5) hx hb dX8_drop_37 ic_5 ?_
    refine ldc_wM_19 C hd cl_5 (inb_i (by decide +kernel)) dX8_drop_38 ?_
    refine lv_icmp_ge (tgt := 69) hx hb dX8_drop_39 (by decide) (fun c1 => ?_) (fun c1 => ?_)
    · replace h := iteT c1 h
      refine lv_aload_n hx hb dX8_drop_69 rfl (lv_at hl 0 rfl) ?_
      refine gX8_73 C hd dX8_drop_70 ?_
      refine lv_bipush (v := 60) hx hb dX8_drop_73 bi_60 ?_
      refine lv_iconst (v := 4) hx hb dX8_drop_75 ic_4 ?_
      refine lv_iload_n hx hb dX8_drop_76 rfl (lv_at hl 1 rfl) ?_
      refine lv_imul hx hb dX8_drop_77 ?_
      refine lv_iadd hx hb dX8_drop_78 ?_
      refine lv_iconst (v := 3) hx hb dX8_drop_79 ic_3 ?_
      refine lv_iadd hx hb dX8_drop_80 ?_
      refine lv_iconst (v := 1) hx hb dX8_drop_81 ic_1 ?_
      obtain ⟨n2, h⟩ := chk h
      obtain ⟨t3, et3, h⟩ := bnd_e h
      refine st_wM_19 C hd (inb_i n2) et3 dX8_drop_82 (fun H locs hd => ?_)
      refine lv_iconst (v := 1) hx hb dX8_drop_83 ic_1 ?_
      exact rZretS (w := wM g) C hr hd h (by decide) dX8_drop_84
    · replace h := iteF c1 h
      refine lv_aload_n hx hb dX8_drop_42 rfl (lv_at hl 0 rfl) ?_
      refine lv_iload_n hx hb dX8_drop_43 rfl (lv_at hl 2 rfl) ?_
      refine lv_iconst (v := 1) hx hb dX8_drop_44 ic_1 ?_
      obtain ⟨r4, er4, h⟩ := cal_e h
      refine rCallI C hd (c_X8_ofCopy hE er4) kX8_286 0 rfl rfl rfl rfl hl.1 rfl (Nat.le_of_ble_eq_true rfl) ⟨(Nat.le_of_ble_eq_true rfl), (Nat.le_of_ble_eq_true rfl)⟩ ⟨Nat.le_refl _, Nat.le_refl _⟩ dX8_drop_45 (fun H locs hd => ?_)
      refine lv_iload_n hx hb dX8_drop_48 rfl (lv_at hl 1 rfl) ?_
      refine lv_icmp_ne (tgt := 63) hx hb dX8_drop_49 (by decide) (fun c5 => ?_) (fun c5 => ?_)
      · replace h := iteF c5 h
        exact w_X8_drop_63 C hr ih σ x1 x2 h _ _ _ hd (lv_sub hl [0, 1, 2] rfl)
      · replace h := iteT c5 h
        refine lv_aload_n hx hb dX8_drop_52 rfl (lv_at hl 0 rfl) ?_
        refine lv_iload_n hx hb dX8_drop_53 rfl (lv_at hl 2 rfl) ?_
        refine lv_iconst (v := 3) hx hb dX8_drop_54 ic_3 ?_
        obtain ⟨r6, er6, h⟩ := cal_e h
        refine rCallI C hd (c_X8_ofCopy hE er6) kX8_286 0 rfl rfl rfl rfl hl.1 rfl (Nat.le_of_ble_eq_true rfl) ⟨(Nat.le_of_ble_eq_true rfl), (Nat.le_of_ble_eq_true rfl)⟩ ⟨Nat.le_refl _, Nat.le_refl _⟩ dX8_drop_55 (fun H locs hd => ?_)
        refine lv_if_ne (tgt := 63) hx hb dX8_drop_58 (by decide) (fun c7 => ?_) (fun c7 => ?_)
        · replace h := iteF c7 h
          exact w_X8_drop_63 C hr ih σ x1 x2 h _ _ _ hd (lv_sub hl [0, 1, 2] rfl)
        · replace h := iteT c7 h
          refine lv_iconst (v := 0) hx hb dX8_drop_61 ic_0 ?_
          exact rZretS (w := wM g) C hr hd h (by decide) dX8_drop_62
noncomputable def f_X8_drop (F : Nat) (σ : St) (x1 : Int32) : Option (Int32 × St) :=
  cal (f_X8_isCopy F σ x1) (fun r1 => if r1 = 0 then (some (0, σ)) else (cal (f_X8_ofCopy F σ x1 2) (fun r3 => if r3 = 1 then (some (0, σ)) else (cal (f_X8_ofCopy F σ x1 3) (fun r5 => if r5 = 1 then (some (0, σ)) else (f_X8_drop_32 F F σ x1 0))))))
set_option maxRecDepth 100000 in
set_option maxHeartbeats 4000000 in
theorem c_X8_drop {l : Launch} {g : Gp} {X : va_W} (hE : E0 g) {F : Nat} {r' : Int32} {σ' : St} {σ : St} {x1 : Int32} (h : f_X8_drop F σ x1 = some (r', σ')) : Ci l g yX8_drop cX8_drop 3 (some .boolean) 2 [.ref (ga g 40), .int x1] (wM g σ ++ X) r' (wM g σ' ++ X) := by
  refine rHead hE (by decide +kernel) (Nat.le_of_ble_eq_true rfl) (fun p e s m below meth c C hr _ hd ls hl => ?_)
  have hx := C.1
  have hb := C.2.1
  have hl : lv_has ls 3 [(0, .ref (ga g 40)), (1, .int x1)] := hl
  generalize ([.ref (ga g 40), .int x1] : List Value).toArray = args at C ⊢
  have C : Cx g p s m args meth c cX8_drop 3 RX8 := C
  rw [f_X8_drop] at h
  refine lv_aload_n hx hb dX8_drop_0 rfl (lv_at hl 0 rfl) ?_
  refine lv_iload_n hx hb dX8_drop_1 rfl (lv_at hl 1 rfl) ?_
  obtain ⟨r1, er1, h⟩ := cal_e h
  refine rCallI C hd (c_X8_isCopy hE er1) kX8_301 0 rfl rfl rfl rfl hl.1 rfl (Nat.le_of_ble_eq_true rfl) ⟨(Nat.le_of_ble_eq_true rfl), (Nat.le_of_ble_eq_true rfl)⟩ ⟨Nat.le_refl _, Nat.le_refl _⟩ dX8_drop_2 (fun H locs hd => ?_)
  refine lv_if_eq (tgt := 28) hx hb dX8_drop_5 (by decide) (fun c2 => ?_) (fun c2 => ?_)
  · replace h := iteT c2 h
    refine lv_iconst (v := 0) hx hb dX8_drop_28 ic_0 ?_
    exact rZretS (w := wM g) C hr hd h (by decide) dX8_drop_29
  · replace h := iteF c2 h
    refine lv_aload_n hx hb dX8_drop_8 rfl (lv_at hl 0 rfl) ?_
    refine lv_iload_n hx hb dX8_drop_9 rfl (lv_at hl 1 rfl) ?_
    refine lv_iconst (v := 2) hx hb dX8_drop_10 ic_2 ?_
    obtain ⟨r3, er3, h⟩ := cal_e h
    refine rCallI C hd (c_X8_ofCopy hE er3) kX8_286 0 rfl rfl rfl rfl hl.1 rfl (Nat.le_of_ble_eq_true rfl) ⟨(Nat.le_of_ble_eq_true rfl), (Nat.le_of_ble_eq_true rfl)⟩ ⟨Nat.le_refl _, Nat.le_refl _⟩ dX8_drop_11 (fun H locs hd => ?_)
    refine lv_iconst (v := 1) hx hb dX8_drop_14 ic_1 ?_
    refine lv_icmp_eq (tgt := 28) hx hb dX8_drop_15 (by decide) (fun c4 => ?_) (fun c4 => ?_)
    · replace h := iteT c4 h
      refine lv_iconst (v := 0) hx hb dX8_drop_28 ic_0 ?_
      exact rZretS (w := wM g) C hr hd h (by decide) dX8_drop_29
    · replace h := iteF c4 h
      refine lv_aload_n hx hb dX8_drop_18 rfl (lv_at hl 0 rfl) ?_
      refine lv_iload_n hx hb dX8_drop_19 rfl (lv_at hl 1 rfl) ?_
      refine lv_iconst (v := 3) hx hb dX8_drop_20 ic_3 ?_
      obtain ⟨r5, er5, h⟩ := cal_e h
      refine rCallI C hd (c_X8_ofCopy hE er5) kX8_286 0 rfl rfl rfl rfl hl.1 rfl (Nat.le_of_ble_eq_true rfl) ⟨(Nat.le_of_ble_eq_true rfl), (Nat.le_of_ble_eq_true rfl)⟩ ⟨Nat.le_refl _, Nat.le_refl _⟩ dX8_drop_21 (fun H locs hd => ?_)
      refine lv_iconst (v := 1) hx hb dX8_drop_24 ic_1 ?_
      refine lv_icmp_ne (tgt := 30) hx hb dX8_drop_25 (by decide) (fun c6 => ?_) (fun c6 => ?_)
      · replace h := iteF c6 h
        refine lv_iconst (v := 0) hx hb dX8_drop_30 ic_0 ?_
        refine lv_istore_n (lv' := [(2, .int 0), (0, .ref (ga g 40)), (1, .int x1)]) hx hb dX8_drop_31 rfl hl (Nat.le_of_ble_eq_true rfl) rfl (fun ls hl => ?_)
        exact w_X8_drop_32 C hr _ σ x1 0 h _ _ _ hd (lv_sub hl [1, 2, 0] rfl)
      · replace h := iteT c6 h
        refine lv_iconst (v := 0) hx hb dX8_drop_28 ic_0 ?_
        exact rZretS (w := wM g) C hr hd h (by decide) dX8_drop_29
noncomputable def f_X8_unit (F : Nat) (σ : St) : Option St :=
  cal (f_X8_is F σ 2) (fun r1 => if r1 = 0 then (if (σ.1 6) = 0 then (if inb (σ.1 4) 403 = true then if (σ.2.1 3 (σ.1 4).toNatClampNeg) < 34 then (cal (f_X8_fail F σ 1) (fun t7 => some t7)) else (if inb (σ.1 4) 403 = true then if 39 < (σ.2.1 3 (σ.1 4).toNatClampNeg) then (cal (f_X8_fail F σ 1) (fun t10 => some t10)) else (if inb (σ.1 4) 403 = true then cal (f_X8_emit F σ 1 ((σ.2.1 3 (σ.1 4).toNatClampNeg) - 34)) (fun t12 => cal (f_X8_goesOn F t12) (fun t13 => some t13)) else none) else none) else none) else (cal (f_X8_fail F σ 1) (fun t4 => some t4))) else (if inb (σ.1 4) 403 = true then cal (f_X8_emit F σ 0 (σ.2.1 5 (σ.1 4).toNatClampNeg)) (fun t15 => cal (f_X8_goesOn F t15) (fun t16 => some t16)) else none))
set_option maxRecDepth 100000 in
set_option maxHeartbeats 4000000 in
theorem c_X8_unit {l : Launch} {g : Gp} {X : va_W} (hE : E0 g) {F : Nat} {σ' : St} {σ : St} (h : f_X8_unit F σ = some σ') : Cv l g yX8_unit cX8_unit 1 2 [.ref (ga g 40)] (wM g σ ++ X) (wM g σ' ++ X) := by
  refine rHead hE (by decide +kernel) (Nat.le_of_ble_eq_true rfl) (fun p e s m below meth c C hr _ hd ls hl => ?_)
  have hx := C.1
  have hb := C.2.1
  have hl : lv_has ls 1 [(0, .ref (ga g 40))] := hl
  generalize ([.ref (ga g 40)] : List Value).toArray = args at C ⊢
  have C : Cx g p s m args meth c cX8_unit 1 RX8 := C
  rw [f_X8_unit] at h
  refine lv_aload_n hx hb dX8_unit_0 rfl (lv_at hl 0 rfl) ?_
  refine lv_iconst (v := 2) hx hb dX8_unit_1 ic_2 ?_
  obtain ⟨r1, er1, h⟩ := cal_e h
  refine rCallI C hd (c_X8_is hE er1) kX8_153 0 rfl rfl rfl rfl hl.1 rfl (Nat.le_of_ble_eq_true rfl) ⟨(Nat.le_of_ble_eq_true rfl), (Nat.le_of_ble_eq_true rfl)⟩ ⟨Nat.le_refl _, Nat.le_refl _⟩ dX8_unit_2 (fun H locs hd => ?_)
  refine lv_if_eq (tgt := 29) hx hb dX8_unit_5 (by decide) (fun c2 => ?_) (fun c2 => ?_)
  · replace h := iteT c2 h
    refine lv_aload_n hx hb dX8_unit_29 rfl (lv_at hl 0 rfl) ?_
    refine gX8_135 C hd dX8_unit_30 ?_
    refine lv_if_ne (tgt := 88) hx hb dX8_unit_33 (by decide) (fun c3 => ?_) (fun c3 => ?_)
    · replace h := iteF c3 h
      refine lv_aload_n hx hb dX8_unit_88 rfl (lv_at hl 0 rfl) ?_
      refine lv_iconst (v := 1) hx hb dX8_unit_89 ic_1 ?_
      obtain ⟨t4, et4, h⟩ := cal_e h
      refine rCallV C hd (c_X8_fail hE et4) kX8_150 0 rfl rfl rfl rfl hl.1 rfl (Nat.le_of_ble_eq_true rfl) ⟨(Nat.le_of_ble_eq_true rfl), (Nat.le_of_ble_eq_true rfl)⟩ ⟨Nat.le_refl _, Nat.le_refl _⟩ dX8_unit_90 (fun H locs hd => ?_)
      exact rVretS (w := wM g) C hr hd h dX8_unit_93
    · replace h := iteT c3 h
      refine lv_aload_n hx hb dX8_unit_36 rfl (lv_at hl 0 rfl) ?_
      refine gX8_20 C hd dX8_unit_37 ?_
      refine lv_aload_n hx hb dX8_unit_40 rfl (lv_at hl 0 rfl) ?_
      refine gX8_138 C hd dX8_unit_41 ?_
      obtain ⟨n5, h⟩ := chk h
      refine ld_wM_3 C hd (inb_i n5) dX8_unit_44 ?_
      refine lv_bipush (v := 34) hx hb dX8_unit_45 bi_34 ?_
      refine lv_icmp_lt (tgt := 88) hx hb dX8_unit_47 (by decide) (fun c6 => ?_) (fun c6 => ?_)
      · replace h := iteT c6 h
        refine lv_aload_n hx hb dX8_unit_88 rfl (lv_at hl 0 rfl) ?_
        refine lv_iconst (v := 1) hx hb dX8_unit_89 ic_1 ?_
        obtain ⟨t7, et7, h⟩ := cal_e h
        refine rCallV C hd (c_X8_fail hE et7) kX8_150 0 rfl rfl rfl rfl hl.1 rfl (Nat.le_of_ble_eq_true rfl) ⟨(Nat.le_of_ble_eq_true rfl), (Nat.le_of_ble_eq_true rfl)⟩ ⟨Nat.le_refl _, Nat.le_refl _⟩ dX8_unit_90 (fun H locs hd => ?_)
        exact rVretS (w := wM g) C hr hd h dX8_unit_93
      · replace h := iteF c6 h
        refine lv_aload_n hx hb dX8_unit_50 rfl (lv_at hl 0 rfl) ?_
        refine gX8_20 C hd dX8_unit_51 ?_
        refine lv_aload_n hx hb dX8_unit_54 rfl (lv_at hl 0 rfl) ?_
        refine gX8_138 C hd dX8_unit_55 ?_
        obtain ⟨n8, h⟩ := chk h
        refine ld_wM_3 C hd (inb_i n8) dX8_unit_58 ?_
        refine lv_bipush (v := 39) hx hb dX8_unit_59 bi_39 ?_
        refine lv_icmp_gt (tgt := 88) hx hb dX8_unit_61 (by decide) (fun c9 => ?_) (fun c9 => ?_)
        · replace h := iteT c9 h
          refine lv_aload_n hx hb dX8_unit_88 rfl (lv_at hl 0 rfl) ?_
          refine lv_iconst (v := 1) hx hb dX8_unit_89 ic_1 ?_
          obtain ⟨t10, et10, h⟩ := cal_e h
          refine rCallV C hd (c_X8_fail hE et10) kX8_150 0 rfl rfl rfl rfl hl.1 rfl (Nat.le_of_ble_eq_true rfl) ⟨(Nat.le_of_ble_eq_true rfl), (Nat.le_of_ble_eq_true rfl)⟩ ⟨Nat.le_refl _, Nat.le_refl _⟩ dX8_unit_90 (fun H locs hd => ?_)
          exact rVretS (w := wM g) C hr hd h dX8_unit_93
        · replace h := iteF c9 h
          refine lv_aload_n hx hb dX8_unit_64 rfl (lv_at hl 0 rfl) ?_
          refine lv_iconst (v := 1) hx hb dX8_unit_65 ic_1 ?_
          refine lv_aload_n hx hb dX8_unit_66 rfl (lv_at hl 0 rfl) ?_
          refine gX8_20 C hd dX8_unit_67 ?_
          refine lv_aload_n hx hb dX8_unit_70 rfl (lv_at hl 0 rfl) ?_
          refine gX8_138 C hd dX8_unit_71 ?_
          obtain ⟨n11, h⟩ := chk h
          refine ld_wM_3 C hd (inb_i n11) dX8_unit_74 ?_
          refine lv_bipush (v := 34) hx hb dX8_unit_75 bi_34 ?_
          refine lv_isub hx hb dX8_unit_77 ?_
          obtain ⟨t12, et12, h⟩ := cal_e h
          refine rCallV C hd (c_X8_emit hE et12) kX8_207 0 rfl rfl rfl rfl hl.1 rfl (Nat.le_of_ble_eq_true rfl) ⟨(Nat.le_of_ble_eq_true rfl), (Nat.le_of_ble_eq_true rfl)⟩ ⟨Nat.le_refl _, Nat.le_refl _⟩ dX8_unit_78 (fun H locs hd => ?_)
          refine lv_aload_n hx hb dX8_unit_81 rfl (lv_at hl 0 rfl) ?_
          obtain ⟨t13, et13, h⟩ := cal_e h
          refine rCallV C hd (c_X8_goesOn hE et13) kX8_156 0 rfl rfl rfl rfl hl.1 rfl (Nat.le_of_ble_eq_true rfl) ⟨(Nat.le_of_ble_eq_true rfl), (Nat.le_of_ble_eq_true rfl)⟩ ⟨Nat.le_refl _, Nat.le_refl _⟩ dX8_unit_82 (fun H locs hd => ?_)
          refine lv_goto (tgt := 93) hx hb dX8_unit_85 (by decide) ?_
          exact rVretS (w := wM g) C hr hd h dX8_unit_93
  · replace h := iteF c2 h
    refine lv_aload_n hx hb dX8_unit_8 rfl (lv_at hl 0 rfl) ?_
    refine lv_iconst (v := 0) hx hb dX8_unit_9 ic_0 ?_
    refine lv_aload_n hx hb dX8_unit_10 rfl (lv_at hl 0 rfl) ?_
    refine gX8_27 C hd dX8_unit_11 ?_
    refine lv_aload_n hx hb dX8_unit_14 rfl (lv_at hl 0 rfl) ?_
    refine gX8_138 C hd dX8_unit_15 ?_
    obtain ⟨n14, h⟩ := chk h
    refine ld_wM_5 C hd (inb_i n14) dX8_unit_18 ?_
    obtain ⟨t15, et15, h⟩ := cal_e h
    refine rCallV C hd (c_X8_emit hE et15) kX8_207 0 rfl rfl rfl rfl hl.1 rfl (Nat.le_of_ble_eq_true rfl) ⟨(Nat.le_of_ble_eq_true rfl), (Nat.le_of_ble_eq_true rfl)⟩ ⟨Nat.le_refl _, Nat.le_refl _⟩ dX8_unit_19 (fun H locs hd => ?_)
    refine lv_aload_n hx hb dX8_unit_22 rfl (lv_at hl 0 rfl) ?_
    obtain ⟨t16, et16, h⟩ := cal_e h
    refine rCallV C hd (c_X8_goesOn hE et16) kX8_156 0 rfl rfl rfl rfl hl.1 rfl (Nat.le_of_ble_eq_true rfl) ⟨(Nat.le_of_ble_eq_true rfl), (Nat.le_of_ble_eq_true rfl)⟩ ⟨Nat.le_refl _, Nat.le_refl _⟩ dX8_unit_23 (fun H locs hd => ?_)
    refine lv_goto (tgt := 93) hx hb dX8_unit_26 (by decide) ?_
    exact rVretS (w := wM g) C hr hd h dX8_unit_93
noncomputable def f_X8_expression_252 (F : Nat) (k_12 : St → Int32 → Int32 → Option St) (σ : St) (x1 : Int32) (x2 : Int32) (y0 : Int32) : Option St :=
  cal (f_X8_comesOut F σ y0) (fun t1 => if inb (t1.1 4) 403 = true then if inb (t1.1 14) 64 = true then bnd (sr t1 15 (t1.1 14).toNatClampNeg (t1.2.1 3 (t1.1 4).toNatClampNeg)) (fun t4 => bnd (ss t4 14 ((t4.1 14) + 1)) (fun t5 => cal (f_X8_goesOn F t5) (fun t6 => k_12 t6 x1 x2))) else none else none)
set_option maxRecDepth 100000 in
set_option maxHeartbeats 4000000 in
theorem w_X8_expression_252 {F : Nat} {σ' : St}  (C : Cx g p s m args meth c cX8_expression 3 RX8) (hr : meth.sig.returnType = none)
    {k_12 : St → Int32 → Int32 → Option St} (hk_12 : (∀ (σ : St) (x1 : Int32) (x2 : Int32), k_12 σ x1 x2 = some σ' → ∀ (H : Heap) (locs : List Loc) (ls : Array Slot), Dy g (wM g σ ++ X) s H locs → lv_has ls 3 [(0, .ref (ga g 40)), (1, .int x1), (2, .int x2)] → W p l e (rmD 3) s m args below meth c H locs 0 0 (QV g below args s (wM g σ' ++ X)) (F0 m 12 ls []))) :
    (∀ (σ : St) (x1 : Int32) (x2 : Int32) (y0 : Int32), f_X8_expression_252 F k_12 σ x1 x2 y0 = some σ' → ∀ (H : Heap) (locs : List Loc) (ls : Array Slot), Dy g (wM g σ ++ X) s H locs → lv_has ls 3 [(0, .ref (ga g 40)), (1, .int x1), (2, .int x2)] → W p l e (rmD 3) s m args below meth c H locs 0 0 (QV g below args s (wM g σ' ++ X)) (F0 m 252 ls [.int y0, .ref (ga g 40)])) := by
  have hx := C.1
  have hb := C.2.1
  have hE := C.2.2.2.2.2.2.2.2
  intro σ x1 x2 y0 h H locs ls hd hl
  rw [f_X8_expression_252] at h
  obtain ⟨t1, et1, h⟩ := cal_e h
  refine rCallV C hd (c_X8_comesOut hE et1) kX8_213 0 rfl rfl rfl rfl hl.1 rfl (Nat.le_of_ble_eq_true rfl) ⟨(Nat.le_of_ble_eq_true rfl), (Nat.le_of_ble_eq_true rfl)⟩ ⟨Nat.le_refl _, Nat.le_refl _⟩ dX8_expression_252 (fun H locs hd => ?_)
  refine lv_aload_n hx hb dX8_expression_255 rfl (lv_at hl 0 rfl) ?_
  refine gX8_61 C hd dX8_expression_256 ?_
  refine lv_aload_n hx hb dX8_expression_259 rfl (lv_at hl 0 rfl) ?_
  refine gX8_204 C hd dX8_expression_260 ?_
  refine lv_aload_n hx hb dX8_expression_263 rfl (lv_at hl 0 rfl) ?_
  refine gX8_20 C hd dX8_expression_264 ?_
  refine lv_aload_n hx hb dX8_expression_267 rfl (lv_at hl 0 rfl) ?_
  refine gX8_138 C hd dX8_expression_268 ?_
  obtain ⟨n2, h⟩ := chk h
  refine ld_wM_3 C hd (inb_i n2) dX8_expression_271 ?_
  obtain ⟨n3, h⟩ := chk h
  obtain ⟨t4, et4, h⟩ := bnd_e h
  refine st_wM_15 C hd (inb_i n3) et4 dX8_expression_272 (fun H locs hd => ?_)
  refine lv_aload_n hx hb dX8_expression_273 rfl (lv_at hl 0 rfl) ?_
  refine lv_dup hx hb dX8_expression_274 rfl ?_
  refine gX8_204 C hd dX8_expression_275 ?_
  refine lv_iconst (v := 1) hx hb dX8_expression_278 ic_1 ?_
  refine lv_iadd hx hb dX8_expression_279 ?_
  obtain ⟨t5, et5, h⟩ := bnd_e h
  refine pX8_204 C hd et5 dX8_expression_280 (fun H locs hd => ?_)
  refine lv_aload_n hx hb dX8_expression_283 rfl (lv_at hl 0 rfl) ?_
  obtain ⟨t6, et6, h⟩ := cal_e h
  refine rCallV C hd (c_X8_goesOn hE et6) kX8_156 0 rfl rfl rfl rfl hl.1 rfl (Nat.le_of_ble_eq_true rfl) ⟨(Nat.le_of_ble_eq_true rfl), (Nat.le_of_ble_eq_true rfl)⟩ ⟨Nat.le_refl _, Nat.le_refl _⟩ dX8_expression_284 (fun H locs hd => ?_)
  refine lv_goto (tgt := 12) hx hb dX8_expression_287 (by decide) ?_
  exact hk_12 t6 x1 x2 h _ _ _ hd (lv_sub hl [0, 1, 2] rfl)
noncomputable def f_X8_expression_247 (F : Nat) (k_12 : St → Int32 → Int32 → Option St) (σ : St) (x1 : Int32) (x2 : Int32) : Option St :=
  f_X8_expression_252 F k_12 σ x1 x2 1
set_option maxRecDepth 100000 in
set_option maxHeartbeats 4000000 in
theorem w_X8_expression_247 {F : Nat} {σ' : St}  (C : Cx g p s m args meth c cX8_expression 3 RX8) (hr : meth.sig.returnType = none)
    {k_12 : St → Int32 → Int32 → Option St} (hk_12 : (∀ (σ : St) (x1 : Int32) (x2 : Int32), k_12 σ x1 x2 = some σ' → ∀ (H : Heap) (locs : List Loc) (ls : Array Slot), Dy g (wM g σ ++ X) s H locs → lv_has ls 3 [(0, .ref (ga g 40)), (1, .int x1), (2, .int x2)] → W p l e (rmD 3) s m args below meth c H locs 0 0 (QV g below args s (wM g σ' ++ X)) (F0 m 12 ls []))) :
    (∀ (σ : St) (x1 : Int32) (x2 : Int32), f_X8_expression_247 F k_12 σ x1 x2 = some σ' → ∀ (H : Heap) (locs : List Loc) (ls : Array Slot), Dy g (wM g σ ++ X) s H locs → lv_has ls 3 [(0, .ref (ga g 40)), (1, .int x1), (2, .int x2)] → W p l e (rmD 3) s m args below meth c H locs 0 0 (QV g below args s (wM g σ' ++ X)) (F0 m 247 ls [.ref (ga g 40)])) := by
  have hx := C.1
  have hb := C.2.1
  have hE := C.2.2.2.2.2.2.2.2
  intro σ x1 x2 h H locs ls hd hl
  rw [f_X8_expression_247] at h
  refine lv_iconst (v := 1) hx hb dX8_expression_247 ic_1 ?_
  refine lv_goto (tgt := 252) hx hb dX8_expression_248 (by decide) ?_
  exact w_X8_expression_252 C hr hk_12 σ x1 x2 1 h _ _ _ hd (lv_sub hl [0, 1, 2] rfl)
noncomputable def f_X8_expression_195 (F : Nat) (k_12 : St → Int32 → Int32 → Option St) (σ : St) (x1 : Int32) (y0 : Int32) : Option St :=
  if y0 = 0 then (if (σ.1 5) ≤ x1 then (cal (f_X8_comesOut F σ 0) (fun t9 => some t9)) else (cal (f_X8_fail F σ 1) (fun t10 => cal (f_X8_comesOut F t10 0) (fun t11 => some t11)))) else (cal (f_X8_is F σ 10) (fun r2 => if r2 = 0 then (cal (f_X8_is F σ 15) (fun r4 => if r4 = 0 then (cal (f_X8_is F σ 16) (fun r6 => if r6 = 0 then (f_X8_expression_252 F k_12 σ x1 y0 0) else (f_X8_expression_247 F k_12 σ x1 y0))) else (f_X8_expression_247 F k_12 σ x1 y0))) else (f_X8_expression_247 F k_12 σ x1 y0)))
set_option maxRecDepth 100000 in
set_option maxHeartbeats 4000000 in
theorem w_X8_expression_195 {F : Nat} {σ' : St}  (C : Cx g p s m args meth c cX8_expression 3 RX8) (hr : meth.sig.returnType = none)
    {k_12 : St → Int32 → Int32 → Option St} (hk_12 : (∀ (σ : St) (x1 : Int32) (x2 : Int32), k_12 σ x1 x2 = some σ' → ∀ (H : Heap) (locs : List Loc) (ls : Array Slot), Dy g (wM g σ ++ X) s H locs → lv_has ls 3 [(0, .ref (ga g 40)), (1, .int x1), (2, .int x2)] → W p l e (rmD 3) s m args below meth c H locs 0 0 (QV g below args s (wM g σ' ++ X)) (F0 m 12 ls []))) :
    (∀ (σ : St) (x1 : Int32) (y0 : Int32), f_X8_expression_195 F k_12 σ x1 y0 = some σ' → ∀ (H : Heap) (locs : List Loc) (ls : Array Slot), Dy g (wM g σ ++ X) s H locs → lv_has ls 3 [(0, .ref (ga g 40)), (1, .int x1)] → W p l e (rmD 3) s m args below meth c H locs 0 0 (QV g below args s (wM g σ' ++ X)) (F0 m 195 ls [.int y0])) := by
  have hx := C.1
  have hb := C.2.1
  have hE := C.2.2.2.2.2.2.2.2
  intro σ x1 y0 h H locs ls hd hl
  rw [f_X8_expression_195] at h
  refine lv_istore_n (lv' := [(2, .int y0), (0, .ref (ga g 40)), (1, .int x1)]) hx hb dX8_expression_195 rfl hl (Nat.le_of_ble_eq_true rfl) rfl (fun ls hl => ?_)
  refine lv_iload_n hx hb dX8_expression_196 rfl (lv_at hl 0 rfl) ?_
  refine lv_if_ne (tgt := 219) hx hb dX8_expression_197 (by decide) (fun c1 => ?_) (fun c1 => ?_)
  · replace h := iteF c1 h
    refine lv_aload_n hx hb dX8_expression_219 rfl (lv_at hl 1 rfl) ?_
    refine lv_aload_n hx hb dX8_expression_220 rfl (lv_at hl 1 rfl) ?_
    refine lv_bipush (v := 10) hx hb dX8_expression_221 bi_10 ?_
    obtain ⟨r2, er2, h⟩ := cal_e h
    refine rCallI C hd (c_X8_is hE er2) kX8_153 0 rfl rfl rfl rfl hl.1 rfl (Nat.le_of_ble_eq_true rfl) ⟨(Nat.le_of_ble_eq_true rfl), (Nat.le_of_ble_eq_true rfl)⟩ ⟨Nat.le_refl _, Nat.le_refl _⟩ dX8_expression_223 (fun H locs hd => ?_)
    refine lv_if_ne (tgt := 247) hx hb dX8_expression_226 (by decide) (fun c3 => ?_) (fun c3 => ?_)
    · replace h := iteF c3 h
      exact w_X8_expression_247 C hr hk_12 σ x1 y0 h _ _ _ hd (lv_sub hl [1, 2, 0] rfl)
    · replace h := iteT c3 h
      refine lv_aload_n hx hb dX8_expression_229 rfl (lv_at hl 1 rfl) ?_
      refine lv_bipush (v := 15) hx hb dX8_expression_230 bi_15 ?_
      obtain ⟨r4, er4, h⟩ := cal_e h
      refine rCallI C hd (c_X8_is hE er4) kX8_153 0 rfl rfl rfl rfl hl.1 rfl (Nat.le_of_ble_eq_true rfl) ⟨(Nat.le_of_ble_eq_true rfl), (Nat.le_of_ble_eq_true rfl)⟩ ⟨Nat.le_refl _, Nat.le_refl _⟩ dX8_expression_232 (fun H locs hd => ?_)
      refine lv_if_ne (tgt := 247) hx hb dX8_expression_235 (by decide) (fun c5 => ?_) (fun c5 => ?_)
      · replace h := iteF c5 h
        exact w_X8_expression_247 C hr hk_12 σ x1 y0 h _ _ _ hd (lv_sub hl [1, 2, 0] rfl)
      · replace h := iteT c5 h
        refine lv_aload_n hx hb dX8_expression_238 rfl (lv_at hl 1 rfl) ?_
        refine lv_bipush (v := 16) hx hb dX8_expression_239 bi_16 ?_
        obtain ⟨r6, er6, h⟩ := cal_e h
        refine rCallI C hd (c_X8_is hE er6) kX8_153 0 rfl rfl rfl rfl hl.1 rfl (Nat.le_of_ble_eq_true rfl) ⟨(Nat.le_of_ble_eq_true rfl), (Nat.le_of_ble_eq_true rfl)⟩ ⟨Nat.le_refl _, Nat.le_refl _⟩ dX8_expression_241 (fun H locs hd => ?_)
        refine lv_if_eq (tgt := 251) hx hb dX8_expression_244 (by decide) (fun c7 => ?_) (fun c7 => ?_)
        · replace h := iteT c7 h
          refine lv_iconst (v := 0) hx hb dX8_expression_251 ic_0 ?_
          exact w_X8_expression_252 C hr hk_12 σ x1 y0 0 h _ _ _ hd (lv_sub hl [1, 2, 0] rfl)
        · replace h := iteF c7 h
          exact w_X8_expression_247 C hr hk_12 σ x1 y0 h _ _ _ hd (lv_sub hl [1, 2, 0] rfl)
  · replace h := iteT c1 h
    refine lv_aload_n hx hb dX8_expression_200 rfl (lv_at hl 1 rfl) ?_
    refine gX8_162 C hd dX8_expression_201 ?_
    refine lv_iload_n hx hb dX8_expression_204 rfl (lv_at hl 2 rfl) ?_
    refine lv_icmp_le (tgt := 213) hx hb dX8_expression_205 (by decide) (fun c8 => ?_) (fun c8 => ?_)
    · replace h := iteT c8 h
      refine lv_aload_n hx hb dX8_expression_213 rfl (lv_at hl 1 rfl) ?_
      refine lv_iconst (v := 0) hx hb dX8_expression_214 ic_0 ?_
      obtain ⟨t9, et9, h⟩ := cal_e h
      refine rCallV C hd (c_X8_comesOut hE et9) kX8_213 0 rfl rfl rfl rfl hl.1 rfl (Nat.le_of_ble_eq_true rfl) ⟨(Nat.le_of_ble_eq_true rfl), (Nat.le_of_ble_eq_true rfl)⟩ ⟨Nat.le_refl _, Nat.le_refl _⟩ dX8_expression_215 (fun H locs hd => ?_)
      exact rVretS (w := wM g) C hr hd h dX8_expression_218
    · replace h := iteF c8 h
      refine lv_aload_n hx hb dX8_expression_208 rfl (lv_at hl 1 rfl) ?_
      refine lv_iconst (v := 1) hx hb dX8_expression_209 ic_1 ?_
      obtain ⟨t10, et10, h⟩ := cal_e h
      refine rCallV C hd (c_X8_fail hE et10) kX8_150 0 rfl rfl rfl rfl hl.1 rfl (Nat.le_of_ble_eq_true rfl) ⟨(Nat.le_of_ble_eq_true rfl), (Nat.le_of_ble_eq_true rfl)⟩ ⟨Nat.le_refl _, Nat.le_refl _⟩ dX8_expression_210 (fun H locs hd => ?_)
      refine lv_aload_n hx hb dX8_expression_213 rfl (lv_at hl 1 rfl) ?_
      refine lv_iconst (v := 0) hx hb dX8_expression_214 ic_0 ?_
      obtain ⟨t11, et11, h⟩ := cal_e h
      refine rCallV C hd (c_X8_comesOut hE et11) kX8_213 0 rfl rfl rfl rfl hl.1 rfl (Nat.le_of_ble_eq_true rfl) ⟨(Nat.le_of_ble_eq_true rfl), (Nat.le_of_ble_eq_true rfl)⟩ ⟨Nat.le_refl _, Nat.le_refl _⟩ dX8_expression_215 (fun H locs hd => ?_)
      exact rVretS (w := wM g) C hr hd h dX8_expression_218
noncomputable def f_X8_expression_190 (F : Nat) (k_12 : St → Int32 → Int32 → Option St) (σ : St) (x1 : Int32) : Option St :=
  f_X8_expression_195 F k_12 σ x1 1
set_option maxRecDepth 100000 in
set_option maxHeartbeats 4000000 in
theorem w_X8_expression_190 {F : Nat} {σ' : St}  (C : Cx g p s m args meth c cX8_expression 3 RX8) (hr : meth.sig.returnType = none)
    {k_12 : St → Int32 → Int32 → Option St} (hk_12 : (∀ (σ : St) (x1 : Int32) (x2 : Int32), k_12 σ x1 x2 = some σ' → ∀ (H : Heap) (locs : List Loc) (ls : Array Slot), Dy g (wM g σ ++ X) s H locs → lv_has ls 3 [(0, .ref (ga g 40)), (1, .int x1), (2, .int x2)] → W p l e (rmD 3) s m args below meth c H locs 0 0 (QV g below args s (wM g σ' ++ X)) (F0 m 12 ls []))) :
    (∀ (σ : St) (x1 : Int32), f_X8_expression_190 F k_12 σ x1 = some σ' → ∀ (H : Heap) (locs : List Loc) (ls : Array Slot), Dy g (wM g σ ++ X) s H locs → lv_has ls 3 [(0, .ref (ga g 40)), (1, .int x1)] → W p l e (rmD 3) s m args below meth c H locs 0 0 (QV g below args s (wM g σ' ++ X)) (F0 m 190 ls [])) := by
  have hx := C.1
  have hb := C.2.1
  have hE := C.2.2.2.2.2.2.2.2
  intro σ x1 h H locs ls hd hl
  rw [f_X8_expression_190] at h
  refine lv_iconst (v := 1) hx hb dX8_expression_190 ic_1 ?_
  refine lv_goto (tgt := 195) hx hb dX8_expression_191 (by decide) ?_
  exact w_X8_expression_195 C hr hk_12 σ x1 1 h _ _ _ hd (lv_sub hl [0, 1] rfl)
noncomputable def f_X8_expression_145 (F : Nat) (k_12 : St → Int32 → Int32 → Option St) (σ : St) (x1 : Int32) : Option St :=
  cal (f_X8_is F σ 8) (fun r1 => if r1 = 0 then (cal (f_X8_is F σ 9) (fun r3 => if r3 = 0 then (cal (f_X8_is F σ 10) (fun r5 => if r5 = 0 then (cal (f_X8_is F σ 15) (fun r7 => if r7 = 0 then (cal (f_X8_is F σ 16) (fun r9 => if r9 = 0 then (f_X8_expression_195 F k_12 σ x1 0) else (f_X8_expression_190 F k_12 σ x1))) else (f_X8_expression_190 F k_12 σ x1))) else (f_X8_expression_190 F k_12 σ x1))) else (f_X8_expression_190 F k_12 σ x1))) else (f_X8_expression_190 F k_12 σ x1))
set_option maxRecDepth 100000 in
set_option maxHeartbeats 4000000 in
theorem w_X8_expression_145 {F : Nat} {σ' : St}  (C : Cx g p s m args meth c cX8_expression 3 RX8) (hr : meth.sig.returnType = none)
    {k_12 : St → Int32 → Int32 → Option St} (hk_12 : (∀ (σ : St) (x1 : Int32) (x2 : Int32), k_12 σ x1 x2 = some σ' → ∀ (H : Heap) (locs : List Loc) (ls : Array Slot), Dy g (wM g σ ++ X) s H locs → lv_has ls 3 [(0, .ref (ga g 40)), (1, .int x1), (2, .int x2)] → W p l e (rmD 3) s m args below meth c H locs 0 0 (QV g below args s (wM g σ' ++ X)) (F0 m 12 ls []))) :
    (∀ (σ : St) (x1 : Int32), f_X8_expression_145 F k_12 σ x1 = some σ' → ∀ (H : Heap) (locs : List Loc) (ls : Array Slot), Dy g (wM g σ ++ X) s H locs → lv_has ls 3 [(0, .ref (ga g 40)), (1, .int x1)] → W p l e (rmD 3) s m args below meth c H locs 0 0 (QV g below args s (wM g σ' ++ X)) (F0 m 145 ls [])) := by
  have hx := C.1
  have hb := C.2.1
  have hE := C.2.2.2.2.2.2.2.2
  intro σ x1 h H locs ls hd hl
  rw [f_X8_expression_145] at h
  refine lv_aload_n hx hb dX8_expression_145 rfl (lv_at hl 0 rfl) ?_
  refine lv_bipush (v := 8) hx hb dX8_expression_146 bi_8 ?_
  obtain ⟨r1, er1, h⟩ := cal_e h
  refine rCallI C hd (c_X8_is hE er1) kX8_153 0 rfl rfl rfl rfl hl.1 rfl (Nat.le_of_ble_eq_true rfl) ⟨(Nat.le_of_ble_eq_true rfl), (Nat.le_of_ble_eq_true rfl)⟩ ⟨Nat.le_refl _, Nat.le_refl _⟩ dX8_expression_148 (fun H locs hd => ?_)
  refine lv_if_ne (tgt := 190) hx hb dX8_expression_151 (by decide) (fun c2 => ?_) (fun c2 => ?_)
  · replace h := iteF c2 h
    exact w_X8_expression_190 C hr hk_12 σ x1 h _ _ _ hd (lv_sub hl [0, 1] rfl)
  · replace h := iteT c2 h
    refine lv_aload_n hx hb dX8_expression_154 rfl (lv_at hl 0 rfl) ?_
    refine lv_bipush (v := 9) hx hb dX8_expression_155 bi_9 ?_
    obtain ⟨r3, er3, h⟩ := cal_e h
    refine rCallI C hd (c_X8_is hE er3) kX8_153 0 rfl rfl rfl rfl hl.1 rfl (Nat.le_of_ble_eq_true rfl) ⟨(Nat.le_of_ble_eq_true rfl), (Nat.le_of_ble_eq_true rfl)⟩ ⟨Nat.le_refl _, Nat.le_refl _⟩ dX8_expression_157 (fun H locs hd => ?_)
    refine lv_if_ne (tgt := 190) hx hb dX8_expression_160 (by decide) (fun c4 => ?_) (fun c4 => ?_)
    · replace h := iteF c4 h
      exact w_X8_expression_190 C hr hk_12 σ x1 h _ _ _ hd (lv_sub hl [0, 1] rfl)
    · replace h := iteT c4 h
      refine lv_aload_n hx hb dX8_expression_163 rfl (lv_at hl 0 rfl) ?_
      refine lv_bipush (v := 10) hx hb dX8_expression_164 bi_10 ?_
      obtain ⟨r5, er5, h⟩ := cal_e h
      refine rCallI C hd (c_X8_is hE er5) kX8_153 0 rfl rfl rfl rfl hl.1 rfl (Nat.le_of_ble_eq_true rfl) ⟨(Nat.le_of_ble_eq_true rfl), (Nat.le_of_ble_eq_true rfl)⟩ ⟨Nat.le_refl _, Nat.le_refl _⟩ dX8_expression_166 (fun H locs hd => ?_)
      refine lv_if_ne (tgt := 190) hx hb dX8_expression_169 (by decide) (fun c6 => ?_) (fun c6 => ?_)
      · replace h := iteF c6 h
        exact w_X8_expression_190 C hr hk_12 σ x1 h _ _ _ hd (lv_sub hl [0, 1] rfl)
      · replace h := iteT c6 h
        refine lv_aload_n hx hb dX8_expression_172 rfl (lv_at hl 0 rfl) ?_
        refine lv_bipush (v := 15) hx hb dX8_expression_173 bi_15 ?_
        obtain ⟨r7, er7, h⟩ := cal_e h
        refine rCallI C hd (c_X8_is hE er7) kX8_153 0 rfl rfl rfl rfl hl.1 rfl (Nat.le_of_ble_eq_true rfl) ⟨(Nat.le_of_ble_eq_true rfl), (Nat.le_of_ble_eq_true rfl)⟩ ⟨Nat.le_refl _, Nat.le_refl _⟩ dX8_expression_175 (fun H locs hd => ?_)
        refine lv_if_ne (tgt := 190) hx hb dX8_expression_178 (by decide) (fun c8 => ?_) (fun c8 => ?_)
        · replace h := iteF c8 h
          exact w_X8_expression_190 C hr hk_12 σ x1 h _ _ _ hd (lv_sub hl [0, 1] rfl)
        · replace h := iteT c8 h
          refine lv_aload_n hx hb dX8_expression_181 rfl (lv_at hl 0 rfl) ?_
          refine lv_bipush (v := 16) hx hb dX8_expression_182 bi_16 ?_
          obtain ⟨r9, er9, h⟩ := cal_e h
          refine rCallI C hd (c_X8_is hE er9) kX8_153 0 rfl rfl rfl rfl hl.1 rfl (Nat.le_of_ble_eq_true rfl) ⟨(Nat.le_of_ble_eq_true rfl), (Nat.le_of_ble_eq_true rfl)⟩ ⟨Nat.le_refl _, Nat.le_refl _⟩ dX8_expression_184 (fun H locs hd => ?_)
          refine lv_if_eq (tgt := 194) hx hb dX8_expression_187 (by decide) (fun c10 => ?_) (fun c10 => ?_)
          · replace h := iteT c10 h
            refine lv_iconst (v := 0) hx hb dX8_expression_194 ic_0 ?_
            exact w_X8_expression_195 C hr hk_12 σ x1 0 h _ _ _ hd (lv_sub hl [0, 1] rfl)
          · replace h := iteF c10 h
            exact w_X8_expression_190 C hr hk_12 σ x1 h _ _ _ hd (lv_sub hl [0, 1] rfl)
noncomputable def f_X8_expression_96 (F : Nat) (k_12 : St → Int32 → Int32 → Option St) : Nat → St → Int32 → Option St
  | 0, _, _ => none
  | n + 1, σ, x1 => cal (f_X8_is F σ 7) (fun r1 => if r1 = 0 then (f_X8_expression_145 F k_12 σ x1) else (if (σ.1 5) ≤ x1 then (f_X8_expression_145 F k_12 σ x1) else (cal (f_X8_comesOut F σ 0) (fun t4 => bnd (ss t4 14 ((t4.1 14) - 1)) (fun t5 => bnd (ss t5 5 ((t5.1 5) - 1)) (fun t6 => cal (f_X8_goesOn F t6) (fun t7 => f_X8_expression_96 F k_12 n t7 x1)))))))
set_option maxRecDepth 100000 in
set_option maxHeartbeats 4000000 in
theorem w_X8_expression_96 {F : Nat} {σ' : St}  (C : Cx g p s m args meth c cX8_expression 3 RX8) (hr : meth.sig.returnType = none)
    {k_12 : St → Int32 → Int32 → Option St} (hk_12 : (∀ (σ : St) (x1 : Int32) (x2 : Int32), k_12 σ x1 x2 = some σ' → ∀ (H : Heap) (locs : List Loc) (ls : Array Slot), Dy g (wM g σ ++ X) s H locs → lv_has ls 3 [(0, .ref (ga g 40)), (1, .int x1), (2, .int x2)] → W p l e (rmD 3) s m args below meth c H locs 0 0 (QV g below args s (wM g σ' ++ X)) (F0 m 12 ls []))) :
    (∀ (n : Nat) (σ : St) (x1 : Int32), f_X8_expression_96 F k_12 n σ x1 = some σ' → ∀ (H : Heap) (locs : List Loc) (ls : Array Slot), Dy g (wM g σ ++ X) s H locs → lv_has ls 3 [(0, .ref (ga g 40)), (1, .int x1)] → W p l e (rmD 3) s m args below meth c H locs 0 0 (QV g below args s (wM g σ' ++ X)) (F0 m 96 ls [])) := by
  have hx := C.1
  have hb := C.2.1
  have hE := C.2.2.2.2.2.2.2.2
  intro n
  induction n with
  | zero =>
    intro σ x1 h
    cases h
  | succ n ih =>
    intro σ x1 h H locs ls hd hl
    rw [f_X8_expression_96] at h
    refine lv_aload_n hx hb dX8_expression_96 rfl (lv_at hl 0 rfl) ?_
    refine lv_bipush (v := 7) hx hb dX8_expression_97 bi_7 ?_
    obtain ⟨r1, er1, h⟩ := cal_e h
    refine rCallI C hd (c_X8_is hE er1) kX8_153 0 rfl rfl rfl rfl hl.1 rfl (Nat.le_of_ble_eq_true rfl) ⟨(Nat.le_of_ble_eq_true rfl), (Nat.le_of_ble_eq_true rfl)⟩ ⟨Nat.le_refl _, Nat.le_refl _⟩ dX8_expression_99 (fun H locs hd => ?_)
    refine lv_if_eq (tgt := 145) hx hb dX8_expression_102 (by decide) (fun c2 => ?_) (fun c2 => ?_)
    · replace h := iteT c2 h
      exact w_X8_expression_145 C hr hk_12 σ x1 h _ _ _ hd (lv_sub hl [0, 1] rfl)
    · replace h := iteF c2 h
      refine lv_aload_n hx hb dX8_expression_105 rfl (lv_at hl 0 rfl) ?_
      refine gX8_162 C hd dX8_expression_106 ?_
      refine lv_iload_n hx hb dX8_expression_109 rfl (lv_at hl 1 rfl) ?_
      refine lv_icmp_le (tgt := 145) hx hb dX8_expression_110 (by decide) (fun c3 => ?_) (fun c3 => ?_)
      · replace h := iteT c3 h
        exact w_X8_expression_145 C hr hk_12 σ x1 h _ _ _ hd (lv_sub hl [0, 1] rfl)
      · replace h := iteF c3 h
        refine lv_aload_n hx hb dX8_expression_113 rfl (lv_at hl 0 rfl) ?_
        refine lv_iconst (v := 0) hx hb dX8_expression_114 ic_0 ?_
        obtain ⟨t4, et4, h⟩ := cal_e h
        refine rCallV C hd (c_X8_comesOut hE et4) kX8_213 0 rfl rfl rfl rfl hl.1 rfl (Nat.le_of_ble_eq_true rfl) ⟨(Nat.le_of_ble_eq_true rfl), (Nat.le_of_ble_eq_true rfl)⟩ ⟨Nat.le_refl _, Nat.le_refl _⟩ dX8_expression_115 (fun H locs hd => ?_)
        refine lv_aload_n hx hb dX8_expression_118 rfl (lv_at hl 0 rfl) ?_
        refine lv_dup hx hb dX8_expression_119 rfl ?_
        refine gX8_204 C hd dX8_expression_120 ?_
        refine lv_iconst (v := 1) hx hb dX8_expression_123 ic_1 ?_
        refine lv_isub hx hb dX8_expression_124 ?_
        obtain ⟨t5, et5, h⟩ := bnd_e h
        refine pX8_204 C hd et5 dX8_expression_125 (fun H locs hd => ?_)
        refine lv_aload_n hx hb dX8_expression_128 rfl (lv_at hl 0 rfl) ?_
        refine lv_dup hx hb dX8_expression_129 rfl ?_
        refine gX8_162 C hd dX8_expression_130 ?_
        refine lv_iconst (v := 1) hx hb dX8_expression_133 ic_1 ?_
        refine lv_isub hx hb dX8_expression_134 ?_
        obtain ⟨t6, et6, h⟩ := bnd_e h
        refine pX8_162 C hd et6 dX8_expression_135 (fun H locs hd => ?_)
        refine lv_aload_n hx hb dX8_expression_138 rfl (lv_at hl 0 rfl) ?_
        obtain ⟨t7, et7, h⟩ := cal_e h
        refine rCallV C hd (c_X8_goesOn hE et7) kX8_156 0 rfl rfl rfl rfl hl.1 rfl (Nat.le_of_ble_eq_true rfl) ⟨(Nat.le_of_ble_eq_true rfl), (Nat.le_of_ble_eq_true rfl)⟩ ⟨Nat.le_refl _, Nat.le_refl _⟩ dX8_expression_139 (fun H locs hd => ?_)
        refine lv_goto (tgt := 96) hx hb dX8_expression_142 (by decide) ?_
        exact ih t7 x1 h _ _ _ hd (lv_sub hl [0, 1] rfl)
noncomputable def f_X8_expression_46 (F : Nat) (k_23 : St → Int32 → Option St) (σ : St) (x1 : Int32) : Option St :=
  bnd (ss σ 5 ((σ.1 5) + 1)) (fun t1 => cal (f_X8_goesOn F t1) (fun t2 => if inb (t2.1 14) 64 = true then bnd (sr t2 15 (t2.1 14).toNatClampNeg 6) (fun t4 => bnd (ss t4 14 ((t4.1 14) + 1)) (fun t5 => k_23 t5 x1)) else none))
set_option maxRecDepth 100000 in
set_option maxHeartbeats 4000000 in
theorem w_X8_expression_46 {F : Nat} {σ' : St}  (C : Cx g p s m args meth c cX8_expression 3 RX8) (hr : meth.sig.returnType = none)
    {k_23 : St → Int32 → Option St} (hk_23 : (∀ (σ : St) (x1 : Int32), k_23 σ x1 = some σ' → ∀ (H : Heap) (locs : List Loc) (ls : Array Slot), Dy g (wM g σ ++ X) s H locs → lv_has ls 3 [(0, .ref (ga g 40)), (1, .int x1)] → W p l e (rmD 3) s m args below meth c H locs 0 0 (QV g below args s (wM g σ' ++ X)) (F0 m 23 ls []))) :
    (∀ (σ : St) (x1 : Int32), f_X8_expression_46 F k_23 σ x1 = some σ' → ∀ (H : Heap) (locs : List Loc) (ls : Array Slot), Dy g (wM g σ ++ X) s H locs → lv_has ls 3 [(0, .ref (ga g 40)), (1, .int x1)] → W p l e (rmD 3) s m args below meth c H locs 0 0 (QV g below args s (wM g σ' ++ X)) (F0 m 46 ls [])) := by
  have hx := C.1
  have hb := C.2.1
  have hE := C.2.2.2.2.2.2.2.2
  intro σ x1 h H locs ls hd hl
  rw [f_X8_expression_46] at h
  refine lv_aload_n hx hb dX8_expression_46 rfl (lv_at hl 0 rfl) ?_
  refine lv_dup hx hb dX8_expression_47 rfl ?_
  refine gX8_162 C hd dX8_expression_48 ?_
  refine lv_iconst (v := 1) hx hb dX8_expression_51 ic_1 ?_
  refine lv_iadd hx hb dX8_expression_52 ?_
  obtain ⟨t1, et1, h⟩ := bnd_e h
  refine pX8_162 C hd et1 dX8_expression_53 (fun H locs hd => ?_)
  refine lv_aload_n hx hb dX8_expression_56 rfl (lv_at hl 0 rfl) ?_
  obtain ⟨t2, et2, h⟩ := cal_e h
  refine rCallV C hd (c_X8_goesOn hE et2) kX8_156 0 rfl rfl rfl rfl hl.1 rfl (Nat.le_of_ble_eq_true rfl) ⟨(Nat.le_of_ble_eq_true rfl), (Nat.le_of_ble_eq_true rfl)⟩ ⟨Nat.le_refl _, Nat.le_refl _⟩ dX8_expression_57 (fun H locs hd => ?_)
  refine lv_aload_n hx hb dX8_expression_60 rfl (lv_at hl 0 rfl) ?_
  refine gX8_61 C hd dX8_expression_61 ?_
  refine lv_aload_n hx hb dX8_expression_64 rfl (lv_at hl 0 rfl) ?_
  refine gX8_204 C hd dX8_expression_65 ?_
  refine lv_bipush (v := 6) hx hb dX8_expression_68 bi_6 ?_
  obtain ⟨n3, h⟩ := chk h
  obtain ⟨t4, et4, h⟩ := bnd_e h
  refine st_wM_15 C hd (inb_i n3) et4 dX8_expression_70 (fun H locs hd => ?_)
  refine lv_aload_n hx hb dX8_expression_71 rfl (lv_at hl 0 rfl) ?_
  refine lv_dup hx hb dX8_expression_72 rfl ?_
  refine gX8_204 C hd dX8_expression_73 ?_
  refine lv_iconst (v := 1) hx hb dX8_expression_76 ic_1 ?_
  refine lv_iadd hx hb dX8_expression_77 ?_
  obtain ⟨t5, et5, h⟩ := bnd_e h
  refine pX8_204 C hd et5 dX8_expression_78 (fun H locs hd => ?_)
  refine lv_goto (tgt := 23) hx hb dX8_expression_81 (by decide) ?_
  exact hk_23 t5 x1 h _ _ _ hd (lv_sub hl [0, 1] rfl)
noncomputable def f_X8_expression_23 (F : Nat) (k_12 : St → Int32 → Int32 → Option St) : Nat → St → Int32 → Option St
  | 0, _, _ => none
  | n + 1, σ, x1 => cal (f_X8_is F σ 6) (fun r1 => if r1 = 0 then (cal (f_X8_unit F σ) (fun t3 => if (t3.1 6) ≤ 0 then (f_X8_expression_96 F k_12 F t3 x1) else (some t3))) else (if (σ.1 5) = 6 then (cal (f_X8_fail F σ 2) (fun t6 => f_X8_expression_46 F (f_X8_expression_23 F k_12 n) t6 x1)) else (f_X8_expression_46 F (f_X8_expression_23 F k_12 n) σ x1)))
set_option maxRecDepth 100000 in
set_option maxHeartbeats 4000000 in
theorem w_X8_expression_23 {F : Nat} {σ' : St}  (C : Cx g p s m args meth c cX8_expression 3 RX8) (hr : meth.sig.returnType = none)
    {k_12 : St → Int32 → Int32 → Option St} (hk_12 : (∀ (σ : St) (x1 : Int32) (x2 : Int32), k_12 σ x1 x2 = some σ' → ∀ (H : Heap) (locs : List Loc) (ls : Array Slot), Dy g (wM g σ ++ X) s H locs → lv_has ls 3 [(0, .ref (ga g 40)), (1, .int x1), (2, .int x2)] → W p l e (rmD 3) s m args below meth c H locs 0 0 (QV g below args s (wM g σ' ++ X)) (F0 m 12 ls []))) :
    (∀ (n : Nat) (σ : St) (x1 : Int32), f_X8_expression_23 F k_12 n σ x1 = some σ' → ∀ (H : Heap) (locs : List Loc) (ls : Array Slot), Dy g (wM g σ ++ X) s H locs → lv_has ls 3 [(0, .ref (ga g 40)), (1, .int x1)] → W p l e (rmD 3) s m args below meth c H locs 0 0 (QV g below args s (wM g σ' ++ X)) (F0 m 23 ls [])) := by
  have hx := C.1
  have hb := C.2.1
  have hE := C.2.2.2.2.2.2.2.2
  intro n
  induction n with
  | zero =>
    intro σ x1 h
    cases h
  | succ n ih =>
    intro σ x1 h H locs ls hd hl
    rw [f_X8_expression_23] at h
    refine lv_aload_n hx hb dX8_expression_23 rfl (lv_at hl 0 rfl) ?_
    refine lv_bipush (v := 6) hx hb dX8_expression_24 bi_6 ?_
    obtain ⟨r1, er1, h⟩ := cal_e h
    refine rCallI C hd (c_X8_is hE er1) kX8_153 0 rfl rfl rfl rfl hl.1 rfl (Nat.le_of_ble_eq_true rfl) ⟨(Nat.le_of_ble_eq_true rfl), (Nat.le_of_ble_eq_true rfl)⟩ ⟨Nat.le_refl _, Nat.le_refl _⟩ dX8_expression_26 (fun H locs hd => ?_)
    refine lv_if_eq (tgt := 84) hx hb dX8_expression_29 (by decide) (fun c2 => ?_) (fun c2 => ?_)
    · replace h := iteT c2 h
      refine lv_aload_n hx hb dX8_expression_84 rfl (lv_at hl 0 rfl) ?_
      obtain ⟨t3, et3, h⟩ := cal_e h
      refine rCallV C hd (c_X8_unit hE et3) kX8_210 0 rfl rfl rfl rfl hl.1 rfl (Nat.le_of_ble_eq_true rfl) ⟨(Nat.le_of_ble_eq_true rfl), (Nat.le_of_ble_eq_true rfl)⟩ ⟨Nat.le_refl _, Nat.le_refl _⟩ dX8_expression_85 (fun H locs hd => ?_)
      refine lv_aload_n hx hb dX8_expression_88 rfl (lv_at hl 0 rfl) ?_
      refine gX8_135 C hd dX8_expression_89 ?_
      refine lv_if_le (tgt := 96) hx hb dX8_expression_92 (by decide) (fun c4 => ?_) (fun c4 => ?_)
      · replace h := iteT c4 h
        exact w_X8_expression_96 C hr hk_12 _ t3 x1 h _ _ _ hd (lv_sub hl [0, 1] rfl)
      · replace h := iteF c4 h
        exact rVretS (w := wM g) C hr hd h dX8_expression_95
    · replace h := iteF c2 h
      refine lv_aload_n hx hb dX8_expression_32 rfl (lv_at hl 0 rfl) ?_
      refine gX8_162 C hd dX8_expression_33 ?_
      refine lv_bipush (v := 6) hx hb dX8_expression_36 bi_6 ?_
      refine lv_icmp_ne (tgt := 46) hx hb dX8_expression_38 (by decide) (fun c5 => ?_) (fun c5 => ?_)
      · replace h := iteF c5 h
        exact w_X8_expression_46 C hr ih σ x1 h _ _ _ hd (lv_sub hl [0, 1] rfl)
      · replace h := iteT c5 h
        refine lv_aload_n hx hb dX8_expression_41 rfl (lv_at hl 0 rfl) ?_
        refine lv_iconst (v := 2) hx hb dX8_expression_42 ic_2 ?_
        obtain ⟨t6, et6, h⟩ := cal_e h
        refine rCallV C hd (c_X8_fail hE et6) kX8_150 0 rfl rfl rfl rfl hl.1 rfl (Nat.le_of_ble_eq_true rfl) ⟨(Nat.le_of_ble_eq_true rfl), (Nat.le_of_ble_eq_true rfl)⟩ ⟨Nat.le_refl _, Nat.le_refl _⟩ dX8_expression_43 (fun H locs hd => ?_)
        exact w_X8_expression_46 C hr ih t6 x1 h _ _ _ hd (lv_sub hl [0, 1] rfl)
noncomputable def f_X8_expression_12 (F : Nat) : Nat → St → Int32 → Int32 → Option St
  | 0, _, _, _ => none
  | n + 1, σ, x1, x2 => if x2 = 0 then (some σ) else (if (σ.1 6) = 0 then (f_X8_expression_23 F (f_X8_expression_12 F n) F σ x1) else (some σ))
set_option maxRecDepth 100000 in
set_option maxHeartbeats 4000000 in
theorem w_X8_expression_12 {F : Nat} {σ' : St}  (C : Cx g p s m args meth c cX8_expression 3 RX8) (hr : meth.sig.returnType = none) :
    (∀ (n : Nat) (σ : St) (x1 : Int32) (x2 : Int32), f_X8_expression_12 F n σ x1 x2 = some σ' → ∀ (H : Heap) (locs : List Loc) (ls : Array Slot), Dy g (wM g σ ++ X) s H locs → lv_has ls 3 [(0, .ref (ga g 40)), (1, .int x1), (2, .int x2)] → W p l e (rmD 3) s m args below meth c H locs 0 0 (QV g below args s (wM g σ' ++ X)) (F0 m 12 ls [])) := by
  have hx := C.1
  have hb := C.2.1
  have hE := C.2.2.2.2.2.2.2.2
  intro n
  induction n with
  | zero =>
    intro σ x1 x2 h
    cases h
  | succ n ih =>
    intro σ x1 x2 h H locs ls hd hl
    rw [f_X8_expression_12] at h
    refine lv_iload_n hx hb dX8_expression_12 rfl (lv_at hl 2 rfl) ?_
    refine lv_if_eq (tgt := 290) hx hb dX8_expression_13 (by decide) (fun c1 => ?_) (fun c1 => ?_)
    · replace h := iteT c1 h
      exact rVretS (w := wM g) C hr hd h dX8_expression_290
    · replace h := iteF c1 h
      refine lv_aload_n hx hb dX8_expression_16 rfl (lv_at hl 0 rfl) ?_
      refine gX8_135 C hd dX8_expression_17 ?_
      refine lv_if_ne (tgt := 290) hx hb dX8_expression_20 (by decide) (fun c2 => ?_) (fun c2 => ?_)
      · replace h := iteF c2 h
        exact rVretS (w := wM g) C hr hd h dX8_expression_290
      · replace h := iteT c2 h
        exact w_X8_expression_23 C hr ih _ σ x1 h _ _ _ hd (lv_sub hl [0, 1] rfl)
noncomputable def f_X8_expression (F : Nat) (σ : St) : Option St :=
  bnd (ss σ 14 0) (fun t1 => bnd (t1.1 5) (fun v2 => f_X8_expression_12 F F t1 v2 1))
set_option maxRecDepth 100000 in
set_option maxHeartbeats 4000000 in
theorem c_X8_expression {l : Launch} {g : Gp} {X : va_W} (hE : E0 g) {F : Nat} {σ' : St} {σ : St} (h : f_X8_expression F σ = some σ') : Cv l g yX8_expression cX8_expression 3 3 [.ref (ga g 40)] (wM g σ ++ X) (wM g σ' ++ X) := by
  refine rHead hE (by decide +kernel) (Nat.le_of_ble_eq_true rfl) (fun p e s m below meth c C hr _ hd ls hl => ?_)
  have hx := C.1
  have hb := C.2.1
  have hl : lv_has ls 3 [(0, .ref (ga g 40))] := hl
  generalize ([.ref (ga g 40)] : List Value).toArray = args at C ⊢
  have C : Cx g p s m args meth c cX8_expression 3 RX8 := C
  rw [f_X8_expression] at h
  refine lv_aload_n hx hb dX8_expression_0 rfl (lv_at hl 0 rfl) ?_
  refine lv_iconst (v := 0) hx hb dX8_expression_1 ic_0 ?_
  obtain ⟨t1, et1, h⟩ := bnd_e h
  refine pX8_204 C hd et1 dX8_expression_2 (fun H locs hd => ?_)
  refine lv_aload_n hx hb dX8_expression_5 rfl (lv_at hl 0 rfl) ?_
  refine gX8_162 C hd dX8_expression_6 ?_
  obtain ⟨v2, ev2, h⟩ := bnd_e h
  refine rTop ev2 ?_
  refine lv_istore_n (lv' := [(1, .int v2), (0, .ref (ga g 40))]) hx hb dX8_expression_9 rfl hl (Nat.le_of_ble_eq_true rfl) rfl (fun ls hl => ?_)
  refine lv_iconst (v := 1) hx hb dX8_expression_10 ic_1 ?_
  refine lv_istore_n (lv' := [(2, .int 1), (1, .int v2), (0, .ref (ga g 40))]) hx hb dX8_expression_11 rfl hl (Nat.le_of_ble_eq_true rfl) rfl (fun ls hl => ?_)
  exact w_X8_expression_12 C hr _ t1 v2 1 h _ _ _ hd (lv_sub hl [2, 1, 0] rfl)
noncomputable def f_X8_lays_3 (F : Nat) : Nat → St → Int32 → Int32 → Option St
  | 0, _, _, _ => none
  | n + 1, σ, x1, x2 => if x2 < 0 then (some σ) else (if inb (σ.1 1) 2000 = true then bnd (sr σ 1 (σ.1 1).toNatClampNeg (vp_nar .byte (Int8.toInt32 (Int32.toInt8 (x1 >>> (x2 &&& 31)))))) (fun t3 => bnd (ss t3 1 ((t3.1 1) + 1)) (fun t4 => bnd (x2 + (-8 : Int32)) (fun v5 => f_X8_lays_3 F n t4 x1 v5))) else none)
set_option maxRecDepth 100000 in
set_option maxHeartbeats 4000000 in
theorem w_X8_lays_3 {F : Nat} {σ' : St}  (C : Cx g p s m args meth c cX8_lays 3 RX8) (hr : meth.sig.returnType = none) :
    (∀ (n : Nat) (σ : St) (x1 : Int32) (x2 : Int32), f_X8_lays_3 F n σ x1 x2 = some σ' → ∀ (H : Heap) (locs : List Loc) (ls : Array Slot), Dy g (wM g σ ++ X) s H locs → lv_has ls 3 [(0, .ref (ga g 40)), (1, .int x1), (2, .int x2)] → W p l e (rmD 0) s m args below meth c H locs 0 0 (QV g below args s (wM g σ' ++ X)) (F0 m 3 ls [])) := by
  have hx := C.1
  have hb := C.2.1
  have hE := C.2.2.2.2.2.2.2.2
  intro n
  induction n with
  | zero =>
    intro σ x1 x2 h
    cases h
  | succ n ih =>
    intro σ x1 x2 h H locs ls hd hl
    rw [f_X8_lays_3] at h
    refine lv_iload_n hx hb dX8_lays_3 rfl (lv_at hl 2 rfl) ?_
    refine lv_if_lt (tgt := 36) hx hb dX8_lays_4 (by decide) (fun c1 => ?_) (fun c1 => ?_)
    · replace h := iteT c1 h
      exact rVretS (w := wM g) C hr hd h dX8_lays_36
    · replace h := iteF c1 h
      refine lv_aload_n hx hb dX8_lays_7 rfl (lv_at hl 0 rfl) ?_
      refine gX8_13 C hd dX8_lays_8 ?_
      refine lv_aload_n hx hb dX8_lays_11 rfl (lv_at hl 0 rfl) ?_
      refine gX8_97 C hd dX8_lays_12 ?_
      refine lv_iload_n hx hb dX8_lays_15 rfl (lv_at hl 1 rfl) ?_
      refine lv_iload_n hx hb dX8_lays_16 rfl (lv_at hl 2 rfl) ?_
      refine lv_ishr hx hb dX8_lays_17 ?_
      refine lv_i2b hx hb dX8_lays_18 rfl ?_
      obtain ⟨n2, h⟩ := chk h
      obtain ⟨t3, et3, h⟩ := bnd_e h
      refine st_wM_1 C hd (inb_i n2) et3 dX8_lays_19 (fun H locs hd => ?_)
      refine lv_aload_n hx hb dX8_lays_20 rfl (lv_at hl 0 rfl) ?_
      refine lv_dup hx hb dX8_lays_21 rfl ?_
      refine gX8_97 C hd dX8_lays_22 ?_
      refine lv_iconst (v := 1) hx hb dX8_lays_25 ic_1 ?_
      refine lv_iadd hx hb dX8_lays_26 ?_
      obtain ⟨t4, et4, h⟩ := bnd_e h
      refine pX8_97 C hd et4 dX8_lays_27 (fun H locs hd => ?_)
      obtain ⟨v5, ev5, h⟩ := bnd_e h
      refine lv_iinc (v := v5) (lv' := [(2, .int v5), (0, .ref (ga g 40)), (1, .int x1)]) hx hb dX8_lays_30 hl (k := 2) rfl ((ii_m8 _).trans ev5.symm) (Nat.le_of_ble_eq_true rfl) rfl (fun ls hl => ?_)
      refine lv_goto (tgt := 3) hx hb dX8_lays_33 (by decide) ?_
      exact ih t4 x1 v5 h _ _ _ hd (lv_sub hl [1, 2, 0] rfl)
noncomputable def f_X8_lays (F : Nat) (σ : St) (x1 : Int32) : Option St :=
  f_X8_lays_3 F F σ x1 24
set_option maxRecDepth 100000 in
set_option maxHeartbeats 4000000 in
theorem c_X8_lays {l : Launch} {g : Gp} {X : va_W} (hE : E0 g) {F : Nat} {σ' : St} {σ : St} {x1 : Int32} (h : f_X8_lays F σ x1 = some σ') : Cv l g yX8_lays cX8_lays 3 0 [.ref (ga g 40), .int x1] (wM g σ ++ X) (wM g σ' ++ X) := by
  refine rHead hE (by decide +kernel) (Nat.le_of_ble_eq_true rfl) (fun p e s m below meth c C hr _ hd ls hl => ?_)
  have hx := C.1
  have hb := C.2.1
  have hl : lv_has ls 3 [(0, .ref (ga g 40)), (1, .int x1)] := hl
  generalize ([.ref (ga g 40), .int x1] : List Value).toArray = args at C ⊢
  have C : Cx g p s m args meth c cX8_lays 3 RX8 := C
  rw [f_X8_lays] at h
  refine lv_bipush (v := 24) hx hb dX8_lays_0 bi_24 ?_
  refine lv_istore_n (lv' := [(2, .int 24), (0, .ref (ga g 40)), (1, .int x1)]) hx hb dX8_lays_2 rfl hl (Nat.le_of_ble_eq_true rfl) rfl (fun ls hl => ?_)
  exact w_X8_lays_3 C hr _ σ x1 24 h _ _ _ hd (lv_sub hl [1, 2, 0] rfl)
noncomputable def f_X8_feed (F : Nat) (σ : St) (x1 : Int32) (x2 : Int32) (x3 : Int32) (x4 : Int32) (x5 : Int32) : Option (Int32 × St) :=
  if ((σ.1 1) + 20) ≤ 2000 then (cal (f_X8_lays F σ x1) (fun t2 => cal (f_X8_lays F t2 x2) (fun t3 => cal (f_X8_lays F t3 x3) (fun t4 => cal (f_X8_lays F t4 x4) (fun t5 => cal (f_X8_lays F t5 x5) (fun t6 => some ((t6.1 1), t6))))))) else (some ((-1 : Int32), σ))
set_option maxRecDepth 100000 in
set_option maxHeartbeats 4000000 in
theorem c_X8_feed {l : Launch} {g : Gp} {X : va_W} (hE : E0 g) {F : Nat} {r' : Int32} {σ' : St} {σ : St} {x1 : Int32} {x2 : Int32} {x3 : Int32} {x4 : Int32} {x5 : Int32} (h : f_X8_feed F σ x1 x2 x3 x4 x5 = some (r', σ')) : Ci l g yX8_feed cX8_feed 6 (some .int) 1 [.ref (ga g 40), .int x1, .int x2, .int x3, .int x4, .int x5] (wM g σ ++ X) r' (wM g σ' ++ X) := by
  refine rHead hE (by decide +kernel) (Nat.le_of_ble_eq_true rfl) (fun p e s m below meth c C hr _ hd ls hl => ?_)
  have hx := C.1
  have hb := C.2.1
  have hl : lv_has ls 6 [(0, .ref (ga g 40)), (1, .int x1), (2, .int x2), (3, .int x3), (4, .int x4), (5, .int x5)] := hl
  generalize ([.ref (ga g 40), .int x1, .int x2, .int x3, .int x4, .int x5] : List Value).toArray = args at C ⊢
  have C : Cx g p s m args meth c cX8_feed 6 RX8 := C
  rw [f_X8_feed] at h
  refine lv_aload_n hx hb dX8_feed_0 rfl (lv_at hl 0 rfl) ?_
  refine gX8_97 C hd dX8_feed_1 ?_
  refine lv_bipush (v := 20) hx hb dX8_feed_4 bi_20 ?_
  refine lv_iadd hx hb dX8_feed_6 ?_
  refine lv_sipush (v := 2000) hx hb dX8_feed_7 si_2000 ?_
  refine lv_icmp_le (tgt := 15) hx hb dX8_feed_10 (by decide) (fun c1 => ?_) (fun c1 => ?_)
  · replace h := iteT c1 h
    refine lv_aload_n hx hb dX8_feed_15 rfl (lv_at hl 0 rfl) ?_
    refine lv_iload_n hx hb dX8_feed_16 rfl (lv_at hl 1 rfl) ?_
    obtain ⟨t2, et2, h⟩ := cal_e h
    refine rCallV C hd (c_X8_lays hE et2) kX8_100 0 rfl rfl rfl rfl hl.1 rfl (Nat.le_of_ble_eq_true rfl) ⟨(Nat.le_of_ble_eq_true rfl), (Nat.le_of_ble_eq_true rfl)⟩ ⟨Nat.le_refl _, Nat.le_refl _⟩ dX8_feed_17 (fun H locs hd => ?_)
    refine lv_aload_n hx hb dX8_feed_20 rfl (lv_at hl 0 rfl) ?_
    refine lv_iload_n hx hb dX8_feed_21 rfl (lv_at hl 2 rfl) ?_
    obtain ⟨t3, et3, h⟩ := cal_e h
    refine rCallV C hd (c_X8_lays hE et3) kX8_100 0 rfl rfl rfl rfl hl.1 rfl (Nat.le_of_ble_eq_true rfl) ⟨(Nat.le_of_ble_eq_true rfl), (Nat.le_of_ble_eq_true rfl)⟩ ⟨Nat.le_refl _, Nat.le_refl _⟩ dX8_feed_22 (fun H locs hd => ?_)
    refine lv_aload_n hx hb dX8_feed_25 rfl (lv_at hl 0 rfl) ?_
    refine lv_iload_n hx hb dX8_feed_26 rfl (lv_at hl 3 rfl) ?_
    obtain ⟨t4, et4, h⟩ := cal_e h
    refine rCallV C hd (c_X8_lays hE et4) kX8_100 0 rfl rfl rfl rfl hl.1 rfl (Nat.le_of_ble_eq_true rfl) ⟨(Nat.le_of_ble_eq_true rfl), (Nat.le_of_ble_eq_true rfl)⟩ ⟨Nat.le_refl _, Nat.le_refl _⟩ dX8_feed_27 (fun H locs hd => ?_)
    refine lv_aload_n hx hb dX8_feed_30 rfl (lv_at hl 0 rfl) ?_
    refine lv_iload hx hb dX8_feed_31 (lv_at hl 4 rfl) ?_
    obtain ⟨t5, et5, h⟩ := cal_e h
    refine rCallV C hd (c_X8_lays hE et5) kX8_100 0 rfl rfl rfl rfl hl.1 rfl (Nat.le_of_ble_eq_true rfl) ⟨(Nat.le_of_ble_eq_true rfl), (Nat.le_of_ble_eq_true rfl)⟩ ⟨Nat.le_refl _, Nat.le_refl _⟩ dX8_feed_33 (fun H locs hd => ?_)
    refine lv_aload_n hx hb dX8_feed_36 rfl (lv_at hl 0 rfl) ?_
    refine lv_iload hx hb dX8_feed_37 (lv_at hl 5 rfl) ?_
    obtain ⟨t6, et6, h⟩ := cal_e h
    refine rCallV C hd (c_X8_lays hE et6) kX8_100 0 rfl rfl rfl rfl hl.1 rfl (Nat.le_of_ble_eq_true rfl) ⟨(Nat.le_of_ble_eq_true rfl), (Nat.le_of_ble_eq_true rfl)⟩ ⟨Nat.le_refl _, Nat.le_refl _⟩ dX8_feed_39 (fun H locs hd => ?_)
    refine lv_aload_n hx hb dX8_feed_42 rfl (lv_at hl 0 rfl) ?_
    refine gX8_97 C hd dX8_feed_43 ?_
    exact rIretS (w := wM g) C hr hd h dX8_feed_46
  · replace h := iteF c1 h
    refine lv_iconst (v := (-1 : Int32)) hx hb dX8_feed_13 ic_m1 ?_
    exact rIretS (w := wM g) C hr hd h dX8_feed_14
noncomputable def f_X8_fill_47 (F : Nat) : Nat → St → Int32 → Int32 → Option (Int32 × St)
  | 0, _, _, _ => none
  | n + 1, σ, x2, x3 => if x2 ≤ x3 then (some (x2, σ)) else (cal2 (f_X8_comes F σ 3 (-2 : Int32) 0) (fun r2 t3 => bnd (x3 + 1) (fun v4 => f_X8_fill_47 F n t3 x2 v4)))
set_option maxRecDepth 100000 in
set_option maxHeartbeats 4000000 in
theorem w_X8_fill_47 {F : Nat} {r' : Int32} {σ' : St}  (C : Cx g p s m args meth c cX8_fill 4 RX8) (hr : meth.sig.returnType = some .int) :
    (∀ (n : Nat) (σ : St) (x2 : Int32) (x3 : Int32), f_X8_fill_47 F n σ x2 x3 = some (r', σ') → ∀ (H : Heap) (locs : List Loc) (ls : Array Slot), Dy g (wM g σ ++ X) s H locs → lv_has ls 4 [(0, .ref (ga g 40)), (2, .int x2), (3, .int x3)] → W p l e (rmD 3) s m args below meth c H locs 0 0 (QI g below args s (wM g σ' ++ X) r') (F0 m 47 ls [])) := by
  have hx := C.1
  have hb := C.2.1
  have hE := C.2.2.2.2.2.2.2.2
  intro n
  induction n with
  | zero =>
    intro σ x2 x3 h
    cases h
  | succ n ih =>
    intro σ x2 x3 h H locs ls hd hl
    rw [f_X8_fill_47] at h
    refine lv_iload_n hx hb dX8_fill_47 rfl (lv_at hl 2 rfl) ?_
    refine lv_iload_n hx hb dX8_fill_48 rfl (lv_at hl 1 rfl) ?_
    refine lv_icmp_ge (tgt := 67) hx hb dX8_fill_49 (by decide) (fun c1 => ?_) (fun c1 => ?_)
    · replace h := iteT c1 h
      refine lv_iload_n hx hb dX8_fill_67 rfl (lv_at hl 1 rfl) ?_
      exact rIretS (w := wM g) C hr hd h dX8_fill_68
    · replace h := iteF c1 h
      refine lv_aload_n hx hb dX8_fill_52 rfl (lv_at hl 0 rfl) ?_
      refine lv_iconst (v := 3) hx hb dX8_fill_53 ic_3 ?_
      refine lv_bipush (v := (-2 : Int32)) hx hb dX8_fill_54 bi_m2 ?_
      refine lv_iconst (v := 0) hx hb dX8_fill_56 ic_0 ?_
      obtain ⟨r2, t3, et3, h⟩ := cal2_e h
      refine rCallI C hd (c_X8_comes hE et3) kX8_337 0 rfl rfl rfl rfl hl.1 rfl (Nat.le_of_ble_eq_true rfl) ⟨(Nat.le_of_ble_eq_true rfl), (Nat.le_of_ble_eq_true rfl)⟩ ⟨Nat.le_refl _, Nat.le_refl _⟩ dX8_fill_57 (fun H locs hd => ?_)
      refine lv_pop hx hb dX8_fill_60 rfl ?_
      obtain ⟨v4, ev4, h⟩ := bnd_e h
      refine lv_iinc (v := v4) (lv' := [(3, .int v4), (0, .ref (ga g 40)), (2, .int x2)]) hx hb dX8_fill_61 hl (k := 2) rfl ((ii_1 _).trans ev4.symm) (Nat.le_of_ble_eq_true rfl) rfl (fun ls hl => ?_)
      refine lv_goto (tgt := 47) hx hb dX8_fill_64 (by decide) ?_
      exact ih t3 x2 v4 h _ _ _ hd (lv_sub hl [1, 2, 0] rfl)
noncomputable def f_X8_fill_34 (F : Nat) (σ : St) (y0 : Int32) : Option (Int32 × St) :=
  cal (f_X8_hasRoom F σ y0) (fun r1 => if r1 = 0 then (some ((-1 : Int32), σ)) else (f_X8_fill_47 F F σ y0 0))
set_option maxRecDepth 100000 in
set_option maxHeartbeats 4000000 in
theorem w_X8_fill_34 {F : Nat} {r' : Int32} {σ' : St}  (C : Cx g p s m args meth c cX8_fill 4 RX8) (hr : meth.sig.returnType = some .int) :
    (∀ (σ : St) (y0 : Int32), f_X8_fill_34 F σ y0 = some (r', σ') → ∀ (H : Heap) (locs : List Loc) (ls : Array Slot), Dy g (wM g σ ++ X) s H locs → lv_has ls 4 [(0, .ref (ga g 40))] → W p l e (rmD 3) s m args below meth c H locs 0 0 (QI g below args s (wM g σ' ++ X) r') (F0 m 34 ls [.int y0])) := by
  have hx := C.1
  have hb := C.2.1
  have hE := C.2.2.2.2.2.2.2.2
  intro σ y0 h H locs ls hd hl
  rw [f_X8_fill_34] at h
  refine lv_istore_n (lv' := [(2, .int y0), (0, .ref (ga g 40))]) hx hb dX8_fill_34 rfl hl (Nat.le_of_ble_eq_true rfl) rfl (fun ls hl => ?_)
  refine lv_aload_n hx hb dX8_fill_35 rfl (lv_at hl 1 rfl) ?_
  refine lv_iload_n hx hb dX8_fill_36 rfl (lv_at hl 0 rfl) ?_
  obtain ⟨r1, er1, h⟩ := cal_e h
  refine rCallI C hd (c_X8_hasRoom hE er1) kX8_274 0 rfl rfl rfl rfl hl.1 rfl (Nat.le_of_ble_eq_true rfl) ⟨(Nat.le_of_ble_eq_true rfl), (Nat.le_of_ble_eq_true rfl)⟩ ⟨Nat.le_refl _, Nat.le_refl _⟩ dX8_fill_37 (fun H locs hd => ?_)
  refine lv_if_ne (tgt := 45) hx hb dX8_fill_40 (by decide) (fun c2 => ?_) (fun c2 => ?_)
  · replace h := iteF c2 h
    refine lv_iconst (v := 0) hx hb dX8_fill_45 ic_0 ?_
    refine lv_istore_n (lv' := [(3, .int 0), (2, .int y0), (0, .ref (ga g 40))]) hx hb dX8_fill_46 rfl hl (Nat.le_of_ble_eq_true rfl) rfl (fun ls hl => ?_)
    exact w_X8_fill_47 C hr _ σ y0 0 h _ _ _ hd (lv_sub hl [2, 1, 0] rfl)
  · replace h := iteT c2 h
    refine lv_iconst (v := (-1 : Int32)) hx hb dX8_fill_43 ic_m1 ?_
    exact rIretS (w := wM g) C hr hd h dX8_fill_44
noncomputable def f_X8_fill (F : Nat) (σ : St) : Option (Int32 × St) :=
  cal (f_X8_placeOf F σ (σ.2.1 19 3)) (fun r1 => if ¬ (σ.2.1 19 1) = 0 then bnd (r1 - r1 / (σ.2.1 19 1) * (σ.2.1 19 1)) (fun v3 => if v3 = 0 then (f_X8_fill_34 F σ 0) else (f_X8_fill_34 F σ ((σ.2.1 19 1) - v3))) else none)
set_option maxRecDepth 100000 in
set_option maxHeartbeats 4000000 in
theorem c_X8_fill {l : Launch} {g : Gp} {X : va_W} (hE : E0 g) {F : Nat} {r' : Int32} {σ' : St} {σ : St} (h : f_X8_fill F σ = some (r', σ')) : Ci l g yX8_fill cX8_fill 4 (some .int) 3 [.ref (ga g 40)] (wM g σ ++ X) r' (wM g σ' ++ X) := by
  refine rHead hE (by decide +kernel) (Nat.le_of_ble_eq_true rfl) (fun p e s m below meth c C hr _ hd ls hl => ?_)
  have hx := C.1
  have hb := C.2.1
  have hl : lv_has ls 4 [(0, .ref (ga g 40))] := hl
  generalize ([.ref (ga g 40)] : List Value).toArray = args at C ⊢
  have C : Cx g p s m args meth c cX8_fill 4 RX8 := C
  rw [f_X8_fill] at h
  refine lv_aload_n hx hb dX8_fill_0 rfl (lv_at hl 0 rfl) ?_
  refine lv_aload_n hx hb dX8_fill_1 rfl (lv_at hl 0 rfl) ?_
  refine gX8_73 C hd dX8_fill_2 ?_
  refine lv_iconst (v := 3) hx hb dX8_fill_5 ic_3 ?_
  refine ldc_wM_19 C hd cl_3 (inb_i (by decide +kernel)) dX8_fill_6 ?_
  obtain ⟨r1, er1, h⟩ := cal_e h
  refine rCallI C hd (c_X8_placeOf hE er1) kX8_217 0 rfl rfl rfl rfl hl.1 rfl (Nat.le_of_ble_eq_true rfl) ⟨(Nat.le_of_ble_eq_true rfl), (Nat.le_of_ble_eq_true rfl)⟩ ⟨Nat.le_refl _, Nat.le_refl _⟩ dX8_fill_7 (fun H locs hd => ?_)
  refine lv_aload_n hx hb dX8_fill_10 rfl (lv_at hl 0 rfl) ?_
  refine gX8_73 C hd dX8_fill_11 ?_
  refine lv_iconst (v := 1) hx hb dX8_fill_14 ic_1 ?_
  refine ldc_wM_19 C hd cl_1 (inb_i (by decide +kernel)) dX8_fill_15 ?_
  obtain ⟨n2, h⟩ := chk h
  refine lv_irem hx hb dX8_fill_16 n2 ?_
  obtain ⟨v3, ev3, h⟩ := bnd_e h
  refine rTop ev3 ?_
  refine lv_istore_n (lv' := [(1, .int v3), (0, .ref (ga g 40))]) hx hb dX8_fill_17 rfl hl (Nat.le_of_ble_eq_true rfl) rfl (fun ls hl => ?_)
  refine lv_iload_n hx hb dX8_fill_18 rfl (lv_at hl 0 rfl) ?_
  refine lv_if_ne (tgt := 26) hx hb dX8_fill_19 (by decide) (fun c4 => ?_) (fun c4 => ?_)
  · replace h := iteF c4 h
    refine lv_aload_n hx hb dX8_fill_26 rfl (lv_at hl 1 rfl) ?_
    refine gX8_73 C hd dX8_fill_27 ?_
    refine lv_iconst (v := 1) hx hb dX8_fill_30 ic_1 ?_
    refine ldc_wM_19 C hd cl_1 (inb_i (by decide +kernel)) dX8_fill_31 ?_
    refine lv_iload_n hx hb dX8_fill_32 rfl (lv_at hl 0 rfl) ?_
    refine lv_isub hx hb dX8_fill_33 ?_
    exact w_X8_fill_34 C hr σ ((σ.2.1 19 1) - v3) h _ _ _ hd (lv_sub hl [1] rfl)
  · replace h := iteT c4 h
    refine lv_iconst (v := 0) hx hb dX8_fill_22 ic_0 ?_
    refine lv_goto (tgt := 34) hx hb dX8_fill_23 (by decide) ?_
    exact w_X8_fill_34 C hr σ 0 h _ _ _ hd (lv_sub hl [1] rfl)
noncomputable def f_X8_gaps_75 (F : Nat) (k_28 : St → Int32 → Int32 → Int32 → Int32 → Int32 → Option Int32) (σ : St) (x1 : Int32) (x2 : Int32) (x3 : Int32) (x4 : Int32) (x5 : Int32) : Option Int32 :=
  bnd (x5 + 1) (fun v1 => k_28 σ x1 x2 x3 x4 v1)
set_option maxRecDepth 100000 in
set_option maxHeartbeats 4000000 in
theorem w_X8_gaps_75 {F : Nat} {r' : Int32}  (C : Cx g p s m args meth c cX8_gaps 6 RX8) (hr : meth.sig.returnType = some .int)
    {k_28 : St → Int32 → Int32 → Int32 → Int32 → Int32 → Option Int32} (hk_28 : (∀ (σ : St) (x1 : Int32) (x2 : Int32) (x3 : Int32) (x4 : Int32) (x5 : Int32), k_28 σ x1 x2 x3 x4 x5 = some r' → ∀ (H : Heap) (locs : List Loc) (ls : Array Slot), Dy g (wM g σ ++ X) s H locs → lv_has ls 6 [(0, .ref (ga g 40)), (1, .int x1), (2, .int x2), (3, .int x3), (4, .int x4), (5, .int x5)] → W p l e (rmD 3) s m args below meth c H locs 0 0 (QI g below args s (wM g σ ++ X) r') (F0 m 28 ls []))) :
    (∀ (σ : St) (x1 : Int32) (x2 : Int32) (x3 : Int32) (x4 : Int32) (x5 : Int32), f_X8_gaps_75 F k_28 σ x1 x2 x3 x4 x5 = some r' → ∀ (H : Heap) (locs : List Loc) (ls : Array Slot), Dy g (wM g σ ++ X) s H locs → lv_has ls 6 [(0, .ref (ga g 40)), (1, .int x1), (2, .int x2), (3, .int x3), (4, .int x4), (5, .int x5)] → W p l e (rmD 3) s m args below meth c H locs 0 0 (QI g below args s (wM g σ ++ X) r') (F0 m 75 ls [])) := by
  have hx := C.1
  have hb := C.2.1
  have hE := C.2.2.2.2.2.2.2.2
  intro σ x1 x2 x3 x4 x5 h H locs ls hd hl
  rw [f_X8_gaps_75] at h
  obtain ⟨v1, ev1, h⟩ := bnd_e h
  refine lv_iinc (v := v1) (lv' := [(5, .int v1), (0, .ref (ga g 40)), (1, .int x1), (2, .int x2), (3, .int x3), (4, .int x4)]) hx hb dX8_gaps_75 hl (k := 5) rfl ((ii_1 _).trans ev1.symm) (Nat.le_of_ble_eq_true rfl) rfl (fun ls hl => ?_)
  refine lv_goto (tgt := 28) hx hb dX8_gaps_78 (by decide) ?_
  exact hk_28 σ x1 x2 x3 x4 v1 h _ _ _ hd (lv_sub hl [1, 2, 3, 4, 5, 0] rfl)
noncomputable def f_X8_gaps_72 (F : Nat) (k_28 : St → Int32 → Int32 → Int32 → Int32 → Int32 → Option Int32) (σ : St) (x1 : Int32) (x2 : Int32) (x3 : Int32) (x4 : Int32) (x5 : Int32) : Option Int32 :=
  bnd (x3 + 1) (fun v1 => f_X8_gaps_75 F k_28 σ x1 x2 v1 x4 x5)
set_option maxRecDepth 100000 in
set_option maxHeartbeats 4000000 in
theorem w_X8_gaps_72 {F : Nat} {r' : Int32}  (C : Cx g p s m args meth c cX8_gaps 6 RX8) (hr : meth.sig.returnType = some .int)
    {k_28 : St → Int32 → Int32 → Int32 → Int32 → Int32 → Option Int32} (hk_28 : (∀ (σ : St) (x1 : Int32) (x2 : Int32) (x3 : Int32) (x4 : Int32) (x5 : Int32), k_28 σ x1 x2 x3 x4 x5 = some r' → ∀ (H : Heap) (locs : List Loc) (ls : Array Slot), Dy g (wM g σ ++ X) s H locs → lv_has ls 6 [(0, .ref (ga g 40)), (1, .int x1), (2, .int x2), (3, .int x3), (4, .int x4), (5, .int x5)] → W p l e (rmD 3) s m args below meth c H locs 0 0 (QI g below args s (wM g σ ++ X) r') (F0 m 28 ls []))) :
    (∀ (σ : St) (x1 : Int32) (x2 : Int32) (x3 : Int32) (x4 : Int32) (x5 : Int32), f_X8_gaps_72 F k_28 σ x1 x2 x3 x4 x5 = some r' → ∀ (H : Heap) (locs : List Loc) (ls : Array Slot), Dy g (wM g σ ++ X) s H locs → lv_has ls 6 [(0, .ref (ga g 40)), (1, .int x1), (2, .int x2), (3, .int x3), (4, .int x4), (5, .int x5)] → W p l e (rmD 3) s m args below meth c H locs 0 0 (QI g below args s (wM g σ ++ X) r') (F0 m 72 ls [])) := by
  have hx := C.1
  have hb := C.2.1
  have hE := C.2.2.2.2.2.2.2.2
  intro σ x1 x2 x3 x4 x5 h H locs ls hd hl
  rw [f_X8_gaps_72] at h
  obtain ⟨v1, ev1, h⟩ := bnd_e h
  refine lv_iinc (v := v1) (lv' := [(3, .int v1), (0, .ref (ga g 40)), (1, .int x1), (2, .int x2), (4, .int x4), (5, .int x5)]) hx hb dX8_gaps_72 hl (k := 3) rfl ((ii_1 _).trans ev1.symm) (Nat.le_of_ble_eq_true rfl) rfl (fun ls hl => ?_)
  exact w_X8_gaps_75 C hr hk_28 σ x1 x2 v1 x4 x5 h _ _ _ hd (lv_sub hl [1, 2, 3, 0, 4, 5] rfl)
noncomputable def f_X8_gaps_28 (F : Nat) : Nat → St → Int32 → Int32 → Int32 → Int32 → Int32 → Option Int32
  | 0, _, _, _, _, _, _ => none
  | n + 1, σ, x1, x2, x3, x4, x5 => cal (f_X8_placeOf F σ x1) (fun r1 => if r1 ≤ (x5 * (σ.2.1 19 1)) then (if x2 = 0 then (some x3) else (some x4)) else (cal (f_X8_holderOf F σ x1 x5) (fun r4 => cal (f_X8_isAtHand F σ r4 x5) (fun r5 => if r5 = 0 then (if x3 = 0 then (f_X8_gaps_72 F (f_X8_gaps_28 F n) σ x1 x2 x3 x5 x5) else (f_X8_gaps_72 F (f_X8_gaps_28 F n) σ x1 x2 x3 x4 x5)) else (f_X8_gaps_75 F (f_X8_gaps_28 F n) σ x1 x2 x3 x4 x5)))))
set_option maxRecDepth 100000 in
set_option maxHeartbeats 4000000 in
theorem w_X8_gaps_28 {F : Nat} {r' : Int32}  (C : Cx g p s m args meth c cX8_gaps 6 RX8) (hr : meth.sig.returnType = some .int) :
    (∀ (n : Nat) (σ : St) (x1 : Int32) (x2 : Int32) (x3 : Int32) (x4 : Int32) (x5 : Int32), f_X8_gaps_28 F n σ x1 x2 x3 x4 x5 = some r' → ∀ (H : Heap) (locs : List Loc) (ls : Array Slot), Dy g (wM g σ ++ X) s H locs → lv_has ls 6 [(0, .ref (ga g 40)), (1, .int x1), (2, .int x2), (3, .int x3), (4, .int x4), (5, .int x5)] → W p l e (rmD 3) s m args below meth c H locs 0 0 (QI g below args s (wM g σ ++ X) r') (F0 m 28 ls [])) := by
  have hx := C.1
  have hb := C.2.1
  have hE := C.2.2.2.2.2.2.2.2
  intro n
  induction n with
  | zero =>
    intro σ x1 x2 x3 x4 x5 h
    cases h
  | succ n ih =>
    intro σ x1 x2 x3 x4 x5 h H locs ls hd hl
    rw [f_X8_gaps_28] at h
    refine lv_iload hx hb dX8_gaps_28 (lv_at hl 5 rfl) ?_
    refine lv_aload_n hx hb dX8_gaps_30 rfl (lv_at hl 0 rfl) ?_
    refine gX8_73 C hd dX8_gaps_31 ?_
    refine lv_iconst (v := 1) hx hb dX8_gaps_34 ic_1 ?_
    refine ldc_wM_19 C hd cl_1 (inb_i (by decide +kernel)) dX8_gaps_35 ?_
    refine lv_imul hx hb dX8_gaps_36 ?_
    refine lv_aload_n hx hb dX8_gaps_37 rfl (lv_at hl 0 rfl) ?_
    refine lv_iload_n hx hb dX8_gaps_38 rfl (lv_at hl 1 rfl) ?_
    obtain ⟨r1, er1, h⟩ := cal_e h
    refine rCallI C hd (c_X8_placeOf hE er1) kX8_217 0 rfl rfl rfl rfl hl.1 rfl (Nat.le_of_ble_eq_true rfl) ⟨(Nat.le_of_ble_eq_true rfl), (Nat.le_of_ble_eq_true rfl)⟩ ⟨Nat.le_refl _, Nat.le_refl _⟩ dX8_gaps_39 (fun H locs hd => ?_)
    refine lv_icmp_ge (tgt := 81) hx hb dX8_gaps_42 (by decide) (fun c2 => ?_) (fun c2 => ?_)
    · replace h := iteT c2 h
      refine lv_iload_n hx hb dX8_gaps_81 rfl (lv_at hl 2 rfl) ?_
      refine lv_if_ne (tgt := 89) hx hb dX8_gaps_82 (by decide) (fun c3 => ?_) (fun c3 => ?_)
      · replace h := iteF c3 h
        refine lv_iload hx hb dX8_gaps_89 (lv_at hl 4 rfl) ?_
        exact rIretP C hr hd h dX8_gaps_91
      · replace h := iteT c3 h
        refine lv_iload_n hx hb dX8_gaps_85 rfl (lv_at hl 3 rfl) ?_
        refine lv_goto (tgt := 91) hx hb dX8_gaps_86 (by decide) ?_
        exact rIretP C hr hd h dX8_gaps_91
    · replace h := iteF c2 h
      refine lv_aload_n hx hb dX8_gaps_45 rfl (lv_at hl 0 rfl) ?_
      refine lv_aload_n hx hb dX8_gaps_46 rfl (lv_at hl 0 rfl) ?_
      refine lv_iload_n hx hb dX8_gaps_47 rfl (lv_at hl 1 rfl) ?_
      refine lv_iload hx hb dX8_gaps_48 (lv_at hl 5 rfl) ?_
      obtain ⟨r4, er4, h⟩ := cal_e h
      refine rCallI C hd (c_X8_holderOf hE er4) kX8_322 0 rfl rfl rfl rfl hl.1 rfl (Nat.le_of_ble_eq_true rfl) ⟨(Nat.le_of_ble_eq_true rfl), (Nat.le_of_ble_eq_true rfl)⟩ ⟨Nat.le_refl _, Nat.le_refl _⟩ dX8_gaps_50 (fun H locs hd => ?_)
      refine lv_iload hx hb dX8_gaps_53 (lv_at hl 5 rfl) ?_
      obtain ⟨r5, er5, h⟩ := cal_e h
      refine rCallI C hd (c_X8_isAtHand hE er5) kX8_331 0 rfl rfl rfl rfl hl.1 rfl (Nat.le_of_ble_eq_true rfl) ⟨(Nat.le_of_ble_eq_true rfl), (Nat.le_of_ble_eq_true rfl)⟩ ⟨Nat.le_refl _, Nat.le_refl _⟩ dX8_gaps_55 (fun H locs hd => ?_)
      refine lv_if_eq (tgt := 64) hx hb dX8_gaps_58 (by decide) (fun c6 => ?_) (fun c6 => ?_)
      · replace h := iteT c6 h
        refine lv_iload_n hx hb dX8_gaps_64 rfl (lv_at hl 3 rfl) ?_
        refine lv_if_ne (tgt := 72) hx hb dX8_gaps_65 (by decide) (fun c7 => ?_) (fun c7 => ?_)
        · replace h := iteF c7 h
          exact w_X8_gaps_72 C hr ih σ x1 x2 x3 x4 x5 h _ _ _ hd (lv_sub hl [0, 1, 2, 3, 4, 5] rfl)
        · replace h := iteT c7 h
          refine lv_iload hx hb dX8_gaps_68 (lv_at hl 5 rfl) ?_
          refine lv_istore (lv' := [(4, .int x5), (0, .ref (ga g 40)), (1, .int x1), (2, .int x2), (3, .int x3), (5, .int x5)]) hx hb dX8_gaps_70 hl (Nat.le_of_ble_eq_true rfl) rfl (fun ls hl => ?_)
          exact w_X8_gaps_72 C hr ih σ x1 x2 x3 x5 x5 h _ _ _ hd (lv_sub hl [1, 2, 3, 4, 0, 5] rfl)
      · replace h := iteF c6 h
        refine lv_goto (tgt := 75) hx hb dX8_gaps_61 (by decide) ?_
        exact w_X8_gaps_75 C hr ih σ x1 x2 x3 x4 x5 h _ _ _ hd (lv_sub hl [0, 1, 2, 3, 4, 5] rfl)
noncomputable def f_X8_gaps (F : Nat) (σ : St) (x1 : Int32) (x2 : Int32) : Option Int32 :=
  cal (f_X8_isLine F σ x1) (fun r1 => if r1 = 0 then (some (-1 : Int32)) else (cal (f_X8_in F σ x2 0 1) (fun r3 => if r3 = 0 then (some (-1 : Int32)) else (f_X8_gaps_28 F F σ x1 x2 0 (-2 : Int32) 0))))
set_option maxRecDepth 100000 in
set_option maxHeartbeats 4000000 in
theorem c_X8_gaps {l : Launch} {g : Gp} {X : va_W} (hE : E0 g) {F : Nat} {r' : Int32} {σ : St} {x1 : Int32} {x2 : Int32} (h : f_X8_gaps F σ x1 x2 = some r') : Ci l g yX8_gaps cX8_gaps 6 (some .int) 3 [.ref (ga g 40), .int x1, .int x2] (wM g σ ++ X) r' (wM g σ ++ X) := by
  refine rHead hE (by decide +kernel) (Nat.le_of_ble_eq_true rfl) (fun p e s m below meth c C hr _ hd ls hl => ?_)
  have hx := C.1
  have hb := C.2.1
  have hl : lv_has ls 6 [(0, .ref (ga g 40)), (1, .int x1), (2, .int x2)] := hl
  generalize ([.ref (ga g 40), .int x1, .int x2] : List Value).toArray = args at C ⊢
  have C : Cx g p s m args meth c cX8_gaps 6 RX8 := C
  rw [f_X8_gaps] at h
  refine lv_aload_n hx hb dX8_gaps_0 rfl (lv_at hl 0 rfl) ?_
  refine lv_iload_n hx hb dX8_gaps_1 rfl (lv_at hl 1 rfl) ?_
  obtain ⟨r1, er1, h⟩ := cal_e h
  refine rCallI C hd (c_X8_isLine hE er1) kX8_262 0 rfl rfl rfl rfl hl.1 rfl (Nat.le_of_ble_eq_true rfl) ⟨(Nat.le_of_ble_eq_true rfl), (Nat.le_of_ble_eq_true rfl)⟩ ⟨Nat.le_refl _, Nat.le_refl _⟩ dX8_gaps_2 (fun H locs hd => ?_)
  refine lv_if_eq (tgt := 17) hx hb dX8_gaps_5 (by decide) (fun c2 => ?_) (fun c2 => ?_)
  · replace h := iteT c2 h
    refine lv_iconst (v := (-1 : Int32)) hx hb dX8_gaps_17 ic_m1 ?_
    exact rIretP C hr hd h dX8_gaps_18
  · replace h := iteF c2 h
    refine lv_iload_n hx hb dX8_gaps_8 rfl (lv_at hl 2 rfl) ?_
    refine lv_iconst (v := 0) hx hb dX8_gaps_9 ic_0 ?_
    refine lv_iconst (v := 1) hx hb dX8_gaps_10 ic_1 ?_
    obtain ⟨r3, er3, h⟩ := cal_e h
    refine rCallSI C hd (c_X8_in hE er3) kX8_194 rfl hl.1 rfl (Nat.le_of_ble_eq_true rfl) ⟨(Nat.le_of_ble_eq_true rfl), (Nat.le_of_ble_eq_true rfl)⟩ ⟨Nat.le_refl _, Nat.le_refl _⟩ dX8_gaps_11 (fun H locs hd => ?_)
    refine lv_if_ne (tgt := 19) hx hb dX8_gaps_14 (by decide) (fun c4 => ?_) (fun c4 => ?_)
    · replace h := iteF c4 h
      refine lv_iconst (v := 0) hx hb dX8_gaps_19 ic_0 ?_
      refine lv_istore_n (lv' := [(3, .int 0), (0, .ref (ga g 40)), (1, .int x1), (2, .int x2)]) hx hb dX8_gaps_20 rfl hl (Nat.le_of_ble_eq_true rfl) rfl (fun ls hl => ?_)
      refine lv_bipush (v := (-2 : Int32)) hx hb dX8_gaps_21 bi_m2 ?_
      refine lv_istore (lv' := [(4, .int (-2 : Int32)), (3, .int 0), (0, .ref (ga g 40)), (1, .int x1), (2, .int x2)]) hx hb dX8_gaps_23 hl (Nat.le_of_ble_eq_true rfl) rfl (fun ls hl => ?_)
      refine lv_iconst (v := 0) hx hb dX8_gaps_25 ic_0 ?_
      refine lv_istore (lv' := [(5, .int 0), (4, .int (-2 : Int32)), (3, .int 0), (0, .ref (ga g 40)), (1, .int x1), (2, .int x2)]) hx hb dX8_gaps_26 hl (Nat.le_of_ble_eq_true rfl) rfl (fun ls hl => ?_)
      exact w_X8_gaps_28 C hr _ σ x1 x2 0 (-2 : Int32) 0 h _ _ _ hd (lv_sub hl [3, 4, 5, 2, 1, 0] rfl)
    · replace h := iteT c4 h
      refine lv_iconst (v := (-1 : Int32)) hx hb dX8_gaps_17 ic_m1 ?_
      exact rIretP C hr hd h dX8_gaps_18
noncomputable def f_X8_hasPiece (F : Nat) (σ : St) (x1 : Int32) (x2 : Int32) : Option Int32 :=
  cal (f_X8_isLine F σ x1) (fun r1 => if r1 = 0 then (some 0) else (cal (f_X8_firstPiece F σ x1) (fun r3 => if x2 < r3 then (some 0) else (if 120 ≤ x2 then (some 0) else (cal (f_X8_placeOf F σ x1) (fun r6 => if r6 ≤ (x2 * (σ.2.1 19 1)) then (some 0) else (some 1)))))))
set_option maxRecDepth 100000 in
set_option maxHeartbeats 4000000 in
theorem c_X8_hasPiece {l : Launch} {g : Gp} {X : va_W} (hE : E0 g) {F : Nat} {r' : Int32} {σ : St} {x1 : Int32} {x2 : Int32} (h : f_X8_hasPiece F σ x1 x2 = some r') : Ci l g yX8_hasPiece cX8_hasPiece 3 (some .boolean) 2 [.ref (ga g 40), .int x1, .int x2] (wM g σ ++ X) r' (wM g σ ++ X) := by
  refine rHead hE (by decide +kernel) (Nat.le_of_ble_eq_true rfl) (fun p e s m below meth c C hr _ hd ls hl => ?_)
  have hx := C.1
  have hb := C.2.1
  have hl : lv_has ls 3 [(0, .ref (ga g 40)), (1, .int x1), (2, .int x2)] := hl
  generalize ([.ref (ga g 40), .int x1, .int x2] : List Value).toArray = args at C ⊢
  have C : Cx g p s m args meth c cX8_hasPiece 3 RX8 := C
  rw [f_X8_hasPiece] at h
  refine lv_aload_n hx hb dX8_hasPiece_0 rfl (lv_at hl 0 rfl) ?_
  refine lv_iload_n hx hb dX8_hasPiece_1 rfl (lv_at hl 1 rfl) ?_
  obtain ⟨r1, er1, h⟩ := cal_e h
  refine rCallI C hd (c_X8_isLine hE er1) kX8_262 0 rfl rfl rfl rfl hl.1 rfl (Nat.le_of_ble_eq_true rfl) ⟨(Nat.le_of_ble_eq_true rfl), (Nat.le_of_ble_eq_true rfl)⟩ ⟨Nat.le_refl _, Nat.le_refl _⟩ dX8_hasPiece_2 (fun H locs hd => ?_)
  refine lv_if_eq (tgt := 43) hx hb dX8_hasPiece_5 (by decide) (fun c2 => ?_) (fun c2 => ?_)
  · replace h := iteT c2 h
    refine lv_iconst (v := 0) hx hb dX8_hasPiece_43 ic_0 ?_
    exact rZretP C hr hd h (by decide) dX8_hasPiece_44
  · replace h := iteF c2 h
    refine lv_iload_n hx hb dX8_hasPiece_8 rfl (lv_at hl 2 rfl) ?_
    refine lv_aload_n hx hb dX8_hasPiece_9 rfl (lv_at hl 0 rfl) ?_
    refine lv_iload_n hx hb dX8_hasPiece_10 rfl (lv_at hl 1 rfl) ?_
    obtain ⟨r3, er3, h⟩ := cal_e h
    refine rCallI C hd (c_X8_firstPiece hE er3) kX8_292 0 rfl rfl rfl rfl hl.1 rfl (Nat.le_of_ble_eq_true rfl) ⟨(Nat.le_of_ble_eq_true rfl), (Nat.le_of_ble_eq_true rfl)⟩ ⟨Nat.le_refl _, Nat.le_refl _⟩ dX8_hasPiece_11 (fun H locs hd => ?_)
    refine lv_icmp_lt (tgt := 43) hx hb dX8_hasPiece_14 (by decide) (fun c4 => ?_) (fun c4 => ?_)
    · replace h := iteT c4 h
      refine lv_iconst (v := 0) hx hb dX8_hasPiece_43 ic_0 ?_
      exact rZretP C hr hd h (by decide) dX8_hasPiece_44
    · replace h := iteF c4 h
      refine lv_iload_n hx hb dX8_hasPiece_17 rfl (lv_at hl 2 rfl) ?_
      refine lv_bipush (v := 120) hx hb dX8_hasPiece_18 bi_120 ?_
      refine lv_icmp_ge (tgt := 43) hx hb dX8_hasPiece_20 (by decide) (fun c5 => ?_) (fun c5 => ?_)
      · replace h := iteT c5 h
        refine lv_iconst (v := 0) hx hb dX8_hasPiece_43 ic_0 ?_
        exact rZretP C hr hd h (by decide) dX8_hasPiece_44
      · replace h := iteF c5 h
        refine lv_aload_n hx hb dX8_hasPiece_23 rfl (lv_at hl 0 rfl) ?_
        refine lv_iload_n hx hb dX8_hasPiece_24 rfl (lv_at hl 1 rfl) ?_
        obtain ⟨r6, er6, h⟩ := cal_e h
        refine rCallI C hd (c_X8_placeOf hE er6) kX8_217 0 rfl rfl rfl rfl hl.1 rfl (Nat.le_of_ble_eq_true rfl) ⟨(Nat.le_of_ble_eq_true rfl), (Nat.le_of_ble_eq_true rfl)⟩ ⟨Nat.le_refl _, Nat.le_refl _⟩ dX8_hasPiece_25 (fun H locs hd => ?_)
        refine lv_iload_n hx hb dX8_hasPiece_28 rfl (lv_at hl 2 rfl) ?_
        refine lv_aload_n hx hb dX8_hasPiece_29 rfl (lv_at hl 0 rfl) ?_
        refine gX8_73 C hd dX8_hasPiece_30 ?_
        refine lv_iconst (v := 1) hx hb dX8_hasPiece_33 ic_1 ?_
        refine ldc_wM_19 C hd cl_1 (inb_i (by decide +kernel)) dX8_hasPiece_34 ?_
        refine lv_imul hx hb dX8_hasPiece_35 ?_
        refine lv_icmp_le (tgt := 43) hx hb dX8_hasPiece_36 (by decide) (fun c7 => ?_) (fun c7 => ?_)
        · replace h := iteT c7 h
          refine lv_iconst (v := 0) hx hb dX8_hasPiece_43 ic_0 ?_
          exact rZretP C hr hd h (by decide) dX8_hasPiece_44
        · replace h := iteF c7 h
          refine lv_iconst (v := 1) hx hb dX8_hasPiece_39 ic_1 ?_
          refine lv_goto (tgt := 44) hx hb dX8_hasPiece_40 (by decide) ?_
          exact rZretP C hr hd h (by decide) dX8_hasPiece_44
noncomputable def f_X8_ofTaken (F : Nat) (σ : St) (x1 : Int32) (x2 : Int32) (x3 : Int32) : Option Int32 :=
  cal (f_X8_takenAt F σ x1 x2) (fun r1 => if 0 ≤ r1 then (if inb (r1 + x3) 7164 = true then some (σ.2.1 19 (r1 + x3).toNatClampNeg) else none) else (some (-2 : Int32)))
set_option maxRecDepth 100000 in
set_option maxHeartbeats 4000000 in
theorem c_X8_ofTaken {l : Launch} {g : Gp} {X : va_W} (hE : E0 g) {F : Nat} {r' : Int32} {σ : St} {x1 : Int32} {x2 : Int32} {x3 : Int32} (h : f_X8_ofTaken F σ x1 x2 x3 = some r') : Ci l g yX8_ofTaken cX8_ofTaken 5 (some .int) 2 [.ref (ga g 40), .int x1, .int x2, .int x3] (wM g σ ++ X) r' (wM g σ ++ X) := by
  refine rHead hE (by decide +kernel) (Nat.le_of_ble_eq_true rfl) (fun p e s m below meth c C hr _ hd ls hl => ?_)
  have hx := C.1
  have hb := C.2.1
  have hl : lv_has ls 5 [(0, .ref (ga g 40)), (1, .int x1), (2, .int x2), (3, .int x3)] := hl
  generalize ([.ref (ga g 40), .int x1, .int x2, .int x3] : List Value).toArray = args at C ⊢
  have C : Cx g p s m args meth c cX8_ofTaken 5 RX8 := C
  rw [f_X8_ofTaken] at h
  refine lv_aload_n hx hb dX8_ofTaken_0 rfl (lv_at hl 0 rfl) ?_
  refine lv_iload_n hx hb dX8_ofTaken_1 rfl (lv_at hl 1 rfl) ?_
  refine lv_iload_n hx hb dX8_ofTaken_2 rfl (lv_at hl 2 rfl) ?_
  obtain ⟨r1, er1, h⟩ := cal_e h
  refine rCallI C hd (c_X8_takenAt hE er1) kX8_289 0 rfl rfl rfl rfl hl.1 rfl (Nat.le_of_ble_eq_true rfl) ⟨(Nat.le_of_ble_eq_true rfl), (Nat.le_of_ble_eq_true rfl)⟩ ⟨Nat.le_refl _, Nat.le_refl _⟩ dX8_ofTaken_3 (fun H locs hd => ?_)
  refine lv_istore (lv' := [(4, .int r1), (0, .ref (ga g 40)), (1, .int x1), (2, .int x2), (3, .int x3)]) hx hb dX8_ofTaken_6 hl (Nat.le_of_ble_eq_true rfl) rfl (fun ls hl => ?_)
  refine lv_iload hx hb dX8_ofTaken_8 (lv_at hl 0 rfl) ?_
  refine lv_if_ge (tgt := 18) hx hb dX8_ofTaken_10 (by decide) (fun c2 => ?_) (fun c2 => ?_)
  · replace h := iteT c2 h
    refine lv_aload_n hx hb dX8_ofTaken_18 rfl (lv_at hl 1 rfl) ?_
    refine gX8_73 C hd dX8_ofTaken_19 ?_
    refine lv_iload hx hb dX8_ofTaken_22 (lv_at hl 0 rfl) ?_
    refine lv_iload_n hx hb dX8_ofTaken_24 rfl (lv_at hl 4 rfl) ?_
    refine lv_iadd hx hb dX8_ofTaken_25 ?_
    obtain ⟨n3, h⟩ := chk h
    refine ld_wM_19 C hd (inb_i n3) dX8_ofTaken_26 ?_
    exact rIretP C hr hd h dX8_ofTaken_27
  · replace h := iteF c2 h
    refine lv_bipush (v := (-2 : Int32)) hx hb dX8_ofTaken_13 bi_m2 ?_
    refine lv_goto (tgt := 27) hx hb dX8_ofTaken_15 (by decide) ?_
    exact rIretP C hr hd h dX8_ofTaken_27
noncomputable def f_X8_held (F : Nat) (σ : St) (x1 : Int32) (x2 : Int32) : Option Int32 :=
  cal (f_X8_isCopy F σ x1) (fun r1 => if r1 = 0 then (some 0) else (cal (f_X8_isPage F σ x2) (fun r3 => if r3 = 0 then (some 0) else (cal (f_X8_takenAt F σ x1 x2) (fun r5 => if r5 < 0 then (some 0) else (cal (f_X8_ofTaken F σ x1 x2 3) (fun r7 => some r7)))))))
set_option maxRecDepth 100000 in
set_option maxHeartbeats 4000000 in
theorem c_X8_held {l : Launch} {g : Gp} {X : va_W} (hE : E0 g) {F : Nat} {r' : Int32} {σ : St} {x1 : Int32} {x2 : Int32} (h : f_X8_held F σ x1 x2 = some r') : Ci l g yX8_held cX8_held 3 (some .int) 3 [.ref (ga g 40), .int x1, .int x2] (wM g σ ++ X) r' (wM g σ ++ X) := by
  refine rHead hE (by decide +kernel) (Nat.le_of_ble_eq_true rfl) (fun p e s m below meth c C hr _ hd ls hl => ?_)
  have hx := C.1
  have hb := C.2.1
  have hl : lv_has ls 3 [(0, .ref (ga g 40)), (1, .int x1), (2, .int x2)] := hl
  generalize ([.ref (ga g 40), .int x1, .int x2] : List Value).toArray = args at C ⊢
  have C : Cx g p s m args meth c cX8_held 3 RX8 := C
  rw [f_X8_held] at h
  refine lv_aload_n hx hb dX8_held_0 rfl (lv_at hl 0 rfl) ?_
  refine lv_iload_n hx hb dX8_held_1 rfl (lv_at hl 1 rfl) ?_
  obtain ⟨r1, er1, h⟩ := cal_e h
  refine rCallI C hd (c_X8_isCopy hE er1) kX8_301 0 rfl rfl rfl rfl hl.1 rfl (Nat.le_of_ble_eq_true rfl) ⟨(Nat.le_of_ble_eq_true rfl), (Nat.le_of_ble_eq_true rfl)⟩ ⟨Nat.le_refl _, Nat.le_refl _⟩ dX8_held_2 (fun H locs hd => ?_)
  refine lv_if_eq (tgt := 35) hx hb dX8_held_5 (by decide) (fun c2 => ?_) (fun c2 => ?_)
  · replace h := iteT c2 h
    refine lv_iconst (v := 0) hx hb dX8_held_35 ic_0 ?_
    exact rIretP C hr hd h dX8_held_36
  · replace h := iteF c2 h
    refine lv_aload_n hx hb dX8_held_8 rfl (lv_at hl 0 rfl) ?_
    refine lv_iload_n hx hb dX8_held_9 rfl (lv_at hl 2 rfl) ?_
    obtain ⟨r3, er3, h⟩ := cal_e h
    refine rCallI C hd (c_X8_isPage hE er3) kX8_334 0 rfl rfl rfl rfl hl.1 rfl (Nat.le_of_ble_eq_true rfl) ⟨(Nat.le_of_ble_eq_true rfl), (Nat.le_of_ble_eq_true rfl)⟩ ⟨Nat.le_refl _, Nat.le_refl _⟩ dX8_held_10 (fun H locs hd => ?_)
    refine lv_if_eq (tgt := 35) hx hb dX8_held_13 (by decide) (fun c4 => ?_) (fun c4 => ?_)
    · replace h := iteT c4 h
      refine lv_iconst (v := 0) hx hb dX8_held_35 ic_0 ?_
      exact rIretP C hr hd h dX8_held_36
    · replace h := iteF c4 h
      refine lv_aload_n hx hb dX8_held_16 rfl (lv_at hl 0 rfl) ?_
      refine lv_iload_n hx hb dX8_held_17 rfl (lv_at hl 1 rfl) ?_
      refine lv_iload_n hx hb dX8_held_18 rfl (lv_at hl 2 rfl) ?_
      obtain ⟨r5, er5, h⟩ := cal_e h
      refine rCallI C hd (c_X8_takenAt hE er5) kX8_289 0 rfl rfl rfl rfl hl.1 rfl (Nat.le_of_ble_eq_true rfl) ⟨(Nat.le_of_ble_eq_true rfl), (Nat.le_of_ble_eq_true rfl)⟩ ⟨Nat.le_refl _, Nat.le_refl _⟩ dX8_held_19 (fun H locs hd => ?_)
      refine lv_if_lt (tgt := 35) hx hb dX8_held_22 (by decide) (fun c6 => ?_) (fun c6 => ?_)
      · replace h := iteT c6 h
        refine lv_iconst (v := 0) hx hb dX8_held_35 ic_0 ?_
        exact rIretP C hr hd h dX8_held_36
      · replace h := iteF c6 h
        refine lv_aload_n hx hb dX8_held_25 rfl (lv_at hl 0 rfl) ?_
        refine lv_iload_n hx hb dX8_held_26 rfl (lv_at hl 1 rfl) ?_
        refine lv_iload_n hx hb dX8_held_27 rfl (lv_at hl 2 rfl) ?_
        refine lv_iconst (v := 3) hx hb dX8_held_28 ic_3 ?_
        obtain ⟨r7, er7, h⟩ := cal_e h
        refine rCallI C hd (c_X8_ofTaken hE er7) kX8_375 0 rfl rfl rfl rfl hl.1 rfl (Nat.le_of_ble_eq_true rfl) ⟨(Nat.le_of_ble_eq_true rfl), (Nat.le_of_ble_eq_true rfl)⟩ ⟨Nat.le_refl _, Nat.le_refl _⟩ dX8_held_29 (fun H locs hd => ?_)
        refine lv_goto (tgt := 36) hx hb dX8_held_32 (by decide) ?_
        exact rIretP C hr hd h dX8_held_36
noncomputable def f_X8_hold_20 (F : Nat) : Nat → St → Int32 → Int32 → Option (Int32 × St)
  | 0, _, _, _ => none
  | n + 1, σ, x1, x2 => if 7164 ≤ x2 then (some (1, σ)) else (if inb x2 7164 = true then if inb ((7164 * x1) + x2) 21492 = true then bnd (sr σ 23 ((7164 * x1) + x2).toNatClampNeg (σ.2.1 19 x2.toNatClampNeg)) (fun t4 => bnd (x2 + 1) (fun v5 => f_X8_hold_20 F n t4 x1 v5)) else none else none)
set_option maxRecDepth 100000 in
set_option maxHeartbeats 4000000 in
theorem w_X8_hold_20 {F : Nat} {r' : Int32} {σ' : St}  (C : Cx g p s m args meth c cX8_hold 3 RX8) (hr : meth.sig.returnType = some .boolean) :
    (∀ (n : Nat) (σ : St) (x1 : Int32) (x2 : Int32), f_X8_hold_20 F n σ x1 x2 = some (r', σ') → ∀ (H : Heap) (locs : List Loc) (ls : Array Slot), Dy g (wM g σ ++ X) s H locs → lv_has ls 3 [(0, .ref (ga g 40)), (1, .int x1), (2, .int x2)] → W p l e (rmD 1) s m args below meth c H locs 0 0 (QI g below args s (wM g σ' ++ X) r') (F0 m 20 ls [])) := by
  have hx := C.1
  have hb := C.2.1
  have hE := C.2.2.2.2.2.2.2.2
  intro n
  induction n with
  | zero =>
    intro σ x1 x2 h
    cases h
  | succ n ih =>
    intro σ x1 x2 h H locs ls hd hl
    rw [f_X8_hold_20] at h
    refine lv_iload_n hx hb dX8_hold_20 rfl (lv_at hl 2 rfl) ?_
    refine lv_sipush (v := 7164) hx hb dX8_hold_21 si_7164 ?_
    refine lv_icmp_ge (tgt := 51) hx hb dX8_hold_24 (by decide) (fun c1 => ?_) (fun c1 => ?_)
    · replace h := iteT c1 h
      refine lv_iconst (v := 1) hx hb dX8_hold_51 ic_1 ?_
      exact rZretS (w := wM g) C hr hd h (by decide) dX8_hold_52
    · replace h := iteF c1 h
      refine lv_aload_n hx hb dX8_hold_27 rfl (lv_at hl 0 rfl) ?_
      refine gX8_86 C hd dX8_hold_28 ?_
      refine lv_sipush (v := 7164) hx hb dX8_hold_31 si_7164 ?_
      refine lv_iload_n hx hb dX8_hold_34 rfl (lv_at hl 1 rfl) ?_
      refine lv_imul hx hb dX8_hold_35 ?_
      refine lv_iload_n hx hb dX8_hold_36 rfl (lv_at hl 2 rfl) ?_
      refine lv_iadd hx hb dX8_hold_37 ?_
      refine lv_aload_n hx hb dX8_hold_38 rfl (lv_at hl 0 rfl) ?_
      refine gX8_73 C hd dX8_hold_39 ?_
      refine lv_iload_n hx hb dX8_hold_42 rfl (lv_at hl 2 rfl) ?_
      obtain ⟨n2, h⟩ := chk h
      refine ld_wM_19 C hd (inb_i n2) dX8_hold_43 ?_
      obtain ⟨n3, h⟩ := chk h
      obtain ⟨t4, et4, h⟩ := bnd_e h
      refine st_wM_23 C hd (inb_i n3) et4 dX8_hold_44 (fun H locs hd => ?_)
      obtain ⟨v5, ev5, h⟩ := bnd_e h
      refine lv_iinc (v := v5) (lv' := [(2, .int v5), (0, .ref (ga g 40)), (1, .int x1)]) hx hb dX8_hold_45 hl (k := 2) rfl ((ii_1 _).trans ev5.symm) (Nat.le_of_ble_eq_true rfl) rfl (fun ls hl => ?_)
      refine lv_goto (tgt := 20) hx hb dX8_hold_48 (by decide) ?_
      exact ih t4 x1 v5 h _ _ _ hd (lv_sub hl [1, 2, 0] rfl)
noncomputable def f_X8_hold (F : Nat) (σ : St) (x1 : Int32) : Option (Int32 × St) :=
  cal (f_X8_in F σ x1 0 2) (fun r1 => if r1 = 0 then (some (0, σ)) else (if inb x1 3 = true then bnd (sr σ 22 x1.toNatClampNeg (vp_nar .boolean 1)) (fun t4 => f_X8_hold_20 F F t4 x1 0) else none))
set_option maxRecDepth 100000 in
set_option maxHeartbeats 4000000 in
theorem c_X8_hold {l : Launch} {g : Gp} {X : va_W} (hE : E0 g) {F : Nat} {r' : Int32} {σ' : St} {σ : St} {x1 : Int32} (h : f_X8_hold F σ x1 = some (r', σ')) : Ci l g yX8_hold cX8_hold 3 (some .boolean) 1 [.ref (ga g 40), .int x1] (wM g σ ++ X) r' (wM g σ' ++ X) := by
  refine rHead hE (by decide +kernel) (Nat.le_of_ble_eq_true rfl) (fun p e s m below meth c C hr _ hd ls hl => ?_)
  have hx := C.1
  have hb := C.2.1
  have hl : lv_has ls 3 [(0, .ref (ga g 40)), (1, .int x1)] := hl
  generalize ([.ref (ga g 40), .int x1] : List Value).toArray = args at C ⊢
  have C : Cx g p s m args meth c cX8_hold 3 RX8 := C
  rw [f_X8_hold] at h
  refine lv_iload_n hx hb dX8_hold_0 rfl (lv_at hl 1 rfl) ?_
  refine lv_iconst (v := 0) hx hb dX8_hold_1 ic_0 ?_
  refine lv_iconst (v := 2) hx hb dX8_hold_2 ic_2 ?_
  obtain ⟨r1, er1, h⟩ := cal_e h
  refine rCallSI C hd (c_X8_in hE er1) kX8_194 rfl hl.1 rfl (Nat.le_of_ble_eq_true rfl) ⟨(Nat.le_of_ble_eq_true rfl), (Nat.le_of_ble_eq_true rfl)⟩ ⟨Nat.le_refl _, Nat.le_refl _⟩ dX8_hold_3 (fun H locs hd => ?_)
  refine lv_if_ne (tgt := 11) hx hb dX8_hold_6 (by decide) (fun c2 => ?_) (fun c2 => ?_)
  · replace h := iteF c2 h
    refine lv_aload_n hx hb dX8_hold_11 rfl (lv_at hl 0 rfl) ?_
    refine gX8_82 C hd dX8_hold_12 ?_
    refine lv_iload_n hx hb dX8_hold_15 rfl (lv_at hl 1 rfl) ?_
    refine lv_iconst (v := 1) hx hb dX8_hold_16 ic_1 ?_
    obtain ⟨n3, h⟩ := chk h
    obtain ⟨t4, et4, h⟩ := bnd_e h
    refine st_wM_22 C hd (inb_i n3) et4 dX8_hold_17 (fun H locs hd => ?_)
    refine lv_iconst (v := 0) hx hb dX8_hold_18 ic_0 ?_
    refine lv_istore_n (lv' := [(2, .int 0), (0, .ref (ga g 40)), (1, .int x1)]) hx hb dX8_hold_19 rfl hl (Nat.le_of_ble_eq_true rfl) rfl (fun ls hl => ?_)
    exact w_X8_hold_20 C hr _ t4 x1 0 h _ _ _ hd (lv_sub hl [1, 2, 0] rfl)
  · replace h := iteT c2 h
    refine lv_iconst (v := 0) hx hb dX8_hold_9 ic_0 ?_
    exact rZretS (w := wM g) C hr hd h (by decide) dX8_hold_10
noncomputable def f_X8_isAnyTo_2 (F : Nat) : Nat → St → Int32 → Int32 → Int32 → Option (Int32 × St)
  | 0, _, _, _, _ => none
  | n + 1, σ, x1, x2, x3 => if (σ.2.1 19 5) ≤ x3 then (some (0, σ)) else (cal2 (f_X8_comesOut_ F σ x3 x1 x2) (fun r2 t3 => if r2 = 0 then (some (1, t3)) else (bnd (x3 + 1) (fun v5 => f_X8_isAnyTo_2 F n t3 x1 x2 v5))))
set_option maxRecDepth 100000 in
set_option maxHeartbeats 4000000 in
theorem w_X8_isAnyTo_2 {F : Nat} {r' : Int32} {σ' : St}  (C : Cx g p s m args meth c cX8_isAnyTo 4 RX8) (hr : meth.sig.returnType = some .boolean) :
    (∀ (n : Nat) (σ : St) (x1 : Int32) (x2 : Int32) (x3 : Int32), f_X8_isAnyTo_2 F n σ x1 x2 x3 = some (r', σ') → ∀ (H : Heap) (locs : List Loc) (ls : Array Slot), Dy g (wM g σ ++ X) s H locs → lv_has ls 4 [(0, .ref (ga g 40)), (1, .int x1), (2, .int x2), (3, .int x3)] → W p l e (rmD 6) s m args below meth c H locs 0 0 (QI g below args s (wM g σ' ++ X) r') (F0 m 2 ls [])) := by
  have hx := C.1
  have hb := C.2.1
  have hE := C.2.2.2.2.2.2.2.2
  intro n
  induction n with
  | zero =>
    intro σ x1 x2 x3 h
    cases h
  | succ n ih =>
    intro σ x1 x2 x3 h H locs ls hd hl
    rw [f_X8_isAnyTo_2] at h
    refine lv_iload_n hx hb dX8_isAnyTo_2 rfl (lv_at hl 3 rfl) ?_
    refine lv_aload_n hx hb dX8_isAnyTo_3 rfl (lv_at hl 0 rfl) ?_
    refine gX8_73 C hd dX8_isAnyTo_4 ?_
    refine lv_iconst (v := 5) hx hb dX8_isAnyTo_7 ic_5 ?_
    refine ldc_wM_19 C hd cl_5 (inb_i (by decide +kernel)) dX8_isAnyTo_8 ?_
    refine lv_icmp_ge (tgt := 30) hx hb dX8_isAnyTo_9 (by decide) (fun c1 => ?_) (fun c1 => ?_)
    · replace h := iteT c1 h
      refine lv_iconst (v := 0) hx hb dX8_isAnyTo_30 ic_0 ?_
      exact rZretS (w := wM g) C hr hd h (by decide) dX8_isAnyTo_31
    · replace h := iteF c1 h
      refine lv_aload_n hx hb dX8_isAnyTo_12 rfl (lv_at hl 0 rfl) ?_
      refine lv_iload_n hx hb dX8_isAnyTo_13 rfl (lv_at hl 3 rfl) ?_
      refine lv_iload_n hx hb dX8_isAnyTo_14 rfl (lv_at hl 1 rfl) ?_
      refine lv_iload_n hx hb dX8_isAnyTo_15 rfl (lv_at hl 2 rfl) ?_
      obtain ⟨r2, t3, et3, h⟩ := cal2_e h
      refine rCallI C hd (c_X8_comesOut_ hE et3) kX8_350 0 rfl rfl rfl rfl hl.1 rfl (Nat.le_of_ble_eq_true rfl) ⟨(Nat.le_of_ble_eq_true rfl), (Nat.le_of_ble_eq_true rfl)⟩ ⟨Nat.le_refl _, Nat.le_refl _⟩ dX8_isAnyTo_16 (fun H locs hd => ?_)
      refine lv_if_ne (tgt := 24) hx hb dX8_isAnyTo_19 (by decide) (fun c4 => ?_) (fun c4 => ?_)
      · replace h := iteF c4 h
        obtain ⟨v5, ev5, h⟩ := bnd_e h
        refine lv_iinc (v := v5) (lv' := [(3, .int v5), (0, .ref (ga g 40)), (1, .int x1), (2, .int x2)]) hx hb dX8_isAnyTo_24 hl (k := 3) rfl ((ii_1 _).trans ev5.symm) (Nat.le_of_ble_eq_true rfl) rfl (fun ls hl => ?_)
        refine lv_goto (tgt := 2) hx hb dX8_isAnyTo_27 (by decide) ?_
        exact ih t3 x1 x2 v5 h _ _ _ hd (lv_sub hl [1, 2, 3, 0] rfl)
      · replace h := iteT c4 h
        refine lv_iconst (v := 1) hx hb dX8_isAnyTo_22 ic_1 ?_
        exact rZretS (w := wM g) C hr hd h (by decide) dX8_isAnyTo_23
noncomputable def f_X8_isAnyTo (F : Nat) (σ : St) (x1 : Int32) (x2 : Int32) : Option (Int32 × St) :=
  f_X8_isAnyTo_2 F F σ x1 x2 0
set_option maxRecDepth 100000 in
set_option maxHeartbeats 4000000 in
theorem c_X8_isAnyTo {l : Launch} {g : Gp} {X : va_W} (hE : E0 g) {F : Nat} {r' : Int32} {σ' : St} {σ : St} {x1 : Int32} {x2 : Int32} (h : f_X8_isAnyTo F σ x1 x2 = some (r', σ')) : Ci l g yX8_isAnyTo cX8_isAnyTo 4 (some .boolean) 6 [.ref (ga g 40), .int x1, .int x2] (wM g σ ++ X) r' (wM g σ' ++ X) := by
  refine rHead hE (by decide +kernel) (Nat.le_of_ble_eq_true rfl) (fun p e s m below meth c C hr _ hd ls hl => ?_)
  have hx := C.1
  have hb := C.2.1
  have hl : lv_has ls 4 [(0, .ref (ga g 40)), (1, .int x1), (2, .int x2)] := hl
  generalize ([.ref (ga g 40), .int x1, .int x2] : List Value).toArray = args at C ⊢
  have C : Cx g p s m args meth c cX8_isAnyTo 4 RX8 := C
  rw [f_X8_isAnyTo] at h
  refine lv_iconst (v := 0) hx hb dX8_isAnyTo_0 ic_0 ?_
  refine lv_istore_n (lv' := [(3, .int 0), (0, .ref (ga g 40)), (1, .int x1), (2, .int x2)]) hx hb dX8_isAnyTo_1 rfl hl (Nat.le_of_ble_eq_true rfl) rfl (fun ls hl => ?_)
  exact w_X8_isAnyTo_2 C hr _ σ x1 x2 0 h _ _ _ hd (lv_sub hl [1, 2, 3, 0] rfl)
noncomputable def f_X8_reachOf_25 (F : Nat) (k_4 : St → Int32 → Int32 → Int32 → Option (Int32 × St)) (σ : St) (x1 : Int32) (x2 : Int32) (x3 : Int32) : Option (Int32 × St) :=
  bnd (x3 + 1) (fun v1 => k_4 σ x1 x2 v1)
set_option maxRecDepth 100000 in
set_option maxHeartbeats 4000000 in
theorem w_X8_reachOf_25 {F : Nat} {r' : Int32} {σ' : St}  (C : Cx g p s m args meth c cX8_reachOf 4 RX8) (hr : meth.sig.returnType = some .int)
    {k_4 : St → Int32 → Int32 → Int32 → Option (Int32 × St)} (hk_4 : (∀ (σ : St) (x1 : Int32) (x2 : Int32) (x3 : Int32), k_4 σ x1 x2 x3 = some (r', σ') → ∀ (H : Heap) (locs : List Loc) (ls : Array Slot), Dy g (wM g σ ++ X) s H locs → lv_has ls 4 [(0, .ref (ga g 40)), (1, .int x1), (2, .int x2), (3, .int x3)] → W p l e (rmD 7) s m args below meth c H locs 0 0 (QI g below args s (wM g σ' ++ X) r') (F0 m 4 ls []))) :
    (∀ (σ : St) (x1 : Int32) (x2 : Int32) (x3 : Int32), f_X8_reachOf_25 F k_4 σ x1 x2 x3 = some (r', σ') → ∀ (H : Heap) (locs : List Loc) (ls : Array Slot), Dy g (wM g σ ++ X) s H locs → lv_has ls 4 [(0, .ref (ga g 40)), (1, .int x1), (2, .int x2), (3, .int x3)] → W p l e (rmD 7) s m args below meth c H locs 0 0 (QI g below args s (wM g σ' ++ X) r') (F0 m 25 ls [])) := by
  have hx := C.1
  have hb := C.2.1
  have hE := C.2.2.2.2.2.2.2.2
  intro σ x1 x2 x3 h H locs ls hd hl
  rw [f_X8_reachOf_25] at h
  obtain ⟨v1, ev1, h⟩ := bnd_e h
  refine lv_iinc (v := v1) (lv' := [(3, .int v1), (0, .ref (ga g 40)), (1, .int x1), (2, .int x2)]) hx hb dX8_reachOf_25 hl (k := 3) rfl ((ii_1 _).trans ev1.symm) (Nat.le_of_ble_eq_true rfl) rfl (fun ls hl => ?_)
  refine lv_goto (tgt := 4) hx hb dX8_reachOf_28 (by decide) ?_
  exact hk_4 σ x1 x2 v1 h _ _ _ hd (lv_sub hl [1, 2, 3, 0] rfl)
noncomputable def f_X8_reachOf_4 (F : Nat) : Nat → St → Int32 → Int32 → Int32 → Option (Int32 × St)
  | 0, _, _, _, _ => none
  | n + 1, σ, x1, x2, x3 => cal (f_X8_placeOf F σ x1) (fun r1 => if r1 < x3 then (some (x2, σ)) else (cal2 (f_X8_isAnyTo F σ x1 x3) (fun r3 t4 => if r3 = 0 then (f_X8_reachOf_25 F (f_X8_reachOf_4 F n) t4 x1 x2 x3) else (bnd (x2 + 1) (fun v6 => f_X8_reachOf_25 F (f_X8_reachOf_4 F n) t4 x1 v6 x3)))))
set_option maxRecDepth 100000 in
set_option maxHeartbeats 4000000 in
theorem w_X8_reachOf_4 {F : Nat} {r' : Int32} {σ' : St}  (C : Cx g p s m args meth c cX8_reachOf 4 RX8) (hr : meth.sig.returnType = some .int) :
    (∀ (n : Nat) (σ : St) (x1 : Int32) (x2 : Int32) (x3 : Int32), f_X8_reachOf_4 F n σ x1 x2 x3 = some (r', σ') → ∀ (H : Heap) (locs : List Loc) (ls : Array Slot), Dy g (wM g σ ++ X) s H locs → lv_has ls 4 [(0, .ref (ga g 40)), (1, .int x1), (2, .int x2), (3, .int x3)] → W p l e (rmD 7) s m args below meth c H locs 0 0 (QI g below args s (wM g σ' ++ X) r') (F0 m 4 ls [])) := by
  have hx := C.1
  have hb := C.2.1
  have hE := C.2.2.2.2.2.2.2.2
  intro n
  induction n with
  | zero =>
    intro σ x1 x2 x3 h
    cases h
  | succ n ih =>
    intro σ x1 x2 x3 h H locs ls hd hl
    rw [f_X8_reachOf_4] at h
    refine lv_iload_n hx hb dX8_reachOf_4 rfl (lv_at hl 3 rfl) ?_
    refine lv_aload_n hx hb dX8_reachOf_5 rfl (lv_at hl 0 rfl) ?_
    refine lv_iload_n hx hb dX8_reachOf_6 rfl (lv_at hl 1 rfl) ?_
    obtain ⟨r1, er1, h⟩ := cal_e h
    refine rCallI C hd (c_X8_placeOf hE er1) kX8_217 0 rfl rfl rfl rfl hl.1 rfl (Nat.le_of_ble_eq_true rfl) ⟨(Nat.le_of_ble_eq_true rfl), (Nat.le_of_ble_eq_true rfl)⟩ ⟨Nat.le_refl _, Nat.le_refl _⟩ dX8_reachOf_7 (fun H locs hd => ?_)
    refine lv_icmp_gt (tgt := 31) hx hb dX8_reachOf_10 (by decide) (fun c2 => ?_) (fun c2 => ?_)
    · replace h := iteT c2 h
      refine lv_iload_n hx hb dX8_reachOf_31 rfl (lv_at hl 2 rfl) ?_
      exact rIretS (w := wM g) C hr hd h dX8_reachOf_32
    · replace h := iteF c2 h
      refine lv_aload_n hx hb dX8_reachOf_13 rfl (lv_at hl 0 rfl) ?_
      refine lv_iload_n hx hb dX8_reachOf_14 rfl (lv_at hl 1 rfl) ?_
      refine lv_iload_n hx hb dX8_reachOf_15 rfl (lv_at hl 3 rfl) ?_
      obtain ⟨r3, t4, et4, h⟩ := cal2_e h
      refine rCallI C hd (c_X8_isAnyTo hE et4) kX8_396 0 rfl rfl rfl rfl hl.1 rfl (Nat.le_of_ble_eq_true rfl) ⟨(Nat.le_of_ble_eq_true rfl), (Nat.le_of_ble_eq_true rfl)⟩ ⟨Nat.le_refl _, Nat.le_refl _⟩ dX8_reachOf_16 (fun H locs hd => ?_)
      refine lv_if_eq (tgt := 25) hx hb dX8_reachOf_19 (by decide) (fun c5 => ?_) (fun c5 => ?_)
      · replace h := iteT c5 h
        exact w_X8_reachOf_25 C hr ih t4 x1 x2 x3 h _ _ _ hd (lv_sub hl [0, 1, 2, 3] rfl)
      · replace h := iteF c5 h
        obtain ⟨v6, ev6, h⟩ := bnd_e h
        refine lv_iinc (v := v6) (lv' := [(2, .int v6), (0, .ref (ga g 40)), (1, .int x1), (3, .int x3)]) hx hb dX8_reachOf_22 hl (k := 2) rfl ((ii_1 _).trans ev6.symm) (Nat.le_of_ble_eq_true rfl) rfl (fun ls hl => ?_)
        exact w_X8_reachOf_25 C hr ih t4 x1 v6 x3 h _ _ _ hd (lv_sub hl [1, 2, 0, 3] rfl)
noncomputable def f_X8_reachOf (F : Nat) (σ : St) (x1 : Int32) : Option (Int32 × St) :=
  f_X8_reachOf_4 F F σ x1 0 0
set_option maxRecDepth 100000 in
set_option maxHeartbeats 4000000 in
theorem c_X8_reachOf {l : Launch} {g : Gp} {X : va_W} (hE : E0 g) {F : Nat} {r' : Int32} {σ' : St} {σ : St} {x1 : Int32} (h : f_X8_reachOf F σ x1 = some (r', σ')) : Ci l g yX8_reachOf cX8_reachOf 4 (some .int) 7 [.ref (ga g 40), .int x1] (wM g σ ++ X) r' (wM g σ' ++ X) := by
  refine rHead hE (by decide +kernel) (Nat.le_of_ble_eq_true rfl) (fun p e s m below meth c C hr _ hd ls hl => ?_)
  have hx := C.1
  have hb := C.2.1
  have hl : lv_has ls 4 [(0, .ref (ga g 40)), (1, .int x1)] := hl
  generalize ([.ref (ga g 40), .int x1] : List Value).toArray = args at C ⊢
  have C : Cx g p s m args meth c cX8_reachOf 4 RX8 := C
  rw [f_X8_reachOf] at h
  refine lv_iconst (v := 0) hx hb dX8_reachOf_0 ic_0 ?_
  refine lv_istore_n (lv' := [(2, .int 0), (0, .ref (ga g 40)), (1, .int x1)]) hx hb dX8_reachOf_1 rfl hl (Nat.le_of_ble_eq_true rfl) rfl (fun ls hl => ?_)
  refine lv_iconst (v := 0) hx hb dX8_reachOf_2 ic_0 ?_
  refine lv_istore_n (lv' := [(3, .int 0), (2, .int 0), (0, .ref (ga g 40)), (1, .int x1)]) hx hb dX8_reachOf_3 rfl hl (Nat.le_of_ble_eq_true rfl) rfl (fun ls hl => ?_)
  exact w_X8_reachOf_4 C hr _ σ x1 0 0 h _ _ _ hd (lv_sub hl [2, 3, 1, 0] rfl)
noncomputable def f_X8_hurts (F : Nat) (σ : St) (x1 : Int32) (x2 : Int32) : Option (Int32 × St) :=
  cal (f_X8_hasPiece F σ x1 x2) (fun r1 => if r1 = 0 then (some ((-1 : Int32), σ)) else (cal (f_X8_keptOf F σ x1 x2) (fun r3 => if r3 = 0 then (some ((-1 : Int32), σ)) else (bnd ((420 + (120 * x1)) + x2) (fun v5 => if inb v5 7164 = true then bnd (σ.2.1 19 v5.toNatClampNeg) (fun v7 => cal2 (f_X8_reachOf F σ (σ.2.1 19 3)) (fun r8 t9 => if inb v5 7164 = true then bnd (sr t9 19 v5.toNatClampNeg 0) (fun t11 => cal2 (f_X8_reachOf F t11 (t11.2.1 19 3)) (fun r12 t13 => if inb v5 7164 = true then bnd (sr t13 19 v5.toNatClampNeg v7) (fun t15 => some ((r8 - r12), t15)) else none)) else none)) else none)))))
set_option maxRecDepth 100000 in
set_option maxHeartbeats 4000000 in
theorem c_X8_hurts {l : Launch} {g : Gp} {X : va_W} (hE : E0 g) {F : Nat} {r' : Int32} {σ' : St} {σ : St} {x1 : Int32} {x2 : Int32} (h : f_X8_hurts F σ x1 x2 = some (r', σ')) : Ci l g yX8_hurts cX8_hurts 7 (some .int) 8 [.ref (ga g 40), .int x1, .int x2] (wM g σ ++ X) r' (wM g σ' ++ X) := by
  refine rHead hE (by decide +kernel) (Nat.le_of_ble_eq_true rfl) (fun p e s m below meth c C hr _ hd ls hl => ?_)
  have hx := C.1
  have hb := C.2.1
  have hl : lv_has ls 7 [(0, .ref (ga g 40)), (1, .int x1), (2, .int x2)] := hl
  generalize ([.ref (ga g 40), .int x1, .int x2] : List Value).toArray = args at C ⊢
  have C : Cx g p s m args meth c cX8_hurts 7 RX8 := C
  rw [f_X8_hurts] at h
  refine lv_aload_n hx hb dX8_hurts_0 rfl (lv_at hl 0 rfl) ?_
  refine lv_iload_n hx hb dX8_hurts_1 rfl (lv_at hl 1 rfl) ?_
  refine lv_iload_n hx hb dX8_hurts_2 rfl (lv_at hl 2 rfl) ?_
  obtain ⟨r1, er1, h⟩ := cal_e h
  refine rCallI C hd (c_X8_hasPiece hE er1) kX8_352 0 rfl rfl rfl rfl hl.1 rfl (Nat.le_of_ble_eq_true rfl) ⟨(Nat.le_of_ble_eq_true rfl), (Nat.le_of_ble_eq_true rfl)⟩ ⟨Nat.le_refl _, Nat.le_refl _⟩ dX8_hurts_3 (fun H locs hd => ?_)
  refine lv_if_eq (tgt := 18) hx hb dX8_hurts_6 (by decide) (fun c2 => ?_) (fun c2 => ?_)
  · replace h := iteT c2 h
    refine lv_iconst (v := (-1 : Int32)) hx hb dX8_hurts_18 ic_m1 ?_
    exact rIretS (w := wM g) C hr hd h dX8_hurts_19
  · replace h := iteF c2 h
    refine lv_aload_n hx hb dX8_hurts_9 rfl (lv_at hl 0 rfl) ?_
    refine lv_iload_n hx hb dX8_hurts_10 rfl (lv_at hl 1 rfl) ?_
    refine lv_iload_n hx hb dX8_hurts_11 rfl (lv_at hl 2 rfl) ?_
    obtain ⟨r3, er3, h⟩ := cal_e h
    refine rCallI C hd (c_X8_keptOf hE er3) kX8_295 0 rfl rfl rfl rfl hl.1 rfl (Nat.le_of_ble_eq_true rfl) ⟨(Nat.le_of_ble_eq_true rfl), (Nat.le_of_ble_eq_true rfl)⟩ ⟨Nat.le_refl _, Nat.le_refl _⟩ dX8_hurts_12 (fun H locs hd => ?_)
    refine lv_if_ne (tgt := 20) hx hb dX8_hurts_15 (by decide) (fun c4 => ?_) (fun c4 => ?_)
    · replace h := iteF c4 h
      refine lv_sipush (v := 420) hx hb dX8_hurts_20 si_420 ?_
      refine lv_bipush (v := 120) hx hb dX8_hurts_23 bi_120 ?_
      refine lv_iload_n hx hb dX8_hurts_25 rfl (lv_at hl 1 rfl) ?_
      refine lv_imul hx hb dX8_hurts_26 ?_
      refine lv_iadd hx hb dX8_hurts_27 ?_
      refine lv_iload_n hx hb dX8_hurts_28 rfl (lv_at hl 2 rfl) ?_
      refine lv_iadd hx hb dX8_hurts_29 ?_
      obtain ⟨v5, ev5, h⟩ := bnd_e h
      refine rTop ev5 ?_
      refine lv_istore_n (lv' := [(3, .int v5), (0, .ref (ga g 40)), (1, .int x1), (2, .int x2)]) hx hb dX8_hurts_30 rfl hl (Nat.le_of_ble_eq_true rfl) rfl (fun ls hl => ?_)
      refine lv_aload_n hx hb dX8_hurts_31 rfl (lv_at hl 1 rfl) ?_
      refine gX8_73 C hd dX8_hurts_32 ?_
      refine lv_iload_n hx hb dX8_hurts_35 rfl (lv_at hl 0 rfl) ?_
      obtain ⟨n6, h⟩ := chk h
      refine ld_wM_19 C hd (inb_i n6) dX8_hurts_36 ?_
      obtain ⟨v7, ev7, h⟩ := bnd_e h
      refine rTop ev7 ?_
      refine lv_istore (lv' := [(4, .int v7), (3, .int v5), (0, .ref (ga g 40)), (1, .int x1), (2, .int x2)]) hx hb dX8_hurts_37 hl (Nat.le_of_ble_eq_true rfl) rfl (fun ls hl => ?_)
      refine lv_aload_n hx hb dX8_hurts_39 rfl (lv_at hl 2 rfl) ?_
      refine lv_aload_n hx hb dX8_hurts_40 rfl (lv_at hl 2 rfl) ?_
      refine gX8_73 C hd dX8_hurts_41 ?_
      refine lv_iconst (v := 3) hx hb dX8_hurts_44 ic_3 ?_
      refine ldc_wM_19 C hd cl_3 (inb_i (by decide +kernel)) dX8_hurts_45 ?_
      obtain ⟨r8, t9, et9, h⟩ := cal2_e h
      refine rCallI C hd (c_X8_reachOf hE et9) kX8_399 0 rfl rfl rfl rfl hl.1 rfl (Nat.le_of_ble_eq_true rfl) ⟨(Nat.le_of_ble_eq_true rfl), (Nat.le_of_ble_eq_true rfl)⟩ ⟨Nat.le_refl _, Nat.le_refl _⟩ dX8_hurts_46 (fun H locs hd => ?_)
      refine lv_istore (lv' := [(5, .int r8), (4, .int v7), (3, .int v5), (0, .ref (ga g 40)), (1, .int x1), (2, .int x2)]) hx hb dX8_hurts_49 hl (Nat.le_of_ble_eq_true rfl) rfl (fun ls hl => ?_)
      refine lv_aload_n hx hb dX8_hurts_51 rfl (lv_at hl 3 rfl) ?_
      refine gX8_73 C hd dX8_hurts_52 ?_
      refine lv_iload_n hx hb dX8_hurts_55 rfl (lv_at hl 2 rfl) ?_
      refine lv_iconst (v := 0) hx hb dX8_hurts_56 ic_0 ?_
      obtain ⟨n10, h⟩ := chk h
      obtain ⟨t11, et11, h⟩ := bnd_e h
      refine st_wM_19 C hd (inb_i n10) et11 dX8_hurts_57 (fun H locs hd => ?_)
      refine lv_aload_n hx hb dX8_hurts_58 rfl (lv_at hl 3 rfl) ?_
      refine lv_aload_n hx hb dX8_hurts_59 rfl (lv_at hl 3 rfl) ?_
      refine gX8_73 C hd dX8_hurts_60 ?_
      refine lv_iconst (v := 3) hx hb dX8_hurts_63 ic_3 ?_
      refine ldc_wM_19 C hd cl_3 (inb_i (by decide +kernel)) dX8_hurts_64 ?_
      obtain ⟨r12, t13, et13, h⟩ := cal2_e h
      refine rCallI C hd (c_X8_reachOf hE et13) kX8_399 0 rfl rfl rfl rfl hl.1 rfl (Nat.le_of_ble_eq_true rfl) ⟨(Nat.le_of_ble_eq_true rfl), (Nat.le_of_ble_eq_true rfl)⟩ ⟨Nat.le_refl _, Nat.le_refl _⟩ dX8_hurts_65 (fun H locs hd => ?_)
      refine lv_istore (lv' := [(6, .int r12), (5, .int r8), (4, .int v7), (3, .int v5), (0, .ref (ga g 40)), (1, .int x1), (2, .int x2)]) hx hb dX8_hurts_68 hl (Nat.le_of_ble_eq_true rfl) rfl (fun ls hl => ?_)
      refine lv_aload_n hx hb dX8_hurts_70 rfl (lv_at hl 4 rfl) ?_
      refine gX8_73 C hd dX8_hurts_71 ?_
      refine lv_iload_n hx hb dX8_hurts_74 rfl (lv_at hl 3 rfl) ?_
      refine lv_iload hx hb dX8_hurts_75 (lv_at hl 2 rfl) ?_
      obtain ⟨n14, h⟩ := chk h
      obtain ⟨t15, et15, h⟩ := bnd_e h
      refine st_wM_19 C hd (inb_i n14) et15 dX8_hurts_77 (fun H locs hd => ?_)
      refine lv_iload hx hb dX8_hurts_78 (lv_at hl 1 rfl) ?_
      refine lv_iload hx hb dX8_hurts_80 (lv_at hl 0 rfl) ?_
      refine lv_isub hx hb dX8_hurts_82 ?_
      exact rIretS (w := wM g) C hr hd h dX8_hurts_83
    · replace h := iteT c4 h
      refine lv_iconst (v := (-1 : Int32)) hx hb dX8_hurts_18 ic_m1 ?_
      exact rIretS (w := wM g) C hr hd h dX8_hurts_19
noncomputable def f_X8_letters (F : Nat) (σ : St) (x0 : Int32) (x1 : Int32) (x2 : Int32) (x3 : Int32) (x4 : Int32) (x5 : Int32) (x6 : Int32) : Option Int64 :=
  cal (f_X8_appends F σ (0 : Int64) x0) (fun r1 => cal (f_X8_appends F σ r1 x1) (fun r2 => cal (f_X8_appends F σ r2 x2) (fun r3 => cal (f_X8_appends F σ r3 x3) (fun r4 => cal (f_X8_appends F σ r4 x4) (fun r5 => cal (f_X8_appends F σ r5 x5) (fun r6 => cal (f_X8_appends F σ r6 x6) (fun r7 => some r7)))))))
set_option maxRecDepth 100000 in
set_option maxHeartbeats 4000000 in
theorem c_X8_letters {l : Launch} {g : Gp} {X : va_W} (hE : E0 g) {F : Nat} {r' : Int64} {σ : St} {x0 : Int32} {x1 : Int32} {x2 : Int32} {x3 : Int32} {x4 : Int32} {x5 : Int32} {x6 : Int32} (h : f_X8_letters F σ x0 x1 x2 x3 x4 x5 x6 = some r') : Cl l g yX8_letters cX8_letters 7 (some .long) 1 [.int x0, .int x1, .int x2, .int x3, .int x4, .int x5, .int x6] (wM g σ ++ X) r' (wM g σ ++ X) := by
  refine rHead hE (by decide +kernel) (Nat.le_of_ble_eq_true rfl) (fun p e s m below meth c C hr _ hd ls hl => ?_)
  have hx := C.1
  have hb := C.2.1
  have hl : lv_has ls 7 [(0, .int x0), (1, .int x1), (2, .int x2), (3, .int x3), (4, .int x4), (5, .int x5), (6, .int x6)] := hl
  generalize ([.int x0, .int x1, .int x2, .int x3, .int x4, .int x5, .int x6] : List Value).toArray = args at C ⊢
  have C : Cx g p s m args meth c cX8_letters 7 RX8 := C
  rw [f_X8_letters] at h
  refine lv_lconst (v := 0) hx hb dX8_letters_0 (by decide) ?_
  refine lv_iload_n hx hb dX8_letters_1 rfl (lv_at hl 0 rfl) ?_
  obtain ⟨r1, er1, h⟩ := cal_e h
  refine rCallSL C hd (c_X8_appends hE er1) kX8_109 rfl hl.1 rfl (Nat.le_of_ble_eq_true rfl) ⟨(Nat.le_of_ble_eq_true rfl), (Nat.le_of_ble_eq_true rfl)⟩ ⟨Nat.le_refl _, Nat.le_refl _⟩ dX8_letters_2 (fun H locs hd => ?_)
  refine lv_iload_n hx hb dX8_letters_5 rfl (lv_at hl 1 rfl) ?_
  obtain ⟨r2, er2, h⟩ := cal_e h
  refine rCallSL C hd (c_X8_appends hE er2) kX8_109 rfl hl.1 rfl (Nat.le_of_ble_eq_true rfl) ⟨(Nat.le_of_ble_eq_true rfl), (Nat.le_of_ble_eq_true rfl)⟩ ⟨Nat.le_refl _, Nat.le_refl _⟩ dX8_letters_6 (fun H locs hd => ?_)
  refine lv_iload_n hx hb dX8_letters_9 rfl (lv_at hl 2 rfl) ?_
  obtain ⟨r3, er3, h⟩ := cal_e h
  refine rCallSL C hd (c_X8_appends hE er3) kX8_109 rfl hl.1 rfl (Nat.le_of_ble_eq_true rfl) ⟨(Nat.le_of_ble_eq_true rfl), (Nat.le_of_ble_eq_true rfl)⟩ ⟨Nat.le_refl _, Nat.le_refl _⟩ dX8_letters_10 (fun H locs hd => ?_)
  refine lv_iload_n hx hb dX8_letters_13 rfl (lv_at hl 3 rfl) ?_
  obtain ⟨r4, er4, h⟩ := cal_e h
  refine rCallSL C hd (c_X8_appends hE er4) kX8_109 rfl hl.1 rfl (Nat.le_of_ble_eq_true rfl) ⟨(Nat.le_of_ble_eq_true rfl), (Nat.le_of_ble_eq_true rfl)⟩ ⟨Nat.le_refl _, Nat.le_refl _⟩ dX8_letters_14 (fun H locs hd => ?_)
  refine lv_iload hx hb dX8_letters_17 (lv_at hl 4 rfl) ?_
  obtain ⟨r5, er5, h⟩ := cal_e h
  refine rCallSL C hd (c_X8_appends hE er5) kX8_109 rfl hl.1 rfl (Nat.le_of_ble_eq_true rfl) ⟨(Nat.le_of_ble_eq_true rfl), (Nat.le_of_ble_eq_true rfl)⟩ ⟨Nat.le_refl _, Nat.le_refl _⟩ dX8_letters_19 (fun H locs hd => ?_)
  refine lv_iload hx hb dX8_letters_22 (lv_at hl 5 rfl) ?_
  obtain ⟨r6, er6, h⟩ := cal_e h
  refine rCallSL C hd (c_X8_appends hE er6) kX8_109 rfl hl.1 rfl (Nat.le_of_ble_eq_true rfl) ⟨(Nat.le_of_ble_eq_true rfl), (Nat.le_of_ble_eq_true rfl)⟩ ⟨Nat.le_refl _, Nat.le_refl _⟩ dX8_letters_24 (fun H locs hd => ?_)
  refine lv_iload hx hb dX8_letters_27 (lv_at hl 6 rfl) ?_
  obtain ⟨r7, er7, h⟩ := cal_e h
  refine rCallSL C hd (c_X8_appends hE er7) kX8_109 rfl hl.1 rfl (Nat.le_of_ble_eq_true rfl) ⟨(Nat.le_of_ble_eq_true rfl), (Nat.le_of_ble_eq_true rfl)⟩ ⟨Nat.le_refl _, Nat.le_refl _⟩ dX8_letters_29 (fun H locs hd => ?_)
  exact rLretP C hr hd h dX8_letters_32
noncomputable def f_X8_isMark (F : Nat) (σ : St) (x1 : Int32) (x2 : Int32) (x3 : Int32) : Option Int32 :=
  cal (f_X8_recordAt F σ x1 x2) (fun r1 => if inb r1 7164 = true then if (σ.2.1 19 r1.toNatClampNeg) = 2 then (cal (f_X8_recordAt F σ x1 x2) (fun r4 => if inb (r4 + 1) 7164 = true then if (σ.2.1 19 (r4 + 1).toNatClampNeg) = x3 then (some 1) else (some 0) else none)) else (some 0) else none)
set_option maxRecDepth 100000 in
set_option maxHeartbeats 4000000 in
theorem c_X8_isMark {l : Launch} {g : Gp} {X : va_W} (hE : E0 g) {F : Nat} {r' : Int32} {σ : St} {x1 : Int32} {x2 : Int32} {x3 : Int32} (h : f_X8_isMark F σ x1 x2 x3 = some r') : Ci l g yX8_isMark cX8_isMark 4 (some .boolean) 3 [.ref (ga g 40), .int x1, .int x2, .int x3] (wM g σ ++ X) r' (wM g σ ++ X) := by
  refine rHead hE (by decide +kernel) (Nat.le_of_ble_eq_true rfl) (fun p e s m below meth c C hr _ hd ls hl => ?_)
  have hx := C.1
  have hb := C.2.1
  have hl : lv_has ls 4 [(0, .ref (ga g 40)), (1, .int x1), (2, .int x2), (3, .int x3)] := hl
  generalize ([.ref (ga g 40), .int x1, .int x2, .int x3] : List Value).toArray = args at C ⊢
  have C : Cx g p s m args meth c cX8_isMark 4 RX8 := C
  rw [f_X8_isMark] at h
  refine lv_aload_n hx hb dX8_isMark_0 rfl (lv_at hl 0 rfl) ?_
  refine gX8_73 C hd dX8_isMark_1 ?_
  refine lv_aload_n hx hb dX8_isMark_4 rfl (lv_at hl 0 rfl) ?_
  refine lv_iload_n hx hb dX8_isMark_5 rfl (lv_at hl 1 rfl) ?_
  refine lv_iload_n hx hb dX8_isMark_6 rfl (lv_at hl 2 rfl) ?_
  obtain ⟨r1, er1, h⟩ := cal_e h
  refine rCallI C hd (c_X8_recordAt hE er1) kX8_280 0 rfl rfl rfl rfl hl.1 rfl (Nat.le_of_ble_eq_true rfl) ⟨(Nat.le_of_ble_eq_true rfl), (Nat.le_of_ble_eq_true rfl)⟩ ⟨Nat.le_refl _, Nat.le_refl _⟩ dX8_isMark_7 (fun H locs hd => ?_)
  obtain ⟨n2, h⟩ := chk h
  refine ld_wM_19 C hd (inb_i n2) dX8_isMark_10 ?_
  refine lv_iconst (v := 2) hx hb dX8_isMark_11 ic_2 ?_
  refine lv_icmp_ne (tgt := 36) hx hb dX8_isMark_12 (by decide) (fun c3 => ?_) (fun c3 => ?_)
  · replace h := iteF c3 h
    refine lv_iconst (v := 0) hx hb dX8_isMark_36 ic_0 ?_
    exact rZretP C hr hd h (by decide) dX8_isMark_37
  · replace h := iteT c3 h
    refine lv_aload_n hx hb dX8_isMark_15 rfl (lv_at hl 0 rfl) ?_
    refine gX8_73 C hd dX8_isMark_16 ?_
    refine lv_aload_n hx hb dX8_isMark_19 rfl (lv_at hl 0 rfl) ?_
    refine lv_iload_n hx hb dX8_isMark_20 rfl (lv_at hl 1 rfl) ?_
    refine lv_iload_n hx hb dX8_isMark_21 rfl (lv_at hl 2 rfl) ?_
    obtain ⟨r4, er4, h⟩ := cal_e h
    refine rCallI C hd (c_X8_recordAt hE er4) kX8_280 0 rfl rfl rfl rfl hl.1 rfl (Nat.le_of_ble_eq_true rfl) ⟨(Nat.le_of_ble_eq_true rfl), (Nat.le_of_ble_eq_true rfl)⟩ ⟨Nat.le_refl _, Nat.le_refl _⟩ dX8_isMark_22 (fun H locs hd => ?_)
    refine lv_iconst (v := 1) hx hb dX8_isMark_25 ic_1 ?_
    refine lv_iadd hx hb dX8_isMark_26 ?_
    obtain ⟨n5, h⟩ := chk h
    refine ld_wM_19 C hd (inb_i n5) dX8_isMark_27 ?_
    refine lv_iload_n hx hb dX8_isMark_28 rfl (lv_at hl 3 rfl) ?_
    refine lv_icmp_ne (tgt := 36) hx hb dX8_isMark_29 (by decide) (fun c6 => ?_) (fun c6 => ?_)
    · replace h := iteF c6 h
      refine lv_iconst (v := 0) hx hb dX8_isMark_36 ic_0 ?_
      exact rZretP C hr hd h (by decide) dX8_isMark_37
    · replace h := iteT c6 h
      refine lv_iconst (v := 1) hx hb dX8_isMark_32 ic_1 ?_
      refine lv_goto (tgt := 37) hx hb dX8_isMark_33 (by decide) ?_
      exact rZretP C hr hd h (by decide) dX8_isMark_37
noncomputable def f_X8_isNeeding (F : Nat) (σ : St) (x0 : Int32) : Option Int32 :=
  if x0 = 0 then (some 1) else (if x0 ≤ 3 then (some 0) else (some 1))
set_option maxRecDepth 100000 in
set_option maxHeartbeats 4000000 in
theorem c_X8_isNeeding {l : Launch} {g : Gp} {X : va_W} (hE : E0 g) {F : Nat} {r' : Int32} {σ : St} {x0 : Int32} (h : f_X8_isNeeding F σ x0 = some r') : Ci l g yX8_isNeeding cX8_isNeeding 1 (some .boolean) 0 [.int x0] (wM g σ ++ X) r' (wM g σ ++ X) := by
  refine rHead hE (by decide +kernel) (Nat.le_of_ble_eq_true rfl) (fun p e s m below meth c C hr _ hd ls hl => ?_)
  have hx := C.1
  have hb := C.2.1
  have hl : lv_has ls 1 [(0, .int x0)] := hl
  generalize ([.int x0] : List Value).toArray = args at C ⊢
  have C : Cx g p s m args meth c cX8_isNeeding 1 RX8 := C
  rw [f_X8_isNeeding] at h
  refine lv_iload_n hx hb dX8_isNeeding_0 rfl (lv_at hl 0 rfl) ?_
  refine lv_if_eq (tgt := 9) hx hb dX8_isNeeding_1 (by decide) (fun c1 => ?_) (fun c1 => ?_)
  · replace h := iteT c1 h
    refine lv_iconst (v := 1) hx hb dX8_isNeeding_9 ic_1 ?_
    refine lv_goto (tgt := 14) hx hb dX8_isNeeding_10 (by decide) ?_
    exact rZretP C hr hd h (by decide) dX8_isNeeding_14
  · replace h := iteF c1 h
    refine lv_iload_n hx hb dX8_isNeeding_4 rfl (lv_at hl 0 rfl) ?_
    refine lv_iconst (v := 3) hx hb dX8_isNeeding_5 ic_3 ?_
    refine lv_icmp_le (tgt := 13) hx hb dX8_isNeeding_6 (by decide) (fun c2 => ?_) (fun c2 => ?_)
    · replace h := iteT c2 h
      refine lv_iconst (v := 0) hx hb dX8_isNeeding_13 ic_0 ?_
      exact rZretP C hr hd h (by decide) dX8_isNeeding_14
    · replace h := iteF c2 h
      refine lv_iconst (v := 1) hx hb dX8_isNeeding_9 ic_1 ?_
      refine lv_goto (tgt := 14) hx hb dX8_isNeeding_10 (by decide) ?_
      exact rZretP C hr hd h (by decide) dX8_isNeeding_14
noncomputable def f_X8_isRecord (F : Nat) (σ : St) (x1 : Int32) (x2 : Int32) : Option Int32 :=
  cal (f_X8_isAt F σ x1 x2) (fun r1 => if r1 = 0 then (some 0) else (if x2 ≤ 0 then (some 0) else (some 1)))
set_option maxRecDepth 100000 in
set_option maxHeartbeats 4000000 in
theorem c_X8_isRecord {l : Launch} {g : Gp} {X : va_W} (hE : E0 g) {F : Nat} {r' : Int32} {σ : St} {x1 : Int32} {x2 : Int32} (h : f_X8_isRecord F σ x1 x2 = some r') : Ci l g yX8_isRecord cX8_isRecord 3 (some .boolean) 3 [.ref (ga g 40), .int x1, .int x2] (wM g σ ++ X) r' (wM g σ ++ X) := by
  refine rHead hE (by decide +kernel) (Nat.le_of_ble_eq_true rfl) (fun p e s m below meth c C hr _ hd ls hl => ?_)
  have hx := C.1
  have hb := C.2.1
  have hl : lv_has ls 3 [(0, .ref (ga g 40)), (1, .int x1), (2, .int x2)] := hl
  generalize ([.ref (ga g 40), .int x1, .int x2] : List Value).toArray = args at C ⊢
  have C : Cx g p s m args meth c cX8_isRecord 3 RX8 := C
  rw [f_X8_isRecord] at h
  refine lv_aload_n hx hb dX8_isRecord_0 rfl (lv_at hl 0 rfl) ?_
  refine lv_iload_n hx hb dX8_isRecord_1 rfl (lv_at hl 1 rfl) ?_
  refine lv_iload_n hx hb dX8_isRecord_2 rfl (lv_at hl 2 rfl) ?_
  obtain ⟨r1, er1, h⟩ := cal_e h
  refine rCallI C hd (c_X8_isAt hE er1) kX8_304 0 rfl rfl rfl rfl hl.1 rfl (Nat.le_of_ble_eq_true rfl) ⟨(Nat.le_of_ble_eq_true rfl), (Nat.le_of_ble_eq_true rfl)⟩ ⟨Nat.le_refl _, Nat.le_refl _⟩ dX8_isRecord_3 (fun H locs hd => ?_)
  refine lv_if_eq (tgt := 17) hx hb dX8_isRecord_6 (by decide) (fun c2 => ?_) (fun c2 => ?_)
  · replace h := iteT c2 h
    refine lv_iconst (v := 0) hx hb dX8_isRecord_17 ic_0 ?_
    exact rZretP C hr hd h (by decide) dX8_isRecord_18
  · replace h := iteF c2 h
    refine lv_iload_n hx hb dX8_isRecord_9 rfl (lv_at hl 2 rfl) ?_
    refine lv_if_le (tgt := 17) hx hb dX8_isRecord_10 (by decide) (fun c3 => ?_) (fun c3 => ?_)
    · replace h := iteT c3 h
      refine lv_iconst (v := 0) hx hb dX8_isRecord_17 ic_0 ?_
      exact rZretP C hr hd h (by decide) dX8_isRecord_18
    · replace h := iteF c3 h
      refine lv_iconst (v := 1) hx hb dX8_isRecord_13 ic_1 ?_
      refine lv_goto (tgt := 18) hx hb dX8_isRecord_14 (by decide) ?_
      exact rZretP C hr hd h (by decide) dX8_isRecord_18
noncomputable def f_X8_last (F : Nat) (σ : St) (x1 : Int32) (x2 : Int32) (x3 : Int32) : Option Int32 :=
  cal (f_X8_isPage F σ x1) (fun r1 => if r1 = 0 then (some (-1 : Int32)) else (cal (f_X8_isAt F σ x2 x3) (fun r3 => if r3 = 0 then (some (-1 : Int32)) else (cal (f_X8_changeAhead F σ x1 x2 x3) (fun r5 => some r5)))))
set_option maxRecDepth 100000 in
set_option maxHeartbeats 4000000 in
theorem c_X8_last {l : Launch} {g : Gp} {X : va_W} (hE : E0 g) {F : Nat} {r' : Int32} {σ : St} {x1 : Int32} {x2 : Int32} {x3 : Int32} (h : f_X8_last F σ x1 x2 x3 = some r') : Ci l g yX8_last cX8_last 4 (some .int) 5 [.ref (ga g 40), .int x1, .int x2, .int x3] (wM g σ ++ X) r' (wM g σ ++ X) := by
  refine rHead hE (by decide +kernel) (Nat.le_of_ble_eq_true rfl) (fun p e s m below meth c C hr _ hd ls hl => ?_)
  have hx := C.1
  have hb := C.2.1
  have hl : lv_has ls 4 [(0, .ref (ga g 40)), (1, .int x1), (2, .int x2), (3, .int x3)] := hl
  generalize ([.ref (ga g 40), .int x1, .int x2, .int x3] : List Value).toArray = args at C ⊢
  have C : Cx g p s m args meth c cX8_last 4 RX8 := C
  rw [f_X8_last] at h
  refine lv_aload_n hx hb dX8_last_0 rfl (lv_at hl 0 rfl) ?_
  refine lv_iload_n hx hb dX8_last_1 rfl (lv_at hl 1 rfl) ?_
  obtain ⟨r1, er1, h⟩ := cal_e h
  refine rCallI C hd (c_X8_isPage hE er1) kX8_334 0 rfl rfl rfl rfl hl.1 rfl (Nat.le_of_ble_eq_true rfl) ⟨(Nat.le_of_ble_eq_true rfl), (Nat.le_of_ble_eq_true rfl)⟩ ⟨Nat.le_refl _, Nat.le_refl _⟩ dX8_last_2 (fun H locs hd => ?_)
  refine lv_if_eq (tgt := 27) hx hb dX8_last_5 (by decide) (fun c2 => ?_) (fun c2 => ?_)
  · replace h := iteT c2 h
    refine lv_iconst (v := (-1 : Int32)) hx hb dX8_last_27 ic_m1 ?_
    exact rIretP C hr hd h dX8_last_28
  · replace h := iteF c2 h
    refine lv_aload_n hx hb dX8_last_8 rfl (lv_at hl 0 rfl) ?_
    refine lv_iload_n hx hb dX8_last_9 rfl (lv_at hl 2 rfl) ?_
    refine lv_iload_n hx hb dX8_last_10 rfl (lv_at hl 3 rfl) ?_
    obtain ⟨r3, er3, h⟩ := cal_e h
    refine rCallI C hd (c_X8_isAt hE er3) kX8_304 0 rfl rfl rfl rfl hl.1 rfl (Nat.le_of_ble_eq_true rfl) ⟨(Nat.le_of_ble_eq_true rfl), (Nat.le_of_ble_eq_true rfl)⟩ ⟨Nat.le_refl _, Nat.le_refl _⟩ dX8_last_11 (fun H locs hd => ?_)
    refine lv_if_eq (tgt := 27) hx hb dX8_last_14 (by decide) (fun c4 => ?_) (fun c4 => ?_)
    · replace h := iteT c4 h
      refine lv_iconst (v := (-1 : Int32)) hx hb dX8_last_27 ic_m1 ?_
      exact rIretP C hr hd h dX8_last_28
    · replace h := iteF c4 h
      refine lv_aload_n hx hb dX8_last_17 rfl (lv_at hl 0 rfl) ?_
      refine lv_iload_n hx hb dX8_last_18 rfl (lv_at hl 1 rfl) ?_
      refine lv_iload_n hx hb dX8_last_19 rfl (lv_at hl 2 rfl) ?_
      refine lv_iload_n hx hb dX8_last_20 rfl (lv_at hl 3 rfl) ?_
      obtain ⟨r5, er5, h⟩ := cal_e h
      refine rCallI C hd (c_X8_changeAhead hE er5) kX8_362 0 rfl rfl rfl rfl hl.1 rfl (Nat.le_of_ble_eq_true rfl) ⟨(Nat.le_of_ble_eq_true rfl), (Nat.le_of_ble_eq_true rfl)⟩ ⟨Nat.le_refl _, Nat.le_refl _⟩ dX8_last_21 (fun H locs hd => ?_)
      refine lv_goto (tgt := 28) hx hb dX8_last_24 (by decide) ?_
      exact rIretP C hr hd h dX8_last_28
noncomputable def f_X8_linesOf_4 (F : Nat) : Nat → St → Int32 → Int32 → Option Int32
  | 0, _, _, _ => none
  | n + 1, σ, x2, x3 => if x3 ≤ 0 then (some x2) else (bnd (x2 + 1) (fun v2 => cal (f_X8_parentOf F σ x3) (fun r3 => f_X8_linesOf_4 F n σ v2 r3)))
set_option maxRecDepth 100000 in
set_option maxHeartbeats 4000000 in
theorem w_X8_linesOf_4 {F : Nat} {r' : Int32}  (C : Cx g p s m args meth c cX8_linesOf 4 RX8) (hr : meth.sig.returnType = some .int) :
    (∀ (n : Nat) (σ : St) (x2 : Int32) (x3 : Int32), f_X8_linesOf_4 F n σ x2 x3 = some r' → ∀ (H : Heap) (locs : List Loc) (ls : Array Slot), Dy g (wM g σ ++ X) s H locs → lv_has ls 4 [(0, .ref (ga g 40)), (2, .int x2), (3, .int x3)] → W p l e (rmD 1) s m args below meth c H locs 0 0 (QI g below args s (wM g σ ++ X) r') (F0 m 4 ls [])) := by
  have hx := C.1
  have hb := C.2.1
  have hE := C.2.2.2.2.2.2.2.2
  intro n
  induction n with
  | zero =>
    intro σ x2 x3 h
    cases h
  | succ n ih =>
    intro σ x2 x3 h H locs ls hd hl
    rw [f_X8_linesOf_4] at h
    refine lv_iload_n hx hb dX8_linesOf_4 rfl (lv_at hl 2 rfl) ?_
    refine lv_if_le (tgt := 20) hx hb dX8_linesOf_5 (by decide) (fun c1 => ?_) (fun c1 => ?_)
    · replace h := iteT c1 h
      refine lv_iload_n hx hb dX8_linesOf_20 rfl (lv_at hl 1 rfl) ?_
      exact rIretP C hr hd h dX8_linesOf_21
    · replace h := iteF c1 h
      obtain ⟨v2, ev2, h⟩ := bnd_e h
      refine lv_iinc (v := v2) (lv' := [(2, .int v2), (0, .ref (ga g 40)), (3, .int x3)]) hx hb dX8_linesOf_8 hl (k := 1) rfl ((ii_1 _).trans ev2.symm) (Nat.le_of_ble_eq_true rfl) rfl (fun ls hl => ?_)
      refine lv_aload_n hx hb dX8_linesOf_11 rfl (lv_at hl 1 rfl) ?_
      refine lv_iload_n hx hb dX8_linesOf_12 rfl (lv_at hl 2 rfl) ?_
      obtain ⟨r3, er3, h⟩ := cal_e h
      refine rCallI C hd (c_X8_parentOf hE er3) kX8_268 0 rfl rfl rfl rfl hl.1 rfl (Nat.le_of_ble_eq_true rfl) ⟨(Nat.le_of_ble_eq_true rfl), (Nat.le_of_ble_eq_true rfl)⟩ ⟨Nat.le_refl _, Nat.le_refl _⟩ dX8_linesOf_13 (fun H locs hd => ?_)
      refine lv_istore_n (lv' := [(3, .int r3), (2, .int v2), (0, .ref (ga g 40))]) hx hb dX8_linesOf_16 rfl hl (Nat.le_of_ble_eq_true rfl) rfl (fun ls hl => ?_)
      refine lv_goto (tgt := 4) hx hb dX8_linesOf_17 (by decide) ?_
      exact ih σ v2 r3 h _ _ _ hd (lv_sub hl [2, 1, 0] rfl)
noncomputable def f_X8_linesOf (F : Nat) (σ : St) (x1 : Int32) : Option Int32 :=
  f_X8_linesOf_4 F F σ 1 x1
set_option maxRecDepth 100000 in
set_option maxHeartbeats 4000000 in
theorem c_X8_linesOf {l : Launch} {g : Gp} {X : va_W} (hE : E0 g) {F : Nat} {r' : Int32} {σ : St} {x1 : Int32} (h : f_X8_linesOf F σ x1 = some r') : Ci l g yX8_linesOf cX8_linesOf 4 (some .int) 1 [.ref (ga g 40), .int x1] (wM g σ ++ X) r' (wM g σ ++ X) := by
  refine rHead hE (by decide +kernel) (Nat.le_of_ble_eq_true rfl) (fun p e s m below meth c C hr _ hd ls hl => ?_)
  have hx := C.1
  have hb := C.2.1
  have hl : lv_has ls 4 [(0, .ref (ga g 40)), (1, .int x1)] := hl
  generalize ([.ref (ga g 40), .int x1] : List Value).toArray = args at C ⊢
  have C : Cx g p s m args meth c cX8_linesOf 4 RX8 := C
  rw [f_X8_linesOf] at h
  refine lv_iconst (v := 1) hx hb dX8_linesOf_0 ic_1 ?_
  refine lv_istore_n (lv' := [(2, .int 1), (0, .ref (ga g 40)), (1, .int x1)]) hx hb dX8_linesOf_1 rfl hl (Nat.le_of_ble_eq_true rfl) rfl (fun ls hl => ?_)
  refine lv_iload_n hx hb dX8_linesOf_2 rfl (lv_at hl 2 rfl) ?_
  refine lv_istore_n (lv' := [(3, .int x1), (2, .int 1), (0, .ref (ga g 40)), (1, .int x1)]) hx hb dX8_linesOf_3 rfl hl (Nat.le_of_ble_eq_true rfl) rfl (fun ls hl => ?_)
  exact w_X8_linesOf_4 C hr _ σ 1 x1 h _ _ _ hd (lv_sub hl [2, 1, 0] rfl)
noncomputable def f_X8_line (F : Nat) (σ : St) (x1 : Int32) (x2 : Int32) : Option Int32 :=
  cal (f_X8_isLine F σ x1) (fun r1 => if r1 = 0 then (some (-1 : Int32)) else (if x2 = 0 then (if inb ((20 + (4 * x1)) + x2) 7164 = true then some (σ.2.1 19 ((20 + (4 * x1)) + x2).toNatClampNeg) else none) else (if x2 = 1 then (if inb ((20 + (4 * x1)) + x2) 7164 = true then some (σ.2.1 19 ((20 + (4 * x1)) + x2).toNatClampNeg) else none) else (if x2 = 2 then (if inb ((20 + (4 * x1)) + x2) 7164 = true then some (σ.2.1 19 ((20 + (4 * x1)) + x2).toNatClampNeg) else none) else (if x2 = 3 then (cal (f_X8_linesOf F σ x1) (fun r10 => some r10)) else (if x2 = 4 then (cal (f_X8_firstPiece F σ x1) (fun r12 => some r12)) else (some (-1 : Int32))))))))
set_option maxRecDepth 100000 in
set_option maxHeartbeats 4000000 in
theorem c_X8_line {l : Launch} {g : Gp} {X : va_W} (hE : E0 g) {F : Nat} {r' : Int32} {σ : St} {x1 : Int32} {x2 : Int32} (h : f_X8_line F σ x1 x2 = some r') : Ci l g yX8_line cX8_line 3 (some .int) 2 [.ref (ga g 40), .int x1, .int x2] (wM g σ ++ X) r' (wM g σ ++ X) := by
  refine rHead hE (by decide +kernel) (Nat.le_of_ble_eq_true rfl) (fun p e s m below meth c C hr _ hd ls hl => ?_)
  have hx := C.1
  have hb := C.2.1
  have hl : lv_has ls 3 [(0, .ref (ga g 40)), (1, .int x1), (2, .int x2)] := hl
  generalize ([.ref (ga g 40), .int x1, .int x2] : List Value).toArray = args at C ⊢
  have C : Cx g p s m args meth c cX8_line 3 RX8 := C
  rw [f_X8_line] at h
  refine lv_aload_n hx hb dX8_line_0 rfl (lv_at hl 0 rfl) ?_
  refine lv_iload_n hx hb dX8_line_1 rfl (lv_at hl 1 rfl) ?_
  obtain ⟨r1, er1, h⟩ := cal_e h
  refine rCallI C hd (c_X8_isLine hE er1) kX8_262 0 rfl rfl rfl rfl hl.1 rfl (Nat.le_of_ble_eq_true rfl) ⟨(Nat.le_of_ble_eq_true rfl), (Nat.le_of_ble_eq_true rfl)⟩ ⟨Nat.le_refl _, Nat.le_refl _⟩ dX8_line_2 (fun H locs hd => ?_)
  refine lv_if_ne (tgt := 10) hx hb dX8_line_5 (by decide) (fun c2 => ?_) (fun c2 => ?_)
  · replace h := iteF c2 h
    refine lv_iload_n hx hb dX8_line_10 rfl (lv_at hl 2 rfl) ?_
    by_cases c3 : x2 = 0
    · replace h := iteT c3 h
      refine rTop c3.symm ?_
      refine lv_tableIn (off := 33) (tgt := 44) hx hb dX8_line_11 (by decide) (by decide) (by decide) (by decide) ?_
      refine lv_aload_n hx hb dX8_line_44 rfl (lv_at hl 0 rfl) ?_
      refine gX8_73 C hd dX8_line_45 ?_
      refine lv_bipush (v := 20) hx hb dX8_line_48 bi_20 ?_
      refine lv_iconst (v := 4) hx hb dX8_line_50 ic_4 ?_
      refine lv_iload_n hx hb dX8_line_51 rfl (lv_at hl 1 rfl) ?_
      refine lv_imul hx hb dX8_line_52 ?_
      refine lv_iadd hx hb dX8_line_53 ?_
      refine lv_iload_n hx hb dX8_line_54 rfl (lv_at hl 2 rfl) ?_
      refine lv_iadd hx hb dX8_line_55 ?_
      obtain ⟨n4, h⟩ := chk h
      refine ld_wM_19 C hd (inb_i n4) dX8_line_56 ?_
      exact rIretP C hr hd h dX8_line_57
    · replace h := iteF c3 h
      by_cases c5 : x2 = 1
      · replace h := iteT c5 h
        refine rTop c5.symm ?_
        refine lv_tableIn (off := 33) (tgt := 44) hx hb dX8_line_11 (by decide) (by decide) (by decide) (by decide) ?_
        refine lv_aload_n hx hb dX8_line_44 rfl (lv_at hl 0 rfl) ?_
        refine gX8_73 C hd dX8_line_45 ?_
        refine lv_bipush (v := 20) hx hb dX8_line_48 bi_20 ?_
        refine lv_iconst (v := 4) hx hb dX8_line_50 ic_4 ?_
        refine lv_iload_n hx hb dX8_line_51 rfl (lv_at hl 1 rfl) ?_
        refine lv_imul hx hb dX8_line_52 ?_
        refine lv_iadd hx hb dX8_line_53 ?_
        refine lv_iload_n hx hb dX8_line_54 rfl (lv_at hl 2 rfl) ?_
        refine lv_iadd hx hb dX8_line_55 ?_
        obtain ⟨n6, h⟩ := chk h
        refine ld_wM_19 C hd (inb_i n6) dX8_line_56 ?_
        exact rIretP C hr hd h dX8_line_57
      · replace h := iteF c5 h
        by_cases c7 : x2 = 2
        · replace h := iteT c7 h
          refine rTop c7.symm ?_
          refine lv_tableIn (off := 33) (tgt := 44) hx hb dX8_line_11 (by decide) (by decide) (by decide) (by decide) ?_
          refine lv_aload_n hx hb dX8_line_44 rfl (lv_at hl 0 rfl) ?_
          refine gX8_73 C hd dX8_line_45 ?_
          refine lv_bipush (v := 20) hx hb dX8_line_48 bi_20 ?_
          refine lv_iconst (v := 4) hx hb dX8_line_50 ic_4 ?_
          refine lv_iload_n hx hb dX8_line_51 rfl (lv_at hl 1 rfl) ?_
          refine lv_imul hx hb dX8_line_52 ?_
          refine lv_iadd hx hb dX8_line_53 ?_
          refine lv_iload_n hx hb dX8_line_54 rfl (lv_at hl 2 rfl) ?_
          refine lv_iadd hx hb dX8_line_55 ?_
          obtain ⟨n8, h⟩ := chk h
          refine ld_wM_19 C hd (inb_i n8) dX8_line_56 ?_
          exact rIretP C hr hd h dX8_line_57
        · replace h := iteF c7 h
          by_cases c9 : x2 = 3
          · replace h := iteT c9 h
            refine rTop c9.symm ?_
            refine lv_tableIn (off := 47) (tgt := 58) hx hb dX8_line_11 (by decide) (by decide) (by decide) (by decide) ?_
            refine lv_aload_n hx hb dX8_line_58 rfl (lv_at hl 0 rfl) ?_
            refine lv_iload_n hx hb dX8_line_59 rfl (lv_at hl 1 rfl) ?_
            obtain ⟨r10, er10, h⟩ := cal_e h
            refine rCallI C hd (c_X8_linesOf hE er10) kX8_359 0 rfl rfl rfl rfl hl.1 rfl (Nat.le_of_ble_eq_true rfl) ⟨(Nat.le_of_ble_eq_true rfl), (Nat.le_of_ble_eq_true rfl)⟩ ⟨Nat.le_refl _, Nat.le_refl _⟩ dX8_line_60 (fun H locs hd => ?_)
            exact rIretP C hr hd h dX8_line_63
          · replace h := iteF c9 h
            by_cases c11 : x2 = 4
            · replace h := iteT c11 h
              refine rTop c11.symm ?_
              refine lv_tableIn (off := 53) (tgt := 64) hx hb dX8_line_11 (by decide) (by decide) (by decide) (by decide) ?_
              refine lv_aload_n hx hb dX8_line_64 rfl (lv_at hl 0 rfl) ?_
              refine lv_iload_n hx hb dX8_line_65 rfl (lv_at hl 1 rfl) ?_
              obtain ⟨r12, er12, h⟩ := cal_e h
              refine rCallI C hd (c_X8_firstPiece hE er12) kX8_292 0 rfl rfl rfl rfl hl.1 rfl (Nat.le_of_ble_eq_true rfl) ⟨(Nat.le_of_ble_eq_true rfl), (Nat.le_of_ble_eq_true rfl)⟩ ⟨Nat.le_refl _, Nat.le_refl _⟩ dX8_line_66 (fun H locs hd => ?_)
              exact rIretP C hr hd h dX8_line_69
            · replace h := iteF c11 h
              refine lv_tableOut (tgt := 70) hx hb dX8_line_11 (sw_out (lo := 0) (hi := 4) (fun z z1 z2 e => ?_)) (by decide) ?_
              · have hz : z = 0 ∨ z = 1 ∨ z = 2 ∨ z = 3 ∨ z = 4 := by omega
                rcases hz with rfl | rfl | rfl | rfl | rfl
                · exact c3 (Int32.toInt_inj.mp (e.trans (by decide)))
                · exact c5 (Int32.toInt_inj.mp (e.trans (by decide)))
                · exact c7 (Int32.toInt_inj.mp (e.trans (by decide)))
                · exact c9 (Int32.toInt_inj.mp (e.trans (by decide)))
                · exact c11 (Int32.toInt_inj.mp (e.trans (by decide)))
              refine lv_iconst (v := (-1 : Int32)) hx hb dX8_line_70 ic_m1 ?_
              exact rIretP C hr hd h dX8_line_71
  · replace h := iteT c2 h
    refine lv_iconst (v := (-1 : Int32)) hx hb dX8_line_8 ic_m1 ?_
    exact rIretP C hr hd h dX8_line_9
noncomputable def f_X8_lose (F : Nat) (σ : St) (x1 : Int32) (x2 : Int32) : Option (Int32 × St) :=
  cal (f_X8_hasPiece F σ x1 x2) (fun r1 => if r1 = 0 then (some (0, σ)) else (cal (f_X8_keptOf F σ x1 x2) (fun r3 => if r3 = 0 then (some (0, σ)) else (if inb ((420 + (120 * x1)) + x2) 7164 = true then bnd (sr σ 19 ((420 + (120 * x1)) + x2).toNatClampNeg 0) (fun t6 => some (1, t6)) else none))))
set_option maxRecDepth 100000 in
set_option maxHeartbeats 4000000 in
theorem c_X8_lose {l : Launch} {g : Gp} {X : va_W} (hE : E0 g) {F : Nat} {r' : Int32} {σ' : St} {σ : St} {x1 : Int32} {x2 : Int32} (h : f_X8_lose F σ x1 x2 = some (r', σ')) : Ci l g yX8_lose cX8_lose 3 (some .boolean) 3 [.ref (ga g 40), .int x1, .int x2] (wM g σ ++ X) r' (wM g σ' ++ X) := by
  refine rHead hE (by decide +kernel) (Nat.le_of_ble_eq_true rfl) (fun p e s m below meth c C hr _ hd ls hl => ?_)
  have hx := C.1
  have hb := C.2.1
  have hl : lv_has ls 3 [(0, .ref (ga g 40)), (1, .int x1), (2, .int x2)] := hl
  generalize ([.ref (ga g 40), .int x1, .int x2] : List Value).toArray = args at C ⊢
  have C : Cx g p s m args meth c cX8_lose 3 RX8 := C
  rw [f_X8_lose] at h
  refine lv_aload_n hx hb dX8_lose_0 rfl (lv_at hl 0 rfl) ?_
  refine lv_iload_n hx hb dX8_lose_1 rfl (lv_at hl 1 rfl) ?_
  refine lv_iload_n hx hb dX8_lose_2 rfl (lv_at hl 2 rfl) ?_
  obtain ⟨r1, er1, h⟩ := cal_e h
  refine rCallI C hd (c_X8_hasPiece hE er1) kX8_352 0 rfl rfl rfl rfl hl.1 rfl (Nat.le_of_ble_eq_true rfl) ⟨(Nat.le_of_ble_eq_true rfl), (Nat.le_of_ble_eq_true rfl)⟩ ⟨Nat.le_refl _, Nat.le_refl _⟩ dX8_lose_3 (fun H locs hd => ?_)
  refine lv_if_eq (tgt := 18) hx hb dX8_lose_6 (by decide) (fun c2 => ?_) (fun c2 => ?_)
  · replace h := iteT c2 h
    refine lv_iconst (v := 0) hx hb dX8_lose_18 ic_0 ?_
    exact rZretS (w := wM g) C hr hd h (by decide) dX8_lose_19
  · replace h := iteF c2 h
    refine lv_aload_n hx hb dX8_lose_9 rfl (lv_at hl 0 rfl) ?_
    refine lv_iload_n hx hb dX8_lose_10 rfl (lv_at hl 1 rfl) ?_
    refine lv_iload_n hx hb dX8_lose_11 rfl (lv_at hl 2 rfl) ?_
    obtain ⟨r3, er3, h⟩ := cal_e h
    refine rCallI C hd (c_X8_keptOf hE er3) kX8_295 0 rfl rfl rfl rfl hl.1 rfl (Nat.le_of_ble_eq_true rfl) ⟨(Nat.le_of_ble_eq_true rfl), (Nat.le_of_ble_eq_true rfl)⟩ ⟨Nat.le_refl _, Nat.le_refl _⟩ dX8_lose_12 (fun H locs hd => ?_)
    refine lv_if_ne (tgt := 20) hx hb dX8_lose_15 (by decide) (fun c4 => ?_) (fun c4 => ?_)
    · replace h := iteF c4 h
      refine lv_aload_n hx hb dX8_lose_20 rfl (lv_at hl 0 rfl) ?_
      refine gX8_73 C hd dX8_lose_21 ?_
      refine lv_sipush (v := 420) hx hb dX8_lose_24 si_420 ?_
      refine lv_bipush (v := 120) hx hb dX8_lose_27 bi_120 ?_
      refine lv_iload_n hx hb dX8_lose_29 rfl (lv_at hl 1 rfl) ?_
      refine lv_imul hx hb dX8_lose_30 ?_
      refine lv_iadd hx hb dX8_lose_31 ?_
      refine lv_iload_n hx hb dX8_lose_32 rfl (lv_at hl 2 rfl) ?_
      refine lv_iadd hx hb dX8_lose_33 ?_
      refine lv_iconst (v := 0) hx hb dX8_lose_34 ic_0 ?_
      obtain ⟨n5, h⟩ := chk h
      obtain ⟨t6, et6, h⟩ := bnd_e h
      refine st_wM_19 C hd (inb_i n5) et6 dX8_lose_35 (fun H locs hd => ?_)
      refine lv_iconst (v := 1) hx hb dX8_lose_36 ic_1 ?_
      exact rZretS (w := wM g) C hr hd h (by decide) dX8_lose_37
    · replace h := iteT c4 h
      refine lv_iconst (v := 0) hx hb dX8_lose_18 ic_0 ?_
      exact rZretS (w := wM g) C hr hd h (by decide) dX8_lose_19
noncomputable def f_X8_pagesOf_61 (F : Nat) (k_5 : St → Int32 → Int32 → Int32 → Int32 → Option Int32) (σ : St) (x1 : Int32) (x2 : Int32) (x3 : Int32) (x4 : Int32) : Option Int32 :=
  bnd (x4 + 1) (fun v1 => k_5 σ x1 x2 x3 v1)
set_option maxRecDepth 100000 in
set_option maxHeartbeats 4000000 in
theorem w_X8_pagesOf_61 {F : Nat} {r' : Int32}  (C : Cx g p s m args meth c cX8_pagesOf 5 RX8) (hr : meth.sig.returnType = some .int)
    {k_5 : St → Int32 → Int32 → Int32 → Int32 → Option Int32} (hk_5 : (∀ (σ : St) (x1 : Int32) (x2 : Int32) (x3 : Int32) (x4 : Int32), k_5 σ x1 x2 x3 x4 = some r' → ∀ (H : Heap) (locs : List Loc) (ls : Array Slot), Dy g (wM g σ ++ X) s H locs → lv_has ls 5 [(0, .ref (ga g 40)), (1, .int x1), (2, .int x2), (3, .int x3), (4, .int x4)] → W p l e (rmD 2) s m args below meth c H locs 0 0 (QI g below args s (wM g σ ++ X) r') (F0 m 5 ls []))) :
    (∀ (σ : St) (x1 : Int32) (x2 : Int32) (x3 : Int32) (x4 : Int32), f_X8_pagesOf_61 F k_5 σ x1 x2 x3 x4 = some r' → ∀ (H : Heap) (locs : List Loc) (ls : Array Slot), Dy g (wM g σ ++ X) s H locs → lv_has ls 5 [(0, .ref (ga g 40)), (1, .int x1), (2, .int x2), (3, .int x3), (4, .int x4)] → W p l e (rmD 2) s m args below meth c H locs 0 0 (QI g below args s (wM g σ ++ X) r') (F0 m 61 ls [])) := by
  have hx := C.1
  have hb := C.2.1
  have hE := C.2.2.2.2.2.2.2.2
  intro σ x1 x2 x3 x4 h H locs ls hd hl
  rw [f_X8_pagesOf_61] at h
  obtain ⟨v1, ev1, h⟩ := bnd_e h
  refine lv_iinc (v := v1) (lv' := [(4, .int v1), (0, .ref (ga g 40)), (1, .int x1), (2, .int x2), (3, .int x3)]) hx hb dX8_pagesOf_61 hl (k := 4) rfl ((ii_1 _).trans ev1.symm) (Nat.le_of_ble_eq_true rfl) rfl (fun ls hl => ?_)
  refine lv_goto (tgt := 5) hx hb dX8_pagesOf_64 (by decide) ?_
  exact hk_5 σ x1 x2 x3 v1 h _ _ _ hd (lv_sub hl [1, 2, 3, 4, 0] rfl)
noncomputable def f_X8_pagesOf_54 (F : Nat) (k_5 : St → Int32 → Int32 → Int32 → Int32 → Option Int32) (σ : St) (x1 : Int32) (x2 : Int32) (x3 : Int32) (x4 : Int32) : Option Int32 :=
  bnd (x3 ||| (1 <<< (x4 &&& 31))) (fun v1 => f_X8_pagesOf_61 F k_5 σ x1 x2 v1 x4)
set_option maxRecDepth 100000 in
set_option maxHeartbeats 4000000 in
theorem w_X8_pagesOf_54 {F : Nat} {r' : Int32}  (C : Cx g p s m args meth c cX8_pagesOf 5 RX8) (hr : meth.sig.returnType = some .int)
    {k_5 : St → Int32 → Int32 → Int32 → Int32 → Option Int32} (hk_5 : (∀ (σ : St) (x1 : Int32) (x2 : Int32) (x3 : Int32) (x4 : Int32), k_5 σ x1 x2 x3 x4 = some r' → ∀ (H : Heap) (locs : List Loc) (ls : Array Slot), Dy g (wM g σ ++ X) s H locs → lv_has ls 5 [(0, .ref (ga g 40)), (1, .int x1), (2, .int x2), (3, .int x3), (4, .int x4)] → W p l e (rmD 2) s m args below meth c H locs 0 0 (QI g below args s (wM g σ ++ X) r') (F0 m 5 ls []))) :
    (∀ (σ : St) (x1 : Int32) (x2 : Int32) (x3 : Int32) (x4 : Int32), f_X8_pagesOf_54 F k_5 σ x1 x2 x3 x4 = some r' → ∀ (H : Heap) (locs : List Loc) (ls : Array Slot), Dy g (wM g σ ++ X) s H locs → lv_has ls 5 [(0, .ref (ga g 40)), (1, .int x1), (2, .int x2), (3, .int x3), (4, .int x4)] → W p l e (rmD 2) s m args below meth c H locs 0 0 (QI g below args s (wM g σ ++ X) r') (F0 m 54 ls [])) := by
  have hx := C.1
  have hb := C.2.1
  have hE := C.2.2.2.2.2.2.2.2
  intro σ x1 x2 x3 x4 h H locs ls hd hl
  rw [f_X8_pagesOf_54] at h
  refine lv_iload_n hx hb dX8_pagesOf_54 rfl (lv_at hl 3 rfl) ?_
  refine lv_iconst (v := 1) hx hb dX8_pagesOf_55 ic_1 ?_
  refine lv_iload hx hb dX8_pagesOf_56 (lv_at hl 4 rfl) ?_
  refine lv_ishl hx hb dX8_pagesOf_58 ?_
  refine lv_ior hx hb dX8_pagesOf_59 ?_
  obtain ⟨v1, ev1, h⟩ := bnd_e h
  refine rTop ev1 ?_
  refine lv_istore_n (lv' := [(3, .int v1), (0, .ref (ga g 40)), (1, .int x1), (2, .int x2), (4, .int x4)]) hx hb dX8_pagesOf_60 rfl hl (Nat.le_of_ble_eq_true rfl) rfl (fun ls hl => ?_)
  exact w_X8_pagesOf_61 C hr hk_5 σ x1 x2 v1 x4 h _ _ _ hd (lv_sub hl [1, 2, 3, 0, 4] rfl)
noncomputable def f_X8_pagesOf_5 (F : Nat) : Nat → St → Int32 → Int32 → Int32 → Int32 → Option Int32
  | 0, _, _, _, _, _ => none
  | n + 1, σ, x1, x2, x3, x4 => if (σ.2.1 19 0) ≤ x4 then (some x3) else (if x2 = 0 then (cal (f_X8_takenAt F σ x1 x4) (fun r3 => if r3 < 0 then (f_X8_pagesOf_61 F (f_X8_pagesOf_5 F n) σ x1 x2 x3 x4) else (f_X8_pagesOf_54 F (f_X8_pagesOf_5 F n) σ x1 x2 x3 x4))) else (if inb (100 + (4 * ((8 * x1) + x4))) 7164 = true then if (σ.2.1 19 (100 + (4 * ((8 * x1) + x4))).toNatClampNeg) = 1 then (f_X8_pagesOf_54 F (f_X8_pagesOf_5 F n) σ x1 x2 x3 x4) else (f_X8_pagesOf_61 F (f_X8_pagesOf_5 F n) σ x1 x2 x3 x4) else none))
set_option maxRecDepth 100000 in
set_option maxHeartbeats 4000000 in
theorem w_X8_pagesOf_5 {F : Nat} {r' : Int32}  (C : Cx g p s m args meth c cX8_pagesOf 5 RX8) (hr : meth.sig.returnType = some .int) :
    (∀ (n : Nat) (σ : St) (x1 : Int32) (x2 : Int32) (x3 : Int32) (x4 : Int32), f_X8_pagesOf_5 F n σ x1 x2 x3 x4 = some r' → ∀ (H : Heap) (locs : List Loc) (ls : Array Slot), Dy g (wM g σ ++ X) s H locs → lv_has ls 5 [(0, .ref (ga g 40)), (1, .int x1), (2, .int x2), (3, .int x3), (4, .int x4)] → W p l e (rmD 2) s m args below meth c H locs 0 0 (QI g below args s (wM g σ ++ X) r') (F0 m 5 ls [])) := by
  have hx := C.1
  have hb := C.2.1
  have hE := C.2.2.2.2.2.2.2.2
  intro n
  induction n with
  | zero =>
    intro σ x1 x2 x3 x4 h
    cases h
  | succ n ih =>
    intro σ x1 x2 x3 x4 h H locs ls hd hl
    rw [f_X8_pagesOf_5] at h
    refine lv_iload hx hb dX8_pagesOf_5 (lv_at hl 4 rfl) ?_
    refine lv_aload_n hx hb dX8_pagesOf_7 rfl (lv_at hl 0 rfl) ?_
    refine gX8_73 C hd dX8_pagesOf_8 ?_
    refine lv_iconst (v := 0) hx hb dX8_pagesOf_11 ic_0 ?_
    refine ldc_wM_19 C hd cl_0 (inb_i (by decide +kernel)) dX8_pagesOf_12 ?_
    refine lv_icmp_ge (tgt := 67) hx hb dX8_pagesOf_13 (by decide) (fun c1 => ?_) (fun c1 => ?_)
    · replace h := iteT c1 h
      refine lv_iload_n hx hb dX8_pagesOf_67 rfl (lv_at hl 3 rfl) ?_
      exact rIretP C hr hd h dX8_pagesOf_68
    · replace h := iteF c1 h
      refine lv_iload_n hx hb dX8_pagesOf_16 rfl (lv_at hl 2 rfl) ?_
      refine lv_if_eq (tgt := 44) hx hb dX8_pagesOf_17 (by decide) (fun c2 => ?_) (fun c2 => ?_)
      · replace h := iteT c2 h
        refine lv_aload_n hx hb dX8_pagesOf_44 rfl (lv_at hl 0 rfl) ?_
        refine lv_iload_n hx hb dX8_pagesOf_45 rfl (lv_at hl 1 rfl) ?_
        refine lv_iload hx hb dX8_pagesOf_46 (lv_at hl 4 rfl) ?_
        obtain ⟨r3, er3, h⟩ := cal_e h
        refine rCallI C hd (c_X8_takenAt hE er3) kX8_289 0 rfl rfl rfl rfl hl.1 rfl (Nat.le_of_ble_eq_true rfl) ⟨(Nat.le_of_ble_eq_true rfl), (Nat.le_of_ble_eq_true rfl)⟩ ⟨Nat.le_refl _, Nat.le_refl _⟩ dX8_pagesOf_48 (fun H locs hd => ?_)
        refine lv_if_lt (tgt := 61) hx hb dX8_pagesOf_51 (by decide) (fun c4 => ?_) (fun c4 => ?_)
        · replace h := iteT c4 h
          exact w_X8_pagesOf_61 C hr ih σ x1 x2 x3 x4 h _ _ _ hd (lv_sub hl [0, 1, 2, 3, 4] rfl)
        · replace h := iteF c4 h
          exact w_X8_pagesOf_54 C hr ih σ x1 x2 x3 x4 h _ _ _ hd (lv_sub hl [0, 1, 2, 3, 4] rfl)
      · replace h := iteF c2 h
        refine lv_aload_n hx hb dX8_pagesOf_20 rfl (lv_at hl 0 rfl) ?_
        refine gX8_73 C hd dX8_pagesOf_21 ?_
        refine lv_bipush (v := 100) hx hb dX8_pagesOf_24 bi_100 ?_
        refine lv_iconst (v := 4) hx hb dX8_pagesOf_26 ic_4 ?_
        refine lv_bipush (v := 8) hx hb dX8_pagesOf_27 bi_8 ?_
        refine lv_iload_n hx hb dX8_pagesOf_29 rfl (lv_at hl 1 rfl) ?_
        refine lv_imul hx hb dX8_pagesOf_30 ?_
        refine lv_iload hx hb dX8_pagesOf_31 (lv_at hl 4 rfl) ?_
        refine lv_iadd hx hb dX8_pagesOf_33 ?_
        refine lv_imul hx hb dX8_pagesOf_34 ?_
        refine lv_iadd hx hb dX8_pagesOf_35 ?_
        obtain ⟨n5, h⟩ := chk h
        refine ld_wM_19 C hd (inb_i n5) dX8_pagesOf_36 ?_
        refine lv_iconst (v := 1) hx hb dX8_pagesOf_37 ic_1 ?_
        refine lv_icmp_ne (tgt := 61) hx hb dX8_pagesOf_38 (by decide) (fun c6 => ?_) (fun c6 => ?_)
        · replace h := iteF c6 h
          exact w_X8_pagesOf_61 C hr ih σ x1 x2 x3 x4 h _ _ _ hd (lv_sub hl [0, 1, 2, 3, 4] rfl)
        · replace h := iteT c6 h
          refine lv_goto (tgt := 54) hx hb dX8_pagesOf_41 (by decide) ?_
          exact w_X8_pagesOf_54 C hr ih σ x1 x2 x3 x4 h _ _ _ hd (lv_sub hl [0, 1, 2, 3, 4] rfl)
noncomputable def f_X8_pagesOf (F : Nat) (σ : St) (x1 : Int32) (x2 : Int32) : Option Int32 :=
  f_X8_pagesOf_5 F F σ x1 x2 0 0
set_option maxRecDepth 100000 in
set_option maxHeartbeats 4000000 in
theorem c_X8_pagesOf {l : Launch} {g : Gp} {X : va_W} (hE : E0 g) {F : Nat} {r' : Int32} {σ : St} {x1 : Int32} {x2 : Int32} (h : f_X8_pagesOf F σ x1 x2 = some r') : Ci l g yX8_pagesOf cX8_pagesOf 5 (some .int) 2 [.ref (ga g 40), .int x1, .int x2] (wM g σ ++ X) r' (wM g σ ++ X) := by
  refine rHead hE (by decide +kernel) (Nat.le_of_ble_eq_true rfl) (fun p e s m below meth c C hr _ hd ls hl => ?_)
  have hx := C.1
  have hb := C.2.1
  have hl : lv_has ls 5 [(0, .ref (ga g 40)), (1, .int x1), (2, .int x2)] := hl
  generalize ([.ref (ga g 40), .int x1, .int x2] : List Value).toArray = args at C ⊢
  have C : Cx g p s m args meth c cX8_pagesOf 5 RX8 := C
  rw [f_X8_pagesOf] at h
  refine lv_iconst (v := 0) hx hb dX8_pagesOf_0 ic_0 ?_
  refine lv_istore_n (lv' := [(3, .int 0), (0, .ref (ga g 40)), (1, .int x1), (2, .int x2)]) hx hb dX8_pagesOf_1 rfl hl (Nat.le_of_ble_eq_true rfl) rfl (fun ls hl => ?_)
  refine lv_iconst (v := 0) hx hb dX8_pagesOf_2 ic_0 ?_
  refine lv_istore (lv' := [(4, .int 0), (3, .int 0), (0, .ref (ga g 40)), (1, .int x1), (2, .int x2)]) hx hb dX8_pagesOf_3 hl (Nat.le_of_ble_eq_true rfl) rfl (fun ls hl => ?_)
  exact w_X8_pagesOf_5 C hr _ σ x1 x2 0 0 h _ _ _ hd (lv_sub hl [2, 3, 4, 1, 0] rfl)
noncomputable def f_X8_made (F : Nat) (σ : St) (x1 : Int32) (x2 : Int32) : Option Int32 :=
  cal (f_X8_isCopy F σ x1) (fun r1 => if r1 = 0 then (some (-1 : Int32)) else (if x2 = 0 then (cal (f_X8_ofCopy F σ x1 x2) (fun r4 => some r4)) else (if x2 = 1 then (cal (f_X8_ofCopy F σ x1 x2) (fun r6 => some r6)) else (if x2 = 2 then (cal (f_X8_ofCopy F σ x1 x2) (fun r8 => some r8)) else (if x2 = 3 then (cal (f_X8_pagesOf F σ x1 1) (fun r10 => some r10)) else (if x2 = 4 then (cal (f_X8_pagesOf F σ x1 0) (fun r12 => some r12)) else (if x2 = 5 then (cal (f_X8_isFit F σ x1) (fun r14 => if r14 = 0 then (some 0) else (some 1))) else (if x2 = 6 then (cal (f_X8_chainOf F σ x1) (fun r17 => some r17)) else (if x2 = 7 then (cal (f_X8_ofCopy F σ x1 3) (fun r19 => some r19)) else (some (-1 : Int32)))))))))))
set_option maxRecDepth 100000 in
set_option maxHeartbeats 4000000 in
theorem c_X8_made {l : Launch} {g : Gp} {X : va_W} (hE : E0 g) {F : Nat} {r' : Int32} {σ : St} {x1 : Int32} {x2 : Int32} (h : f_X8_made F σ x1 x2 = some r') : Ci l g yX8_made cX8_made 3 (some .int) 3 [.ref (ga g 40), .int x1, .int x2] (wM g σ ++ X) r' (wM g σ ++ X) := by
  refine rHead hE (by decide +kernel) (Nat.le_of_ble_eq_true rfl) (fun p e s m below meth c C hr _ hd ls hl => ?_)
  have hx := C.1
  have hb := C.2.1
  have hl : lv_has ls 3 [(0, .ref (ga g 40)), (1, .int x1), (2, .int x2)] := hl
  generalize ([.ref (ga g 40), .int x1, .int x2] : List Value).toArray = args at C ⊢
  have C : Cx g p s m args meth c cX8_made 3 RX8 := C
  rw [f_X8_made] at h
  refine lv_aload_n hx hb dX8_made_0 rfl (lv_at hl 0 rfl) ?_
  refine lv_iload_n hx hb dX8_made_1 rfl (lv_at hl 1 rfl) ?_
  obtain ⟨r1, er1, h⟩ := cal_e h
  refine rCallI C hd (c_X8_isCopy hE er1) kX8_301 0 rfl rfl rfl rfl hl.1 rfl (Nat.le_of_ble_eq_true rfl) ⟨(Nat.le_of_ble_eq_true rfl), (Nat.le_of_ble_eq_true rfl)⟩ ⟨Nat.le_refl _, Nat.le_refl _⟩ dX8_made_2 (fun H locs hd => ?_)
  refine lv_if_ne (tgt := 10) hx hb dX8_made_5 (by decide) (fun c2 => ?_) (fun c2 => ?_)
  · replace h := iteF c2 h
    refine lv_iload_n hx hb dX8_made_10 rfl (lv_at hl 2 rfl) ?_
    by_cases c3 : x2 = 0
    · replace h := iteT c3 h
      refine rTop c3.symm ?_
      refine lv_tableIn (off := 45) (tgt := 56) hx hb dX8_made_11 (by decide) (by decide) (by decide) (by decide) ?_
      refine lv_aload_n hx hb dX8_made_56 rfl (lv_at hl 0 rfl) ?_
      refine lv_iload_n hx hb dX8_made_57 rfl (lv_at hl 1 rfl) ?_
      refine lv_iload_n hx hb dX8_made_58 rfl (lv_at hl 2 rfl) ?_
      obtain ⟨r4, er4, h⟩ := cal_e h
      refine rCallI C hd (c_X8_ofCopy hE er4) kX8_286 0 rfl rfl rfl rfl hl.1 rfl (Nat.le_of_ble_eq_true rfl) ⟨(Nat.le_of_ble_eq_true rfl), (Nat.le_of_ble_eq_true rfl)⟩ ⟨Nat.le_refl _, Nat.le_refl _⟩ dX8_made_59 (fun H locs hd => ?_)
      exact rIretP C hr hd h dX8_made_62
    · replace h := iteF c3 h
      by_cases c5 : x2 = 1
      · replace h := iteT c5 h
        refine rTop c5.symm ?_
        refine lv_tableIn (off := 45) (tgt := 56) hx hb dX8_made_11 (by decide) (by decide) (by decide) (by decide) ?_
        refine lv_aload_n hx hb dX8_made_56 rfl (lv_at hl 0 rfl) ?_
        refine lv_iload_n hx hb dX8_made_57 rfl (lv_at hl 1 rfl) ?_
        refine lv_iload_n hx hb dX8_made_58 rfl (lv_at hl 2 rfl) ?_
        obtain ⟨r6, er6, h⟩ := cal_e h
        refine rCallI C hd (c_X8_ofCopy hE er6) kX8_286 0 rfl rfl rfl rfl hl.1 rfl (Nat.le_of_ble_eq_true rfl) ⟨(Nat.le_of_ble_eq_true rfl), (Nat.le_of_ble_eq_true rfl)⟩ ⟨Nat.le_refl _, Nat.le_refl _⟩ dX8_made_59 (fun H locs hd => ?_)
        exact rIretP C hr hd h dX8_made_62
      · replace h := iteF c5 h
        by_cases c7 : x2 = 2
        · replace h := iteT c7 h
          refine rTop c7.symm ?_
          refine lv_tableIn (off := 45) (tgt := 56) hx hb dX8_made_11 (by decide) (by decide) (by decide) (by decide) ?_
          refine lv_aload_n hx hb dX8_made_56 rfl (lv_at hl 0 rfl) ?_
          refine lv_iload_n hx hb dX8_made_57 rfl (lv_at hl 1 rfl) ?_
          refine lv_iload_n hx hb dX8_made_58 rfl (lv_at hl 2 rfl) ?_
          obtain ⟨r8, er8, h⟩ := cal_e h
          refine rCallI C hd (c_X8_ofCopy hE er8) kX8_286 0 rfl rfl rfl rfl hl.1 rfl (Nat.le_of_ble_eq_true rfl) ⟨(Nat.le_of_ble_eq_true rfl), (Nat.le_of_ble_eq_true rfl)⟩ ⟨Nat.le_refl _, Nat.le_refl _⟩ dX8_made_59 (fun H locs hd => ?_)
          exact rIretP C hr hd h dX8_made_62
        · replace h := iteF c7 h
          by_cases c9 : x2 = 3
          · replace h := iteT c9 h
            refine rTop c9.symm ?_
            refine lv_tableIn (off := 52) (tgt := 63) hx hb dX8_made_11 (by decide) (by decide) (by decide) (by decide) ?_
            refine lv_aload_n hx hb dX8_made_63 rfl (lv_at hl 0 rfl) ?_
            refine lv_iload_n hx hb dX8_made_64 rfl (lv_at hl 1 rfl) ?_
            refine lv_iconst (v := 1) hx hb dX8_made_65 ic_1 ?_
            obtain ⟨r10, er10, h⟩ := cal_e h
            refine rCallI C hd (c_X8_pagesOf hE er10) kX8_368 0 rfl rfl rfl rfl hl.1 rfl (Nat.le_of_ble_eq_true rfl) ⟨(Nat.le_of_ble_eq_true rfl), (Nat.le_of_ble_eq_true rfl)⟩ ⟨Nat.le_refl _, Nat.le_refl _⟩ dX8_made_66 (fun H locs hd => ?_)
            exact rIretP C hr hd h dX8_made_69
          · replace h := iteF c9 h
            by_cases c11 : x2 = 4
            · replace h := iteT c11 h
              refine rTop c11.symm ?_
              refine lv_tableIn (off := 59) (tgt := 70) hx hb dX8_made_11 (by decide) (by decide) (by decide) (by decide) ?_
              refine lv_aload_n hx hb dX8_made_70 rfl (lv_at hl 0 rfl) ?_
              refine lv_iload_n hx hb dX8_made_71 rfl (lv_at hl 1 rfl) ?_
              refine lv_iconst (v := 0) hx hb dX8_made_72 ic_0 ?_
              obtain ⟨r12, er12, h⟩ := cal_e h
              refine rCallI C hd (c_X8_pagesOf hE er12) kX8_368 0 rfl rfl rfl rfl hl.1 rfl (Nat.le_of_ble_eq_true rfl) ⟨(Nat.le_of_ble_eq_true rfl), (Nat.le_of_ble_eq_true rfl)⟩ ⟨Nat.le_refl _, Nat.le_refl _⟩ dX8_made_73 (fun H locs hd => ?_)
              exact rIretP C hr hd h dX8_made_76
            · replace h := iteF c11 h
              by_cases c13 : x2 = 5
              · replace h := iteT c13 h
                refine rTop c13.symm ?_
                refine lv_tableIn (off := 66) (tgt := 77) hx hb dX8_made_11 (by decide) (by decide) (by decide) (by decide) ?_
                refine lv_aload_n hx hb dX8_made_77 rfl (lv_at hl 0 rfl) ?_
                refine lv_iload_n hx hb dX8_made_78 rfl (lv_at hl 1 rfl) ?_
                obtain ⟨r14, er14, h⟩ := cal_e h
                refine rCallI C hd (c_X8_isFit hE er14) kX8_307 0 rfl rfl rfl rfl hl.1 rfl (Nat.le_of_ble_eq_true rfl) ⟨(Nat.le_of_ble_eq_true rfl), (Nat.le_of_ble_eq_true rfl)⟩ ⟨Nat.le_refl _, Nat.le_refl _⟩ dX8_made_79 (fun H locs hd => ?_)
                refine lv_if_eq (tgt := 89) hx hb dX8_made_82 (by decide) (fun c15 => ?_) (fun c15 => ?_)
                · replace h := iteT c15 h
                  refine lv_iconst (v := 0) hx hb dX8_made_89 ic_0 ?_
                  exact rIretP C hr hd h dX8_made_90
                · replace h := iteF c15 h
                  refine lv_iconst (v := 1) hx hb dX8_made_85 ic_1 ?_
                  refine lv_goto (tgt := 90) hx hb dX8_made_86 (by decide) ?_
                  exact rIretP C hr hd h dX8_made_90
              · replace h := iteF c13 h
                by_cases c16 : x2 = 6
                · replace h := iteT c16 h
                  refine rTop c16.symm ?_
                  refine lv_tableIn (off := 80) (tgt := 91) hx hb dX8_made_11 (by decide) (by decide) (by decide) (by decide) ?_
                  refine lv_aload_n hx hb dX8_made_91 rfl (lv_at hl 0 rfl) ?_
                  refine lv_iload_n hx hb dX8_made_92 rfl (lv_at hl 1 rfl) ?_
                  obtain ⟨r17, er17, h⟩ := cal_e h
                  refine rCallI C hd (c_X8_chainOf hE er17) kX8_372 0 rfl rfl rfl rfl hl.1 rfl (Nat.le_of_ble_eq_true rfl) ⟨(Nat.le_of_ble_eq_true rfl), (Nat.le_of_ble_eq_true rfl)⟩ ⟨Nat.le_refl _, Nat.le_refl _⟩ dX8_made_93 (fun H locs hd => ?_)
                  exact rIretP C hr hd h dX8_made_96
                · replace h := iteF c16 h
                  by_cases c18 : x2 = 7
                  · replace h := iteT c18 h
                    refine rTop c18.symm ?_
                    refine lv_tableIn (off := 86) (tgt := 97) hx hb dX8_made_11 (by decide) (by decide) (by decide) (by decide) ?_
                    refine lv_aload_n hx hb dX8_made_97 rfl (lv_at hl 0 rfl) ?_
                    refine lv_iload_n hx hb dX8_made_98 rfl (lv_at hl 1 rfl) ?_
                    refine lv_iconst (v := 3) hx hb dX8_made_99 ic_3 ?_
                    obtain ⟨r19, er19, h⟩ := cal_e h
                    refine rCallI C hd (c_X8_ofCopy hE er19) kX8_286 0 rfl rfl rfl rfl hl.1 rfl (Nat.le_of_ble_eq_true rfl) ⟨(Nat.le_of_ble_eq_true rfl), (Nat.le_of_ble_eq_true rfl)⟩ ⟨Nat.le_refl _, Nat.le_refl _⟩ dX8_made_100 (fun H locs hd => ?_)
                    exact rIretP C hr hd h dX8_made_103
                  · replace h := iteF c18 h
                    refine lv_tableOut (tgt := 104) hx hb dX8_made_11 (sw_out (lo := 0) (hi := 7) (fun z z1 z2 e => ?_)) (by decide) ?_
                    · have hz : z = 0 ∨ z = 1 ∨ z = 2 ∨ z = 3 ∨ z = 4 ∨ z = 5 ∨ z = 6 ∨ z = 7 := by omega
                      rcases hz with rfl | rfl | rfl | rfl | rfl | rfl | rfl | rfl
                      · exact c3 (Int32.toInt_inj.mp (e.trans (by decide)))
                      · exact c5 (Int32.toInt_inj.mp (e.trans (by decide)))
                      · exact c7 (Int32.toInt_inj.mp (e.trans (by decide)))
                      · exact c9 (Int32.toInt_inj.mp (e.trans (by decide)))
                      · exact c11 (Int32.toInt_inj.mp (e.trans (by decide)))
                      · exact c13 (Int32.toInt_inj.mp (e.trans (by decide)))
                      · exact c16 (Int32.toInt_inj.mp (e.trans (by decide)))
                      · exact c18 (Int32.toInt_inj.mp (e.trans (by decide)))
                    refine lv_iconst (v := (-1 : Int32)) hx hb dX8_made_104 ic_m1 ?_
                    exact rIretP C hr hd h dX8_made_105
  · replace h := iteT c2 h
    refine lv_iconst (v := (-1 : Int32)) hx hb dX8_made_8 ic_m1 ?_
    exact rIretP C hr hd h dX8_made_9
noncomputable def f_X8_mark (F : Nat) (σ : St) (x1 : Int32) : Option (Int32 × St) :=
  cal2 (f_X8_comes F σ 2 x1 0) (fun r1 t2 => some (r1, t2))
set_option maxRecDepth 100000 in
set_option maxHeartbeats 4000000 in
theorem c_X8_mark {l : Launch} {g : Gp} {X : va_W} (hE : E0 g) {F : Nat} {r' : Int32} {σ' : St} {σ : St} {x1 : Int32} (h : f_X8_mark F σ x1 = some (r', σ')) : Ci l g yX8_mark cX8_mark 2 (some .int) 3 [.ref (ga g 40), .int x1] (wM g σ ++ X) r' (wM g σ' ++ X) := by
  refine rHead hE (by decide +kernel) (Nat.le_of_ble_eq_true rfl) (fun p e s m below meth c C hr _ hd ls hl => ?_)
  have hx := C.1
  have hb := C.2.1
  have hl : lv_has ls 2 [(0, .ref (ga g 40)), (1, .int x1)] := hl
  generalize ([.ref (ga g 40), .int x1] : List Value).toArray = args at C ⊢
  have C : Cx g p s m args meth c cX8_mark 2 RX8 := C
  rw [f_X8_mark] at h
  refine lv_aload_n hx hb dX8_mark_0 rfl (lv_at hl 0 rfl) ?_
  refine lv_iconst (v := 2) hx hb dX8_mark_1 ic_2 ?_
  refine lv_iload_n hx hb dX8_mark_2 rfl (lv_at hl 1 rfl) ?_
  refine lv_iconst (v := 0) hx hb dX8_mark_3 ic_0 ?_
  obtain ⟨r1, t2, et2, h⟩ := cal2_e h
  refine rCallI C hd (c_X8_comes hE et2) kX8_337 0 rfl rfl rfl rfl hl.1 rfl (Nat.le_of_ble_eq_true rfl) ⟨(Nat.le_of_ble_eq_true rfl), (Nat.le_of_ble_eq_true rfl)⟩ ⟨Nat.le_refl _, Nat.le_refl _⟩ dX8_mark_4 (fun H locs hd => ?_)
  exact rIretS (w := wM g) C hr hd h dX8_mark_7
noncomputable def f_X8_must (F : Nat) (σ : St) (x1 : Int32) : Option St :=
  cal (f_X8_is F σ x1) (fun r1 => if r1 = 0 then (cal (f_X8_fail F σ 1) (fun t3 => some t3)) else (cal (f_X8_goesOn F σ) (fun t4 => some t4)))
set_option maxRecDepth 100000 in
set_option maxHeartbeats 4000000 in
theorem c_X8_must {l : Launch} {g : Gp} {X : va_W} (hE : E0 g) {F : Nat} {σ' : St} {σ : St} {x1 : Int32} (h : f_X8_must F σ x1 = some σ') : Cv l g yX8_must cX8_must 2 2 [.ref (ga g 40), .int x1] (wM g σ ++ X) (wM g σ' ++ X) := by
  refine rHead hE (by decide +kernel) (Nat.le_of_ble_eq_true rfl) (fun p e s m below meth c C hr _ hd ls hl => ?_)
  have hx := C.1
  have hb := C.2.1
  have hl : lv_has ls 2 [(0, .ref (ga g 40)), (1, .int x1)] := hl
  generalize ([.ref (ga g 40), .int x1] : List Value).toArray = args at C ⊢
  have C : Cx g p s m args meth c cX8_must 2 RX8 := C
  rw [f_X8_must] at h
  refine lv_aload_n hx hb dX8_must_0 rfl (lv_at hl 0 rfl) ?_
  refine lv_iload_n hx hb dX8_must_1 rfl (lv_at hl 1 rfl) ?_
  obtain ⟨r1, er1, h⟩ := cal_e h
  refine rCallI C hd (c_X8_is hE er1) kX8_153 0 rfl rfl rfl rfl hl.1 rfl (Nat.le_of_ble_eq_true rfl) ⟨(Nat.le_of_ble_eq_true rfl), (Nat.le_of_ble_eq_true rfl)⟩ ⟨Nat.le_refl _, Nat.le_refl _⟩ dX8_must_2 (fun H locs hd => ?_)
  refine lv_if_eq (tgt := 15) hx hb dX8_must_5 (by decide) (fun c2 => ?_) (fun c2 => ?_)
  · replace h := iteT c2 h
    refine lv_aload_n hx hb dX8_must_15 rfl (lv_at hl 0 rfl) ?_
    refine lv_iconst (v := 1) hx hb dX8_must_16 ic_1 ?_
    obtain ⟨t3, et3, h⟩ := cal_e h
    refine rCallV C hd (c_X8_fail hE et3) kX8_150 0 rfl rfl rfl rfl hl.1 rfl (Nat.le_of_ble_eq_true rfl) ⟨(Nat.le_of_ble_eq_true rfl), (Nat.le_of_ble_eq_true rfl)⟩ ⟨Nat.le_refl _, Nat.le_refl _⟩ dX8_must_17 (fun H locs hd => ?_)
    exact rVretS (w := wM g) C hr hd h dX8_must_20
  · replace h := iteF c2 h
    refine lv_aload_n hx hb dX8_must_8 rfl (lv_at hl 0 rfl) ?_
    obtain ⟨t4, et4, h⟩ := cal_e h
    refine rCallV C hd (c_X8_goesOn hE et4) kX8_156 0 rfl rfl rfl rfl hl.1 rfl (Nat.le_of_ble_eq_true rfl) ⟨(Nat.le_of_ble_eq_true rfl), (Nat.le_of_ble_eq_true rfl)⟩ ⟨Nat.le_refl _, Nat.le_refl _⟩ dX8_must_9 (fun H locs hd => ?_)
    refine lv_goto (tgt := 20) hx hb dX8_must_12 (by decide) ?_
    exact rVretS (w := wM g) C hr hd h dX8_must_20
noncomputable def f_X8_says (F : Nat) (σ : St) (x1 : Int32) : Option St :=
  if inb (σ.1 18) 16 = true then bnd (sr σ 21 (σ.1 18).toNatClampNeg x1) (fun t2 => bnd (ss t2 18 ((t2.1 18) + 1)) (fun t3 => some t3)) else none
set_option maxRecDepth 100000 in
set_option maxHeartbeats 4000000 in
theorem c_X8_says {l : Launch} {g : Gp} {X : va_W} (hE : E0 g) {F : Nat} {σ' : St} {σ : St} {x1 : Int32} (h : f_X8_says F σ x1 = some σ') : Cv l g yX8_says cX8_says 2 0 [.ref (ga g 40), .int x1] (wM g σ ++ X) (wM g σ' ++ X) := by
  refine rHead hE (by decide +kernel) (Nat.le_of_ble_eq_true rfl) (fun p e s m below meth c C hr _ hd ls hl => ?_)
  have hx := C.1
  have hb := C.2.1
  have hl : lv_has ls 2 [(0, .ref (ga g 40)), (1, .int x1)] := hl
  generalize ([.ref (ga g 40), .int x1] : List Value).toArray = args at C ⊢
  have C : Cx g p s m args meth c cX8_says 2 RX8 := C
  rw [f_X8_says] at h
  refine lv_aload_n hx hb dX8_says_0 rfl (lv_at hl 0 rfl) ?_
  refine gX8_79 C hd dX8_says_1 ?_
  refine lv_aload_n hx hb dX8_says_4 rfl (lv_at hl 0 rfl) ?_
  refine gX8_378 C hd dX8_says_5 ?_
  refine lv_iload_n hx hb dX8_says_8 rfl (lv_at hl 1 rfl) ?_
  obtain ⟨n1, h⟩ := chk h
  obtain ⟨t2, et2, h⟩ := bnd_e h
  refine st_wM_21 C hd (inb_i n1) et2 dX8_says_9 (fun H locs hd => ?_)
  refine lv_aload_n hx hb dX8_says_10 rfl (lv_at hl 0 rfl) ?_
  refine lv_dup hx hb dX8_says_11 rfl ?_
  refine gX8_378 C hd dX8_says_12 ?_
  refine lv_iconst (v := 1) hx hb dX8_says_15 ic_1 ?_
  refine lv_iadd hx hb dX8_says_16 ?_
  obtain ⟨t3, et3, h⟩ := bnd_e h
  refine pX8_378 C hd et3 dX8_says_17 (fun H locs hd => ?_)
  exact rVretS (w := wM g) C hr hd h dX8_says_20
noncomputable def f_X8_saysInt_17 (F : Nat) (σ : St) (x1 : Int32) : Option St :=
  if x1 ≤ 9 then (cal (f_X8_says F σ (48 + (x1 - x1 / 10 * 10))) (fun t2 => some t2)) else (cal (f_X8_says F σ (48 + ((x1 / 10) - (x1 / 10) / 10 * 10))) (fun t3 => cal (f_X8_says F t3 (48 + (x1 - x1 / 10 * 10))) (fun t4 => some t4)))
set_option maxRecDepth 100000 in
set_option maxHeartbeats 4000000 in
theorem w_X8_saysInt_17 {F : Nat} {σ' : St}  (C : Cx g p s m args meth c cX8_saysInt 2 RX8) (hr : meth.sig.returnType = none) :
    (∀ (σ : St) (x1 : Int32), f_X8_saysInt_17 F σ x1 = some σ' → ∀ (H : Heap) (locs : List Loc) (ls : Array Slot), Dy g (wM g σ ++ X) s H locs → lv_has ls 2 [(0, .ref (ga g 40)), (1, .int x1)] → W p l e (rmD 1) s m args below meth c H locs 0 0 (QV g below args s (wM g σ' ++ X)) (F0 m 17 ls [])) := by
  have hx := C.1
  have hb := C.2.1
  have hE := C.2.2.2.2.2.2.2.2
  intro σ x1 h H locs ls hd hl
  rw [f_X8_saysInt_17] at h
  refine lv_iload_n hx hb dX8_saysInt_17 rfl (lv_at hl 1 rfl) ?_
  refine lv_bipush (v := 9) hx hb dX8_saysInt_18 bi_9 ?_
  refine lv_icmp_le (tgt := 37) hx hb dX8_saysInt_20 (by decide) (fun c1 => ?_) (fun c1 => ?_)
  · replace h := iteT c1 h
    refine lv_aload_n hx hb dX8_saysInt_37 rfl (lv_at hl 0 rfl) ?_
    refine lv_bipush (v := 48) hx hb dX8_saysInt_38 bi_48 ?_
    refine lv_iload_n hx hb dX8_saysInt_40 rfl (lv_at hl 1 rfl) ?_
    refine lv_bipush (v := 10) hx hb dX8_saysInt_41 bi_10 ?_
    refine lv_irem hx hb dX8_saysInt_43 (by decide) ?_
    refine lv_iadd hx hb dX8_saysInt_44 ?_
    obtain ⟨t2, et2, h⟩ := cal_e h
    refine rCallV C hd (c_X8_says hE et2) kX8_381 0 rfl rfl rfl rfl hl.1 rfl (Nat.le_of_ble_eq_true rfl) ⟨(Nat.le_of_ble_eq_true rfl), (Nat.le_of_ble_eq_true rfl)⟩ ⟨Nat.le_refl _, Nat.le_refl _⟩ dX8_saysInt_45 (fun H locs hd => ?_)
    exact rVretS (w := wM g) C hr hd h dX8_saysInt_48
  · replace h := iteF c1 h
    refine lv_aload_n hx hb dX8_saysInt_23 rfl (lv_at hl 0 rfl) ?_
    refine lv_bipush (v := 48) hx hb dX8_saysInt_24 bi_48 ?_
    refine lv_iload_n hx hb dX8_saysInt_26 rfl (lv_at hl 1 rfl) ?_
    refine lv_bipush (v := 10) hx hb dX8_saysInt_27 bi_10 ?_
    refine lv_idiv hx hb dX8_saysInt_29 (by decide) ?_
    refine lv_bipush (v := 10) hx hb dX8_saysInt_30 bi_10 ?_
    refine lv_irem hx hb dX8_saysInt_32 (by decide) ?_
    refine lv_iadd hx hb dX8_saysInt_33 ?_
    obtain ⟨t3, et3, h⟩ := cal_e h
    refine rCallV C hd (c_X8_says hE et3) kX8_381 0 rfl rfl rfl rfl hl.1 rfl (Nat.le_of_ble_eq_true rfl) ⟨(Nat.le_of_ble_eq_true rfl), (Nat.le_of_ble_eq_true rfl)⟩ ⟨Nat.le_refl _, Nat.le_refl _⟩ dX8_saysInt_34 (fun H locs hd => ?_)
    refine lv_aload_n hx hb dX8_saysInt_37 rfl (lv_at hl 0 rfl) ?_
    refine lv_bipush (v := 48) hx hb dX8_saysInt_38 bi_48 ?_
    refine lv_iload_n hx hb dX8_saysInt_40 rfl (lv_at hl 1 rfl) ?_
    refine lv_bipush (v := 10) hx hb dX8_saysInt_41 bi_10 ?_
    refine lv_irem hx hb dX8_saysInt_43 (by decide) ?_
    refine lv_iadd hx hb dX8_saysInt_44 ?_
    obtain ⟨t4, et4, h⟩ := cal_e h
    refine rCallV C hd (c_X8_says hE et4) kX8_381 0 rfl rfl rfl rfl hl.1 rfl (Nat.le_of_ble_eq_true rfl) ⟨(Nat.le_of_ble_eq_true rfl), (Nat.le_of_ble_eq_true rfl)⟩ ⟨Nat.le_refl _, Nat.le_refl _⟩ dX8_saysInt_45 (fun H locs hd => ?_)
    exact rVretS (w := wM g) C hr hd h dX8_saysInt_48
noncomputable def f_X8_saysInt (F : Nat) (σ : St) (x1 : Int32) : Option St :=
  if x1 ≤ 99 then (f_X8_saysInt_17 F σ x1) else (cal (f_X8_says F σ (48 + (x1 / 100))) (fun t2 => f_X8_saysInt_17 F t2 x1))
set_option maxRecDepth 100000 in
set_option maxHeartbeats 4000000 in
theorem c_X8_saysInt {l : Launch} {g : Gp} {X : va_W} (hE : E0 g) {F : Nat} {σ' : St} {σ : St} {x1 : Int32} (h : f_X8_saysInt F σ x1 = some σ') : Cv l g yX8_saysInt cX8_saysInt 2 1 [.ref (ga g 40), .int x1] (wM g σ ++ X) (wM g σ' ++ X) := by
  refine rHead hE (by decide +kernel) (Nat.le_of_ble_eq_true rfl) (fun p e s m below meth c C hr _ hd ls hl => ?_)
  have hx := C.1
  have hb := C.2.1
  have hl : lv_has ls 2 [(0, .ref (ga g 40)), (1, .int x1)] := hl
  generalize ([.ref (ga g 40), .int x1] : List Value).toArray = args at C ⊢
  have C : Cx g p s m args meth c cX8_saysInt 2 RX8 := C
  rw [f_X8_saysInt] at h
  refine lv_iload_n hx hb dX8_saysInt_0 rfl (lv_at hl 1 rfl) ?_
  refine lv_bipush (v := 99) hx hb dX8_saysInt_1 bi_99 ?_
  refine lv_icmp_le (tgt := 17) hx hb dX8_saysInt_3 (by decide) (fun c1 => ?_) (fun c1 => ?_)
  · replace h := iteT c1 h
    exact w_X8_saysInt_17 C hr σ x1 h _ _ _ hd (lv_sub hl [0, 1] rfl)
  · replace h := iteF c1 h
    refine lv_aload_n hx hb dX8_saysInt_6 rfl (lv_at hl 0 rfl) ?_
    refine lv_bipush (v := 48) hx hb dX8_saysInt_7 bi_48 ?_
    refine lv_iload_n hx hb dX8_saysInt_9 rfl (lv_at hl 1 rfl) ?_
    refine lv_bipush (v := 100) hx hb dX8_saysInt_10 bi_100 ?_
    refine lv_idiv hx hb dX8_saysInt_12 (by decide) ?_
    refine lv_iadd hx hb dX8_saysInt_13 ?_
    obtain ⟨t2, et2, h⟩ := cal_e h
    refine rCallV C hd (c_X8_says hE et2) kX8_381 0 rfl rfl rfl rfl hl.1 rfl (Nat.le_of_ble_eq_true rfl) ⟨(Nat.le_of_ble_eq_true rfl), (Nat.le_of_ble_eq_true rfl)⟩ ⟨Nat.le_refl _, Nat.le_refl _⟩ dX8_saysInt_14 (fun H locs hd => ?_)
    exact w_X8_saysInt_17 C hr t2 x1 h _ _ _ hd (lv_sub hl [0, 1] rfl)
noncomputable def f_X8_saysOutcome (F : Nat) (σ : St) (x1 : Int32) : Option St :=
  if x1 = 0 then (cal (f_X8_says F σ 111) (fun t2 => cal (f_X8_says F t2 107) (fun t3 => some t3))) else (if x1 = 1 then (cal (f_X8_says F σ 110) (fun t5 => cal (f_X8_says F t5 111) (fun t6 => cal (f_X8_says F t6 110) (fun t7 => cal (f_X8_says F t7 101) (fun t8 => some t8))))) else (if x1 = 2 then (cal (f_X8_says F σ 98) (fun t10 => cal (f_X8_says F t10 114) (fun t11 => cal (f_X8_says F t11 97) (fun t12 => cal (f_X8_says F t12 110) (fun t13 => cal (f_X8_says F t13 99) (fun t14 => cal (f_X8_says F t14 104) (fun t15 => some t15))))))) else (if x1 = 3 then (cal (f_X8_says F σ 101) (fun t17 => cal (f_X8_says F t17 97) (fun t18 => cal (f_X8_says F t18 114) (fun t19 => cal (f_X8_says F t19 108) (fun t20 => cal (f_X8_says F t20 121) (fun t21 => some t21)))))) else (cal (f_X8_says F σ 116) (fun t22 => cal (f_X8_saysInt F t22 (t22.1 16)) (fun t23 => cal (f_X8_says F t23 112) (fun t24 => cal (f_X8_saysInt F t24 (t24.1 17)) (fun t25 => some t25))))))))
set_option maxRecDepth 100000 in
set_option maxHeartbeats 4000000 in
theorem c_X8_saysOutcome {l : Launch} {g : Gp} {X : va_W} (hE : E0 g) {F : Nat} {σ' : St} {σ : St} {x1 : Int32} (h : f_X8_saysOutcome F σ x1 = some σ') : Cv l g yX8_saysOutcome cX8_saysOutcome 2 2 [.ref (ga g 40), .int x1] (wM g σ ++ X) (wM g σ' ++ X) := by
  refine rHead hE (by decide +kernel) (Nat.le_of_ble_eq_true rfl) (fun p e s m below meth c C hr _ hd ls hl => ?_)
  have hx := C.1
  have hb := C.2.1
  have hl : lv_has ls 2 [(0, .ref (ga g 40)), (1, .int x1)] := hl
  generalize ([.ref (ga g 40), .int x1] : List Value).toArray = args at C ⊢
  have C : Cx g p s m args meth c cX8_saysOutcome 2 RX8 := C
  rw [f_X8_saysOutcome] at h
  refine lv_iload_n hx hb dX8_saysOutcome_0 rfl (lv_at hl 1 rfl) ?_
  by_cases c1 : x1 = 0
  · replace h := iteT c1 h
    refine rTop c1.symm ?_
    refine lv_tableIn (off := 31) (tgt := 32) hx hb dX8_saysOutcome_1 (by decide) (by decide) (by decide) (by decide) ?_
    refine lv_aload_n hx hb dX8_saysOutcome_32 rfl (lv_at hl 0 rfl) ?_
    refine lv_bipush (v := 111) hx hb dX8_saysOutcome_33 bi_111 ?_
    obtain ⟨t2, et2, h⟩ := cal_e h
    refine rCallV C hd (c_X8_says hE et2) kX8_381 0 rfl rfl rfl rfl hl.1 rfl (Nat.le_of_ble_eq_true rfl) ⟨(Nat.le_of_ble_eq_true rfl), (Nat.le_of_ble_eq_true rfl)⟩ ⟨Nat.le_refl _, Nat.le_refl _⟩ dX8_saysOutcome_35 (fun H locs hd => ?_)
    refine lv_aload_n hx hb dX8_saysOutcome_38 rfl (lv_at hl 0 rfl) ?_
    refine lv_bipush (v := 107) hx hb dX8_saysOutcome_39 bi_107 ?_
    obtain ⟨t3, et3, h⟩ := cal_e h
    refine rCallV C hd (c_X8_says hE et3) kX8_381 0 rfl rfl rfl rfl hl.1 rfl (Nat.le_of_ble_eq_true rfl) ⟨(Nat.le_of_ble_eq_true rfl), (Nat.le_of_ble_eq_true rfl)⟩ ⟨Nat.le_refl _, Nat.le_refl _⟩ dX8_saysOutcome_41 (fun H locs hd => ?_)
    refine lv_goto (tgt := 174) hx hb dX8_saysOutcome_44 (by decide) ?_
    exact rVretS (w := wM g) C hr hd h dX8_saysOutcome_174
  · replace h := iteF c1 h
    by_cases c4 : x1 = 1
    · replace h := iteT c4 h
      refine rTop c4.symm ?_
      refine lv_tableIn (off := 46) (tgt := 47) hx hb dX8_saysOutcome_1 (by decide) (by decide) (by decide) (by decide) ?_
      refine lv_aload_n hx hb dX8_saysOutcome_47 rfl (lv_at hl 0 rfl) ?_
      refine lv_bipush (v := 110) hx hb dX8_saysOutcome_48 bi_110 ?_
      obtain ⟨t5, et5, h⟩ := cal_e h
      refine rCallV C hd (c_X8_says hE et5) kX8_381 0 rfl rfl rfl rfl hl.1 rfl (Nat.le_of_ble_eq_true rfl) ⟨(Nat.le_of_ble_eq_true rfl), (Nat.le_of_ble_eq_true rfl)⟩ ⟨Nat.le_refl _, Nat.le_refl _⟩ dX8_saysOutcome_50 (fun H locs hd => ?_)
      refine lv_aload_n hx hb dX8_saysOutcome_53 rfl (lv_at hl 0 rfl) ?_
      refine lv_bipush (v := 111) hx hb dX8_saysOutcome_54 bi_111 ?_
      obtain ⟨t6, et6, h⟩ := cal_e h
      refine rCallV C hd (c_X8_says hE et6) kX8_381 0 rfl rfl rfl rfl hl.1 rfl (Nat.le_of_ble_eq_true rfl) ⟨(Nat.le_of_ble_eq_true rfl), (Nat.le_of_ble_eq_true rfl)⟩ ⟨Nat.le_refl _, Nat.le_refl _⟩ dX8_saysOutcome_56 (fun H locs hd => ?_)
      refine lv_aload_n hx hb dX8_saysOutcome_59 rfl (lv_at hl 0 rfl) ?_
      refine lv_bipush (v := 110) hx hb dX8_saysOutcome_60 bi_110 ?_
      obtain ⟨t7, et7, h⟩ := cal_e h
      refine rCallV C hd (c_X8_says hE et7) kX8_381 0 rfl rfl rfl rfl hl.1 rfl (Nat.le_of_ble_eq_true rfl) ⟨(Nat.le_of_ble_eq_true rfl), (Nat.le_of_ble_eq_true rfl)⟩ ⟨Nat.le_refl _, Nat.le_refl _⟩ dX8_saysOutcome_62 (fun H locs hd => ?_)
      refine lv_aload_n hx hb dX8_saysOutcome_65 rfl (lv_at hl 0 rfl) ?_
      refine lv_bipush (v := 101) hx hb dX8_saysOutcome_66 bi_101 ?_
      obtain ⟨t8, et8, h⟩ := cal_e h
      refine rCallV C hd (c_X8_says hE et8) kX8_381 0 rfl rfl rfl rfl hl.1 rfl (Nat.le_of_ble_eq_true rfl) ⟨(Nat.le_of_ble_eq_true rfl), (Nat.le_of_ble_eq_true rfl)⟩ ⟨Nat.le_refl _, Nat.le_refl _⟩ dX8_saysOutcome_68 (fun H locs hd => ?_)
      refine lv_goto (tgt := 174) hx hb dX8_saysOutcome_71 (by decide) ?_
      exact rVretS (w := wM g) C hr hd h dX8_saysOutcome_174
    · replace h := iteF c4 h
      by_cases c9 : x1 = 2
      · replace h := iteT c9 h
        refine rTop c9.symm ?_
        refine lv_tableIn (off := 73) (tgt := 74) hx hb dX8_saysOutcome_1 (by decide) (by decide) (by decide) (by decide) ?_
        refine lv_aload_n hx hb dX8_saysOutcome_74 rfl (lv_at hl 0 rfl) ?_
        refine lv_bipush (v := 98) hx hb dX8_saysOutcome_75 bi_98 ?_
        obtain ⟨t10, et10, h⟩ := cal_e h
        refine rCallV C hd (c_X8_says hE et10) kX8_381 0 rfl rfl rfl rfl hl.1 rfl (Nat.le_of_ble_eq_true rfl) ⟨(Nat.le_of_ble_eq_true rfl), (Nat.le_of_ble_eq_true rfl)⟩ ⟨Nat.le_refl _, Nat.le_refl _⟩ dX8_saysOutcome_77 (fun H locs hd => ?_)
        refine lv_aload_n hx hb dX8_saysOutcome_80 rfl (lv_at hl 0 rfl) ?_
        refine lv_bipush (v := 114) hx hb dX8_saysOutcome_81 bi_114 ?_
        obtain ⟨t11, et11, h⟩ := cal_e h
        refine rCallV C hd (c_X8_says hE et11) kX8_381 0 rfl rfl rfl rfl hl.1 rfl (Nat.le_of_ble_eq_true rfl) ⟨(Nat.le_of_ble_eq_true rfl), (Nat.le_of_ble_eq_true rfl)⟩ ⟨Nat.le_refl _, Nat.le_refl _⟩ dX8_saysOutcome_83 (fun H locs hd => ?_)
        refine lv_aload_n hx hb dX8_saysOutcome_86 rfl (lv_at hl 0 rfl) ?_
        refine lv_bipush (v := 97) hx hb dX8_saysOutcome_87 bi_97 ?_
        obtain ⟨t12, et12, h⟩ := cal_e h
        refine rCallV C hd (c_X8_says hE et12) kX8_381 0 rfl rfl rfl rfl hl.1 rfl (Nat.le_of_ble_eq_true rfl) ⟨(Nat.le_of_ble_eq_true rfl), (Nat.le_of_ble_eq_true rfl)⟩ ⟨Nat.le_refl _, Nat.le_refl _⟩ dX8_saysOutcome_89 (fun H locs hd => ?_)
        refine lv_aload_n hx hb dX8_saysOutcome_92 rfl (lv_at hl 0 rfl) ?_
        refine lv_bipush (v := 110) hx hb dX8_saysOutcome_93 bi_110 ?_
        obtain ⟨t13, et13, h⟩ := cal_e h
        refine rCallV C hd (c_X8_says hE et13) kX8_381 0 rfl rfl rfl rfl hl.1 rfl (Nat.le_of_ble_eq_true rfl) ⟨(Nat.le_of_ble_eq_true rfl), (Nat.le_of_ble_eq_true rfl)⟩ ⟨Nat.le_refl _, Nat.le_refl _⟩ dX8_saysOutcome_95 (fun H locs hd => ?_)
        refine lv_aload_n hx hb dX8_saysOutcome_98 rfl (lv_at hl 0 rfl) ?_
        refine lv_bipush (v := 99) hx hb dX8_saysOutcome_99 bi_99 ?_
        obtain ⟨t14, et14, h⟩ := cal_e h
        refine rCallV C hd (c_X8_says hE et14) kX8_381 0 rfl rfl rfl rfl hl.1 rfl (Nat.le_of_ble_eq_true rfl) ⟨(Nat.le_of_ble_eq_true rfl), (Nat.le_of_ble_eq_true rfl)⟩ ⟨Nat.le_refl _, Nat.le_refl _⟩ dX8_saysOutcome_101 (fun H locs hd => ?_)
        refine lv_aload_n hx hb dX8_saysOutcome_104 rfl (lv_at hl 0 rfl) ?_
        refine lv_bipush (v := 104) hx hb dX8_saysOutcome_105 bi_104 ?_
        obtain ⟨t15, et15, h⟩ := cal_e h
        refine rCallV C hd (c_X8_says hE et15) kX8_381 0 rfl rfl rfl rfl hl.1 rfl (Nat.le_of_ble_eq_true rfl) ⟨(Nat.le_of_ble_eq_true rfl), (Nat.le_of_ble_eq_true rfl)⟩ ⟨Nat.le_refl _, Nat.le_refl _⟩ dX8_saysOutcome_107 (fun H locs hd => ?_)
        refine lv_goto (tgt := 174) hx hb dX8_saysOutcome_110 (by decide) ?_
        exact rVretS (w := wM g) C hr hd h dX8_saysOutcome_174
      · replace h := iteF c9 h
        by_cases c16 : x1 = 3
        · replace h := iteT c16 h
          refine rTop c16.symm ?_
          refine lv_tableIn (off := 112) (tgt := 113) hx hb dX8_saysOutcome_1 (by decide) (by decide) (by decide) (by decide) ?_
          refine lv_aload_n hx hb dX8_saysOutcome_113 rfl (lv_at hl 0 rfl) ?_
          refine lv_bipush (v := 101) hx hb dX8_saysOutcome_114 bi_101 ?_
          obtain ⟨t17, et17, h⟩ := cal_e h
          refine rCallV C hd (c_X8_says hE et17) kX8_381 0 rfl rfl rfl rfl hl.1 rfl (Nat.le_of_ble_eq_true rfl) ⟨(Nat.le_of_ble_eq_true rfl), (Nat.le_of_ble_eq_true rfl)⟩ ⟨Nat.le_refl _, Nat.le_refl _⟩ dX8_saysOutcome_116 (fun H locs hd => ?_)
          refine lv_aload_n hx hb dX8_saysOutcome_119 rfl (lv_at hl 0 rfl) ?_
          refine lv_bipush (v := 97) hx hb dX8_saysOutcome_120 bi_97 ?_
          obtain ⟨t18, et18, h⟩ := cal_e h
          refine rCallV C hd (c_X8_says hE et18) kX8_381 0 rfl rfl rfl rfl hl.1 rfl (Nat.le_of_ble_eq_true rfl) ⟨(Nat.le_of_ble_eq_true rfl), (Nat.le_of_ble_eq_true rfl)⟩ ⟨Nat.le_refl _, Nat.le_refl _⟩ dX8_saysOutcome_122 (fun H locs hd => ?_)
          refine lv_aload_n hx hb dX8_saysOutcome_125 rfl (lv_at hl 0 rfl) ?_
          refine lv_bipush (v := 114) hx hb dX8_saysOutcome_126 bi_114 ?_
          obtain ⟨t19, et19, h⟩ := cal_e h
          refine rCallV C hd (c_X8_says hE et19) kX8_381 0 rfl rfl rfl rfl hl.1 rfl (Nat.le_of_ble_eq_true rfl) ⟨(Nat.le_of_ble_eq_true rfl), (Nat.le_of_ble_eq_true rfl)⟩ ⟨Nat.le_refl _, Nat.le_refl _⟩ dX8_saysOutcome_128 (fun H locs hd => ?_)
          refine lv_aload_n hx hb dX8_saysOutcome_131 rfl (lv_at hl 0 rfl) ?_
          refine lv_bipush (v := 108) hx hb dX8_saysOutcome_132 bi_108 ?_
          obtain ⟨t20, et20, h⟩ := cal_e h
          refine rCallV C hd (c_X8_says hE et20) kX8_381 0 rfl rfl rfl rfl hl.1 rfl (Nat.le_of_ble_eq_true rfl) ⟨(Nat.le_of_ble_eq_true rfl), (Nat.le_of_ble_eq_true rfl)⟩ ⟨Nat.le_refl _, Nat.le_refl _⟩ dX8_saysOutcome_134 (fun H locs hd => ?_)
          refine lv_aload_n hx hb dX8_saysOutcome_137 rfl (lv_at hl 0 rfl) ?_
          refine lv_bipush (v := 121) hx hb dX8_saysOutcome_138 bi_121 ?_
          obtain ⟨t21, et21, h⟩ := cal_e h
          refine rCallV C hd (c_X8_says hE et21) kX8_381 0 rfl rfl rfl rfl hl.1 rfl (Nat.le_of_ble_eq_true rfl) ⟨(Nat.le_of_ble_eq_true rfl), (Nat.le_of_ble_eq_true rfl)⟩ ⟨Nat.le_refl _, Nat.le_refl _⟩ dX8_saysOutcome_140 (fun H locs hd => ?_)
          refine lv_goto (tgt := 174) hx hb dX8_saysOutcome_143 (by decide) ?_
          exact rVretS (w := wM g) C hr hd h dX8_saysOutcome_174
        · replace h := iteF c16 h
          refine lv_tableOut (tgt := 146) hx hb dX8_saysOutcome_1 (sw_out (lo := 0) (hi := 3) (fun z z1 z2 e => ?_)) (by decide) ?_
          · have hz : z = 0 ∨ z = 1 ∨ z = 2 ∨ z = 3 := by omega
            rcases hz with rfl | rfl | rfl | rfl
            · exact c1 (Int32.toInt_inj.mp (e.trans (by decide)))
            · exact c4 (Int32.toInt_inj.mp (e.trans (by decide)))
            · exact c9 (Int32.toInt_inj.mp (e.trans (by decide)))
            · exact c16 (Int32.toInt_inj.mp (e.trans (by decide)))
          refine lv_aload_n hx hb dX8_saysOutcome_146 rfl (lv_at hl 0 rfl) ?_
          refine lv_bipush (v := 116) hx hb dX8_saysOutcome_147 bi_116 ?_
          obtain ⟨t22, et22, h⟩ := cal_e h
          refine rCallV C hd (c_X8_says hE et22) kX8_381 0 rfl rfl rfl rfl hl.1 rfl (Nat.le_of_ble_eq_true rfl) ⟨(Nat.le_of_ble_eq_true rfl), (Nat.le_of_ble_eq_true rfl)⟩ ⟨Nat.le_refl _, Nat.le_refl _⟩ dX8_saysOutcome_149 (fun H locs hd => ?_)
          refine lv_aload_n hx hb dX8_saysOutcome_152 rfl (lv_at hl 0 rfl) ?_
          refine lv_aload_n hx hb dX8_saysOutcome_153 rfl (lv_at hl 0 rfl) ?_
          refine gX8_325 C hd dX8_saysOutcome_154 ?_
          obtain ⟨t23, et23, h⟩ := cal_e h
          refine rCallV C hd (c_X8_saysInt hE et23) kX8_384 0 rfl rfl rfl rfl hl.1 rfl (Nat.le_of_ble_eq_true rfl) ⟨(Nat.le_of_ble_eq_true rfl), (Nat.le_of_ble_eq_true rfl)⟩ ⟨Nat.le_refl _, Nat.le_refl _⟩ dX8_saysOutcome_157 (fun H locs hd => ?_)
          refine lv_aload_n hx hb dX8_saysOutcome_160 rfl (lv_at hl 0 rfl) ?_
          refine lv_bipush (v := 112) hx hb dX8_saysOutcome_161 bi_112 ?_
          obtain ⟨t24, et24, h⟩ := cal_e h
          refine rCallV C hd (c_X8_says hE et24) kX8_381 0 rfl rfl rfl rfl hl.1 rfl (Nat.le_of_ble_eq_true rfl) ⟨(Nat.le_of_ble_eq_true rfl), (Nat.le_of_ble_eq_true rfl)⟩ ⟨Nat.le_refl _, Nat.le_refl _⟩ dX8_saysOutcome_163 (fun H locs hd => ?_)
          refine lv_aload_n hx hb dX8_saysOutcome_166 rfl (lv_at hl 0 rfl) ?_
          refine lv_aload_n hx hb dX8_saysOutcome_167 rfl (lv_at hl 0 rfl) ?_
          refine gX8_328 C hd dX8_saysOutcome_168 ?_
          obtain ⟨t25, et25, h⟩ := cal_e h
          refine rCallV C hd (c_X8_saysInt hE et25) kX8_384 0 rfl rfl rfl rfl hl.1 rfl (Nat.le_of_ble_eq_true rfl) ⟨(Nat.le_of_ble_eq_true rfl), (Nat.le_of_ble_eq_true rfl)⟩ ⟨Nat.le_refl _, Nat.le_refl _⟩ dX8_saysOutcome_171 (fun H locs hd => ?_)
          exact rVretS (w := wM g) C hr hd h dX8_saysOutcome_174
noncomputable def f_X8_named (F : Nat) (σ : St) (x1 : Int32) (x2 : Int32) (x3 : Int32) (x4 : Int32) : Option (Int32 × St) :=
  bnd (ss σ 18 0) (fun t1 => cal2 (f_X8_comesOut_ F t1 x1 x2 x3) (fun r2 t3 => cal (f_X8_saysOutcome F t3 r2) (fun t4 => cal (f_X8_in F t4 x4 0 ((t4.1 18) - 1)) (fun r5 => if r5 = 0 then (some ((-1 : Int32), t4)) else (if inb x4 16 = true then some ((t4.2.1 21 x4.toNatClampNeg), t4) else none)))))
set_option maxRecDepth 100000 in
set_option maxHeartbeats 4000000 in
theorem c_X8_named {l : Launch} {g : Gp} {X : va_W} (hE : E0 g) {F : Nat} {r' : Int32} {σ' : St} {σ : St} {x1 : Int32} {x2 : Int32} {x3 : Int32} {x4 : Int32} (h : f_X8_named F σ x1 x2 x3 x4 = some (r', σ')) : Ci l g yX8_named cX8_named 5 (some .int) 6 [.ref (ga g 40), .int x1, .int x2, .int x3, .int x4] (wM g σ ++ X) r' (wM g σ' ++ X) := by
  refine rHead hE (by decide +kernel) (Nat.le_of_ble_eq_true rfl) (fun p e s m below meth c C hr _ hd ls hl => ?_)
  have hx := C.1
  have hb := C.2.1
  have hl : lv_has ls 5 [(0, .ref (ga g 40)), (1, .int x1), (2, .int x2), (3, .int x3), (4, .int x4)] := hl
  generalize ([.ref (ga g 40), .int x1, .int x2, .int x3, .int x4] : List Value).toArray = args at C ⊢
  have C : Cx g p s m args meth c cX8_named 5 RX8 := C
  rw [f_X8_named] at h
  refine lv_aload_n hx hb dX8_named_0 rfl (lv_at hl 0 rfl) ?_
  refine lv_iconst (v := 0) hx hb dX8_named_1 ic_0 ?_
  obtain ⟨t1, et1, h⟩ := bnd_e h
  refine pX8_378 C hd et1 dX8_named_2 (fun H locs hd => ?_)
  refine lv_aload_n hx hb dX8_named_5 rfl (lv_at hl 0 rfl) ?_
  refine lv_aload_n hx hb dX8_named_6 rfl (lv_at hl 0 rfl) ?_
  refine lv_iload_n hx hb dX8_named_7 rfl (lv_at hl 1 rfl) ?_
  refine lv_iload_n hx hb dX8_named_8 rfl (lv_at hl 2 rfl) ?_
  refine lv_iload_n hx hb dX8_named_9 rfl (lv_at hl 3 rfl) ?_
  obtain ⟨r2, t3, et3, h⟩ := cal2_e h
  refine rCallI C hd (c_X8_comesOut_ hE et3) kX8_350 0 rfl rfl rfl rfl hl.1 rfl (Nat.le_of_ble_eq_true rfl) ⟨(Nat.le_of_ble_eq_true rfl), (Nat.le_of_ble_eq_true rfl)⟩ ⟨Nat.le_refl _, Nat.le_refl _⟩ dX8_named_10 (fun H locs hd => ?_)
  obtain ⟨t4, et4, h⟩ := cal_e h
  refine rCallV C hd (c_X8_saysOutcome hE et4) kX8_387 0 rfl rfl rfl rfl hl.1 rfl (Nat.le_of_ble_eq_true rfl) ⟨(Nat.le_of_ble_eq_true rfl), (Nat.le_of_ble_eq_true rfl)⟩ ⟨Nat.le_refl _, Nat.le_refl _⟩ dX8_named_13 (fun H locs hd => ?_)
  refine lv_iload hx hb dX8_named_16 (lv_at hl 4 rfl) ?_
  refine lv_iconst (v := 0) hx hb dX8_named_18 ic_0 ?_
  refine lv_aload_n hx hb dX8_named_19 rfl (lv_at hl 0 rfl) ?_
  refine gX8_378 C hd dX8_named_20 ?_
  refine lv_iconst (v := 1) hx hb dX8_named_23 ic_1 ?_
  refine lv_isub hx hb dX8_named_24 ?_
  obtain ⟨r5, er5, h⟩ := cal_e h
  refine rCallSI C hd (c_X8_in hE er5) kX8_194 rfl hl.1 rfl (Nat.le_of_ble_eq_true rfl) ⟨(Nat.le_of_ble_eq_true rfl), (Nat.le_of_ble_eq_true rfl)⟩ ⟨Nat.le_refl _, Nat.le_refl _⟩ dX8_named_25 (fun H locs hd => ?_)
  refine lv_if_eq (tgt := 41) hx hb dX8_named_28 (by decide) (fun c6 => ?_) (fun c6 => ?_)
  · replace h := iteT c6 h
    refine lv_iconst (v := (-1 : Int32)) hx hb dX8_named_41 ic_m1 ?_
    exact rIretS (w := wM g) C hr hd h dX8_named_42
  · replace h := iteF c6 h
    refine lv_aload_n hx hb dX8_named_31 rfl (lv_at hl 0 rfl) ?_
    refine gX8_79 C hd dX8_named_32 ?_
    refine lv_iload hx hb dX8_named_35 (lv_at hl 4 rfl) ?_
    obtain ⟨n7, h⟩ := chk h
    refine ld_wM_21 C hd (inb_i n7) dX8_named_37 ?_
    refine lv_goto (tgt := 42) hx hb dX8_named_38 (by decide) ?_
    exact rIretS (w := wM g) C hr hd h dX8_named_42
noncomputable def f_X8_needs (F : Nat) (σ : St) (x1 : Int32) (x2 : Int32) (x3 : Int32) (x4 : Int32) : Option (Int32 × St) :=
  cal (f_X8_in F σ x4 0 3) (fun r1 => if r1 = 0 then (some ((-1 : Int32), σ)) else (cal2 (f_X8_comesOut_ F σ x1 x2 x3) (fun r3 t4 => cal (f_X8_isNeeding F t4 r3) (fun r5 => if r5 = 0 then (some ((-1 : Int32), t4)) else (if 0 ≤ (t4.1 15) then (if x4 = 0 then (some (((x3 - (t4.1 15)) + 1), t4)) else (if x4 = 1 then (some ((t4.1 15), t4)) else (if x4 = 2 then (cal (f_X8_pieceOf F t4 (t4.1 15)) (fun r11 => some (r11, t4))) else (cal (f_X8_pieceOf F t4 x3) (fun r12 => some (r12, t4)))))) else (if x4 = 0 then (some (0, t4)) else (some ((-2 : Int32), t4))))))))
set_option maxRecDepth 100000 in
set_option maxHeartbeats 4000000 in
theorem c_X8_needs {l : Launch} {g : Gp} {X : va_W} (hE : E0 g) {F : Nat} {r' : Int32} {σ' : St} {σ : St} {x1 : Int32} {x2 : Int32} {x3 : Int32} {x4 : Int32} (h : f_X8_needs F σ x1 x2 x3 x4 = some (r', σ')) : Ci l g yX8_needs cX8_needs 5 (some .int) 6 [.ref (ga g 40), .int x1, .int x2, .int x3, .int x4] (wM g σ ++ X) r' (wM g σ' ++ X) := by
  refine rHead hE (by decide +kernel) (Nat.le_of_ble_eq_true rfl) (fun p e s m below meth c C hr _ hd ls hl => ?_)
  have hx := C.1
  have hb := C.2.1
  have hl : lv_has ls 5 [(0, .ref (ga g 40)), (1, .int x1), (2, .int x2), (3, .int x3), (4, .int x4)] := hl
  generalize ([.ref (ga g 40), .int x1, .int x2, .int x3, .int x4] : List Value).toArray = args at C ⊢
  have C : Cx g p s m args meth c cX8_needs 5 RX8 := C
  rw [f_X8_needs] at h
  refine lv_iload hx hb dX8_needs_0 (lv_at hl 4 rfl) ?_
  refine lv_iconst (v := 0) hx hb dX8_needs_2 ic_0 ?_
  refine lv_iconst (v := 3) hx hb dX8_needs_3 ic_3 ?_
  obtain ⟨r1, er1, h⟩ := cal_e h
  refine rCallSI C hd (c_X8_in hE er1) kX8_194 rfl hl.1 rfl (Nat.le_of_ble_eq_true rfl) ⟨(Nat.le_of_ble_eq_true rfl), (Nat.le_of_ble_eq_true rfl)⟩ ⟨Nat.le_refl _, Nat.le_refl _⟩ dX8_needs_4 (fun H locs hd => ?_)
  refine lv_if_eq (tgt := 23) hx hb dX8_needs_7 (by decide) (fun c2 => ?_) (fun c2 => ?_)
  · replace h := iteT c2 h
    refine lv_iconst (v := (-1 : Int32)) hx hb dX8_needs_23 ic_m1 ?_
    exact rIretS (w := wM g) C hr hd h dX8_needs_24
  · replace h := iteF c2 h
    refine lv_aload_n hx hb dX8_needs_10 rfl (lv_at hl 0 rfl) ?_
    refine lv_iload_n hx hb dX8_needs_11 rfl (lv_at hl 1 rfl) ?_
    refine lv_iload_n hx hb dX8_needs_12 rfl (lv_at hl 2 rfl) ?_
    refine lv_iload_n hx hb dX8_needs_13 rfl (lv_at hl 3 rfl) ?_
    obtain ⟨r3, t4, et4, h⟩ := cal2_e h
    refine rCallI C hd (c_X8_comesOut_ hE et4) kX8_350 0 rfl rfl rfl rfl hl.1 rfl (Nat.le_of_ble_eq_true rfl) ⟨(Nat.le_of_ble_eq_true rfl), (Nat.le_of_ble_eq_true rfl)⟩ ⟨Nat.le_refl _, Nat.le_refl _⟩ dX8_needs_14 (fun H locs hd => ?_)
    obtain ⟨r5, er5, h⟩ := cal_e h
    refine rCallSI C hd (c_X8_isNeeding hE er5) kX8_390 rfl hl.1 rfl (Nat.le_of_ble_eq_true rfl) ⟨(Nat.le_of_ble_eq_true rfl), (Nat.le_of_ble_eq_true rfl)⟩ ⟨Nat.le_refl _, Nat.le_refl _⟩ dX8_needs_17 (fun H locs hd => ?_)
    refine lv_if_ne (tgt := 25) hx hb dX8_needs_20 (by decide) (fun c6 => ?_) (fun c6 => ?_)
    · replace h := iteF c6 h
      refine lv_aload_n hx hb dX8_needs_25 rfl (lv_at hl 0 rfl) ?_
      refine gX8_319 C hd dX8_needs_26 ?_
      refine lv_if_ge (tgt := 44) hx hb dX8_needs_29 (by decide) (fun c7 => ?_) (fun c7 => ?_)
      · replace h := iteT c7 h
        refine lv_iload hx hb dX8_needs_44 (lv_at hl 4 rfl) ?_
        by_cases c8 : x4 = 0
        · replace h := iteT c8 h
          refine rTop c8.symm ?_
          refine lv_tableIn (off := 26) (tgt := 72) hx hb dX8_needs_46 (by decide) (by decide) (by decide) (by decide) ?_
          refine lv_iload_n hx hb dX8_needs_72 rfl (lv_at hl 3 rfl) ?_
          refine lv_aload_n hx hb dX8_needs_73 rfl (lv_at hl 0 rfl) ?_
          refine gX8_319 C hd dX8_needs_74 ?_
          refine lv_isub hx hb dX8_needs_77 ?_
          refine lv_iconst (v := 1) hx hb dX8_needs_78 ic_1 ?_
          refine lv_iadd hx hb dX8_needs_79 ?_
          exact rIretS (w := wM g) C hr hd h dX8_needs_80
        · replace h := iteF c8 h
          by_cases c9 : x4 = 1
          · replace h := iteT c9 h
            refine rTop c9.symm ?_
            refine lv_tableIn (off := 35) (tgt := 81) hx hb dX8_needs_46 (by decide) (by decide) (by decide) (by decide) ?_
            refine lv_aload_n hx hb dX8_needs_81 rfl (lv_at hl 0 rfl) ?_
            refine gX8_319 C hd dX8_needs_82 ?_
            exact rIretS (w := wM g) C hr hd h dX8_needs_85
          · replace h := iteF c9 h
            by_cases c10 : x4 = 2
            · replace h := iteT c10 h
              refine rTop c10.symm ?_
              refine lv_tableIn (off := 40) (tgt := 86) hx hb dX8_needs_46 (by decide) (by decide) (by decide) (by decide) ?_
              refine lv_aload_n hx hb dX8_needs_86 rfl (lv_at hl 0 rfl) ?_
              refine lv_aload_n hx hb dX8_needs_87 rfl (lv_at hl 0 rfl) ?_
              refine gX8_319 C hd dX8_needs_88 ?_
              obtain ⟨r11, er11, h⟩ := cal_e h
              refine rCallI C hd (c_X8_pieceOf hE er11) kX8_277 0 rfl rfl rfl rfl hl.1 rfl (Nat.le_of_ble_eq_true rfl) ⟨(Nat.le_of_ble_eq_true rfl), (Nat.le_of_ble_eq_true rfl)⟩ ⟨Nat.le_refl _, Nat.le_refl _⟩ dX8_needs_91 (fun H locs hd => ?_)
              exact rIretS (w := wM g) C hr hd h dX8_needs_94
            · replace h := iteF c10 h
              refine lv_tableOut (tgt := 95) hx hb dX8_needs_46 (sw_out (lo := 0) (hi := 2) (fun z z1 z2 e => ?_)) (by decide) ?_
              · have hz : z = 0 ∨ z = 1 ∨ z = 2 := by omega
                rcases hz with rfl | rfl | rfl
                · exact c8 (Int32.toInt_inj.mp (e.trans (by decide)))
                · exact c9 (Int32.toInt_inj.mp (e.trans (by decide)))
                · exact c10 (Int32.toInt_inj.mp (e.trans (by decide)))
              refine lv_aload_n hx hb dX8_needs_95 rfl (lv_at hl 0 rfl) ?_
              refine lv_iload_n hx hb dX8_needs_96 rfl (lv_at hl 3 rfl) ?_
              obtain ⟨r12, er12, h⟩ := cal_e h
              refine rCallI C hd (c_X8_pieceOf hE er12) kX8_277 0 rfl rfl rfl rfl hl.1 rfl (Nat.le_of_ble_eq_true rfl) ⟨(Nat.le_of_ble_eq_true rfl), (Nat.le_of_ble_eq_true rfl)⟩ ⟨Nat.le_refl _, Nat.le_refl _⟩ dX8_needs_97 (fun H locs hd => ?_)
              exact rIretS (w := wM g) C hr hd h dX8_needs_100
      · replace h := iteF c7 h
        refine lv_iload hx hb dX8_needs_32 (lv_at hl 4 rfl) ?_
        refine lv_if_ne (tgt := 41) hx hb dX8_needs_34 (by decide) (fun c13 => ?_) (fun c13 => ?_)
        · replace h := iteF c13 h
          refine lv_bipush (v := (-2 : Int32)) hx hb dX8_needs_41 bi_m2 ?_
          exact rIretS (w := wM g) C hr hd h dX8_needs_43
        · replace h := iteT c13 h
          refine lv_iconst (v := 0) hx hb dX8_needs_37 ic_0 ?_
          refine lv_goto (tgt := 43) hx hb dX8_needs_38 (by decide) ?_
          exact rIretS (w := wM g) C hr hd h dX8_needs_43
    · replace h := iteT c6 h
      refine lv_iconst (v := (-1 : Int32)) hx hb dX8_needs_23 ic_m1 ?_
      exact rIretS (w := wM g) C hr hd h dX8_needs_24
noncomputable def f_X8_newest_16 (F : Nat) : Nat → St → Int32 → Int32 → Option (Int32 × St)
  | 0, _, _, _ => none
  | n + 1, σ, x1, x2 => if x2 < 0 then (if 0 ≤ x2 then (some (x2, σ)) else (some ((-2 : Int32), σ))) else (cal2 (f_X8_isAnyTo F σ x1 x2) (fun r3 t4 => if r3 = 0 then (bnd (x2 + (-1 : Int32)) (fun v7 => f_X8_newest_16 F n t4 x1 v7)) else (if 0 ≤ x2 then (some (x2, t4)) else (some ((-2 : Int32), t4)))))
set_option maxRecDepth 100000 in
set_option maxHeartbeats 4000000 in
theorem w_X8_newest_16 {F : Nat} {r' : Int32} {σ' : St}  (C : Cx g p s m args meth c cX8_newest 3 RX8) (hr : meth.sig.returnType = some .int) :
    (∀ (n : Nat) (σ : St) (x1 : Int32) (x2 : Int32), f_X8_newest_16 F n σ x1 x2 = some (r', σ') → ∀ (H : Heap) (locs : List Loc) (ls : Array Slot), Dy g (wM g σ ++ X) s H locs → lv_has ls 3 [(0, .ref (ga g 40)), (1, .int x1), (2, .int x2)] → W p l e (rmD 7) s m args below meth c H locs 0 0 (QI g below args s (wM g σ' ++ X) r') (F0 m 16 ls [])) := by
  have hx := C.1
  have hb := C.2.1
  have hE := C.2.2.2.2.2.2.2.2
  intro n
  induction n with
  | zero =>
    intro σ x1 x2 h
    cases h
  | succ n ih =>
    intro σ x1 x2 h H locs ls hd hl
    rw [f_X8_newest_16] at h
    refine lv_iload_n hx hb dX8_newest_16 rfl (lv_at hl 2 rfl) ?_
    refine lv_if_lt (tgt := 35) hx hb dX8_newest_17 (by decide) (fun c1 => ?_) (fun c1 => ?_)
    · replace h := iteT c1 h
      refine lv_iload_n hx hb dX8_newest_35 rfl (lv_at hl 2 rfl) ?_
      refine lv_if_ge (tgt := 44) hx hb dX8_newest_36 (by decide) (fun c2 => ?_) (fun c2 => ?_)
      · replace h := iteT c2 h
        refine lv_iload_n hx hb dX8_newest_44 rfl (lv_at hl 2 rfl) ?_
        exact rIretS (w := wM g) C hr hd h dX8_newest_45
      · replace h := iteF c2 h
        refine lv_bipush (v := (-2 : Int32)) hx hb dX8_newest_39 bi_m2 ?_
        refine lv_goto (tgt := 45) hx hb dX8_newest_41 (by decide) ?_
        exact rIretS (w := wM g) C hr hd h dX8_newest_45
    · replace h := iteF c1 h
      refine lv_aload_n hx hb dX8_newest_20 rfl (lv_at hl 0 rfl) ?_
      refine lv_iload_n hx hb dX8_newest_21 rfl (lv_at hl 1 rfl) ?_
      refine lv_iload_n hx hb dX8_newest_22 rfl (lv_at hl 2 rfl) ?_
      obtain ⟨r3, t4, et4, h⟩ := cal2_e h
      refine rCallI C hd (c_X8_isAnyTo hE et4) kX8_396 0 rfl rfl rfl rfl hl.1 rfl (Nat.le_of_ble_eq_true rfl) ⟨(Nat.le_of_ble_eq_true rfl), (Nat.le_of_ble_eq_true rfl)⟩ ⟨Nat.le_refl _, Nat.le_refl _⟩ dX8_newest_23 (fun H locs hd => ?_)
      refine lv_if_ne (tgt := 35) hx hb dX8_newest_26 (by decide) (fun c5 => ?_) (fun c5 => ?_)
      · replace h := iteF c5 h
        refine lv_iload_n hx hb dX8_newest_35 rfl (lv_at hl 2 rfl) ?_
        refine lv_if_ge (tgt := 44) hx hb dX8_newest_36 (by decide) (fun c6 => ?_) (fun c6 => ?_)
        · replace h := iteT c6 h
          refine lv_iload_n hx hb dX8_newest_44 rfl (lv_at hl 2 rfl) ?_
          exact rIretS (w := wM g) C hr hd h dX8_newest_45
        · replace h := iteF c6 h
          refine lv_bipush (v := (-2 : Int32)) hx hb dX8_newest_39 bi_m2 ?_
          refine lv_goto (tgt := 45) hx hb dX8_newest_41 (by decide) ?_
          exact rIretS (w := wM g) C hr hd h dX8_newest_45
      · replace h := iteT c5 h
        obtain ⟨v7, ev7, h⟩ := bnd_e h
        refine lv_iinc (v := v7) (lv' := [(2, .int v7), (0, .ref (ga g 40)), (1, .int x1)]) hx hb dX8_newest_29 hl (k := 2) rfl ((ii_m1 _).trans ev7.symm) (Nat.le_of_ble_eq_true rfl) rfl (fun ls hl => ?_)
        refine lv_goto (tgt := 16) hx hb dX8_newest_32 (by decide) ?_
        exact ih t4 x1 v7 h _ _ _ hd (lv_sub hl [1, 2, 0] rfl)
noncomputable def f_X8_newest (F : Nat) (σ : St) (x1 : Int32) : Option (Int32 × St) :=
  cal (f_X8_isLine F σ x1) (fun r1 => if r1 = 0 then (some ((-1 : Int32), σ)) else (cal (f_X8_placeOf F σ x1) (fun r3 => f_X8_newest_16 F F σ x1 r3)))
set_option maxRecDepth 100000 in
set_option maxHeartbeats 4000000 in
theorem c_X8_newest {l : Launch} {g : Gp} {X : va_W} (hE : E0 g) {F : Nat} {r' : Int32} {σ' : St} {σ : St} {x1 : Int32} (h : f_X8_newest F σ x1 = some (r', σ')) : Ci l g yX8_newest cX8_newest 3 (some .int) 7 [.ref (ga g 40), .int x1] (wM g σ ++ X) r' (wM g σ' ++ X) := by
  refine rHead hE (by decide +kernel) (Nat.le_of_ble_eq_true rfl) (fun p e s m below meth c C hr _ hd ls hl => ?_)
  have hx := C.1
  have hb := C.2.1
  have hl : lv_has ls 3 [(0, .ref (ga g 40)), (1, .int x1)] := hl
  generalize ([.ref (ga g 40), .int x1] : List Value).toArray = args at C ⊢
  have C : Cx g p s m args meth c cX8_newest 3 RX8 := C
  rw [f_X8_newest] at h
  refine lv_aload_n hx hb dX8_newest_0 rfl (lv_at hl 0 rfl) ?_
  refine lv_iload_n hx hb dX8_newest_1 rfl (lv_at hl 1 rfl) ?_
  obtain ⟨r1, er1, h⟩ := cal_e h
  refine rCallI C hd (c_X8_isLine hE er1) kX8_262 0 rfl rfl rfl rfl hl.1 rfl (Nat.le_of_ble_eq_true rfl) ⟨(Nat.le_of_ble_eq_true rfl), (Nat.le_of_ble_eq_true rfl)⟩ ⟨Nat.le_refl _, Nat.le_refl _⟩ dX8_newest_2 (fun H locs hd => ?_)
  refine lv_if_ne (tgt := 10) hx hb dX8_newest_5 (by decide) (fun c2 => ?_) (fun c2 => ?_)
  · replace h := iteF c2 h
    refine lv_aload_n hx hb dX8_newest_10 rfl (lv_at hl 0 rfl) ?_
    refine lv_iload_n hx hb dX8_newest_11 rfl (lv_at hl 1 rfl) ?_
    obtain ⟨r3, er3, h⟩ := cal_e h
    refine rCallI C hd (c_X8_placeOf hE er3) kX8_217 0 rfl rfl rfl rfl hl.1 rfl (Nat.le_of_ble_eq_true rfl) ⟨(Nat.le_of_ble_eq_true rfl), (Nat.le_of_ble_eq_true rfl)⟩ ⟨Nat.le_refl _, Nat.le_refl _⟩ dX8_newest_12 (fun H locs hd => ?_)
    refine lv_istore_n (lv' := [(2, .int r3), (0, .ref (ga g 40)), (1, .int x1)]) hx hb dX8_newest_15 rfl hl (Nat.le_of_ble_eq_true rfl) rfl (fun ls hl => ?_)
    exact w_X8_newest_16 C hr _ σ x1 r3 h _ _ _ hd (lv_sub hl [1, 2, 0] rfl)
  · replace h := iteT c2 h
    refine lv_iconst (v := (-1 : Int32)) hx hb dX8_newest_8 ic_m1 ?_
    exact rIretS (w := wM g) C hr hd h dX8_newest_9
noncomputable def f_X8_page (F : Nat) (σ : St) (x1 : Int32) (x2 : Int32) (x3 : Int32) : Option Int32 :=
  cal (f_X8_isPage F σ x1) (fun r1 => if r1 = 0 then (some 0) else (cal (f_X8_isAt F σ x2 x3) (fun r3 => if r3 = 0 then (some 0) else (cal (f_X8_pageAt F σ x1 x2 x3) (fun r5 => some r5)))))
set_option maxRecDepth 100000 in
set_option maxHeartbeats 4000000 in
theorem c_X8_page {l : Launch} {g : Gp} {X : va_W} (hE : E0 g) {F : Nat} {r' : Int32} {σ : St} {x1 : Int32} {x2 : Int32} {x3 : Int32} (h : f_X8_page F σ x1 x2 x3 = some r') : Ci l g yX8_page cX8_page 4 (some .int) 5 [.ref (ga g 40), .int x1, .int x2, .int x3] (wM g σ ++ X) r' (wM g σ ++ X) := by
  refine rHead hE (by decide +kernel) (Nat.le_of_ble_eq_true rfl) (fun p e s m below meth c C hr _ hd ls hl => ?_)
  have hx := C.1
  have hb := C.2.1
  have hl : lv_has ls 4 [(0, .ref (ga g 40)), (1, .int x1), (2, .int x2), (3, .int x3)] := hl
  generalize ([.ref (ga g 40), .int x1, .int x2, .int x3] : List Value).toArray = args at C ⊢
  have C : Cx g p s m args meth c cX8_page 4 RX8 := C
  rw [f_X8_page] at h
  refine lv_aload_n hx hb dX8_page_0 rfl (lv_at hl 0 rfl) ?_
  refine lv_iload_n hx hb dX8_page_1 rfl (lv_at hl 1 rfl) ?_
  obtain ⟨r1, er1, h⟩ := cal_e h
  refine rCallI C hd (c_X8_isPage hE er1) kX8_334 0 rfl rfl rfl rfl hl.1 rfl (Nat.le_of_ble_eq_true rfl) ⟨(Nat.le_of_ble_eq_true rfl), (Nat.le_of_ble_eq_true rfl)⟩ ⟨Nat.le_refl _, Nat.le_refl _⟩ dX8_page_2 (fun H locs hd => ?_)
  refine lv_if_eq (tgt := 27) hx hb dX8_page_5 (by decide) (fun c2 => ?_) (fun c2 => ?_)
  · replace h := iteT c2 h
    refine lv_iconst (v := 0) hx hb dX8_page_27 ic_0 ?_
    exact rIretP C hr hd h dX8_page_28
  · replace h := iteF c2 h
    refine lv_aload_n hx hb dX8_page_8 rfl (lv_at hl 0 rfl) ?_
    refine lv_iload_n hx hb dX8_page_9 rfl (lv_at hl 2 rfl) ?_
    refine lv_iload_n hx hb dX8_page_10 rfl (lv_at hl 3 rfl) ?_
    obtain ⟨r3, er3, h⟩ := cal_e h
    refine rCallI C hd (c_X8_isAt hE er3) kX8_304 0 rfl rfl rfl rfl hl.1 rfl (Nat.le_of_ble_eq_true rfl) ⟨(Nat.le_of_ble_eq_true rfl), (Nat.le_of_ble_eq_true rfl)⟩ ⟨Nat.le_refl _, Nat.le_refl _⟩ dX8_page_11 (fun H locs hd => ?_)
    refine lv_if_eq (tgt := 27) hx hb dX8_page_14 (by decide) (fun c4 => ?_) (fun c4 => ?_)
    · replace h := iteT c4 h
      refine lv_iconst (v := 0) hx hb dX8_page_27 ic_0 ?_
      exact rIretP C hr hd h dX8_page_28
    · replace h := iteF c4 h
      refine lv_aload_n hx hb dX8_page_17 rfl (lv_at hl 0 rfl) ?_
      refine lv_iload_n hx hb dX8_page_18 rfl (lv_at hl 1 rfl) ?_
      refine lv_iload_n hx hb dX8_page_19 rfl (lv_at hl 2 rfl) ?_
      refine lv_iload_n hx hb dX8_page_20 rfl (lv_at hl 3 rfl) ?_
      obtain ⟨r5, er5, h⟩ := cal_e h
      refine rCallI C hd (c_X8_pageAt hE er5) kX8_343 0 rfl rfl rfl rfl hl.1 rfl (Nat.le_of_ble_eq_true rfl) ⟨(Nat.le_of_ble_eq_true rfl), (Nat.le_of_ble_eq_true rfl)⟩ ⟨Nat.le_refl _, Nat.le_refl _⟩ dX8_page_21 (fun H locs hd => ?_)
      refine lv_goto (tgt := 28) hx hb dX8_page_24 (by decide) ?_
      exact rIretP C hr hd h dX8_page_28
noncomputable def f_X8_piece (F : Nat) (σ : St) (x1 : Int32) (x2 : Int32) : Option Int32 :=
  cal (f_X8_hasPiece F σ x1 x2) (fun r1 => if r1 = 0 then (some (-1 : Int32)) else (cal (f_X8_keptOf F σ x1 x2) (fun r3 => some r3)))
set_option maxRecDepth 100000 in
set_option maxHeartbeats 4000000 in
theorem c_X8_piece {l : Launch} {g : Gp} {X : va_W} (hE : E0 g) {F : Nat} {r' : Int32} {σ : St} {x1 : Int32} {x2 : Int32} (h : f_X8_piece F σ x1 x2 = some r') : Ci l g yX8_piece cX8_piece 3 (some .int) 3 [.ref (ga g 40), .int x1, .int x2] (wM g σ ++ X) r' (wM g σ ++ X) := by
  refine rHead hE (by decide +kernel) (Nat.le_of_ble_eq_true rfl) (fun p e s m below meth c C hr _ hd ls hl => ?_)
  have hx := C.1
  have hb := C.2.1
  have hl : lv_has ls 3 [(0, .ref (ga g 40)), (1, .int x1), (2, .int x2)] := hl
  generalize ([.ref (ga g 40), .int x1, .int x2] : List Value).toArray = args at C ⊢
  have C : Cx g p s m args meth c cX8_piece 3 RX8 := C
  rw [f_X8_piece] at h
  refine lv_aload_n hx hb dX8_piece_0 rfl (lv_at hl 0 rfl) ?_
  refine lv_iload_n hx hb dX8_piece_1 rfl (lv_at hl 1 rfl) ?_
  refine lv_iload_n hx hb dX8_piece_2 rfl (lv_at hl 2 rfl) ?_
  obtain ⟨r1, er1, h⟩ := cal_e h
  refine rCallI C hd (c_X8_hasPiece hE er1) kX8_352 0 rfl rfl rfl rfl hl.1 rfl (Nat.le_of_ble_eq_true rfl) ⟨(Nat.le_of_ble_eq_true rfl), (Nat.le_of_ble_eq_true rfl)⟩ ⟨Nat.le_refl _, Nat.le_refl _⟩ dX8_piece_3 (fun H locs hd => ?_)
  refine lv_if_eq (tgt := 18) hx hb dX8_piece_6 (by decide) (fun c2 => ?_) (fun c2 => ?_)
  · replace h := iteT c2 h
    refine lv_iconst (v := (-1 : Int32)) hx hb dX8_piece_18 ic_m1 ?_
    exact rIretP C hr hd h dX8_piece_19
  · replace h := iteF c2 h
    refine lv_aload_n hx hb dX8_piece_9 rfl (lv_at hl 0 rfl) ?_
    refine lv_iload_n hx hb dX8_piece_10 rfl (lv_at hl 1 rfl) ?_
    refine lv_iload_n hx hb dX8_piece_11 rfl (lv_at hl 2 rfl) ?_
    obtain ⟨r3, er3, h⟩ := cal_e h
    refine rCallI C hd (c_X8_keptOf hE er3) kX8_295 0 rfl rfl rfl rfl hl.1 rfl (Nat.le_of_ble_eq_true rfl) ⟨(Nat.le_of_ble_eq_true rfl), (Nat.le_of_ble_eq_true rfl)⟩ ⟨Nat.le_refl _, Nat.le_refl _⟩ dX8_piece_12 (fun H locs hd => ?_)
    refine lv_goto (tgt := 19) hx hb dX8_piece_15 (by decide) ?_
    exact rIretP C hr hd h dX8_piece_19
noncomputable def f_X8_pinnedBy_97 (F : Nat) (k_21 : St → Int32 → Int32 → Int32 → Int32 → Int32 → Int32 → Option (Int32 × St)) (σ : St) (x1 : Int32) (x2 : Int32) (x3 : Int32) (x4 : Int32) (x5 : Int32) (x6 : Int32) : Option (Int32 × St) :=
  bnd (x6 + 1) (fun v1 => k_21 σ x1 x2 x3 x4 x5 v1)
set_option maxRecDepth 100000 in
set_option maxHeartbeats 4000000 in
theorem w_X8_pinnedBy_97 {F : Nat} {r' : Int32} {σ' : St}  (C : Cx g p s m args meth c cX8_pinnedBy 7 RX8) (hr : meth.sig.returnType = some .int)
    {k_21 : St → Int32 → Int32 → Int32 → Int32 → Int32 → Int32 → Option (Int32 × St)} (hk_21 : (∀ (σ : St) (x1 : Int32) (x2 : Int32) (x3 : Int32) (x4 : Int32) (x5 : Int32) (x6 : Int32), k_21 σ x1 x2 x3 x4 x5 x6 = some (r', σ') → ∀ (H : Heap) (locs : List Loc) (ls : Array Slot), Dy g (wM g σ ++ X) s H locs → lv_has ls 7 [(0, .ref (ga g 40)), (1, .int x1), (2, .int x2), (3, .int x3), (4, .int x4), (5, .int x5), (6, .int x6)] → W p l e (rmD 6) s m args below meth c H locs 0 0 (QI g below args s (wM g σ' ++ X) r') (F0 m 21 ls []))) :
    (∀ (σ : St) (x1 : Int32) (x2 : Int32) (x3 : Int32) (x4 : Int32) (x5 : Int32) (x6 : Int32), f_X8_pinnedBy_97 F k_21 σ x1 x2 x3 x4 x5 x6 = some (r', σ') → ∀ (H : Heap) (locs : List Loc) (ls : Array Slot), Dy g (wM g σ ++ X) s H locs → lv_has ls 7 [(0, .ref (ga g 40)), (1, .int x1), (2, .int x2), (3, .int x3), (4, .int x4), (5, .int x5), (6, .int x6)] → W p l e (rmD 6) s m args below meth c H locs 0 0 (QI g below args s (wM g σ' ++ X) r') (F0 m 97 ls [])) := by
  have hx := C.1
  have hb := C.2.1
  have hE := C.2.2.2.2.2.2.2.2
  intro σ x1 x2 x3 x4 x5 x6 h H locs ls hd hl
  rw [f_X8_pinnedBy_97] at h
  obtain ⟨v1, ev1, h⟩ := bnd_e h
  refine lv_iinc (v := v1) (lv' := [(6, .int v1), (0, .ref (ga g 40)), (1, .int x1), (2, .int x2), (3, .int x3), (4, .int x4), (5, .int x5)]) hx hb dX8_pinnedBy_97 hl (k := 6) rfl ((ii_1 _).trans ev1.symm) (Nat.le_of_ble_eq_true rfl) rfl (fun ls hl => ?_)
  refine lv_goto (tgt := 21) hx hb dX8_pinnedBy_100 (by decide) ?_
  exact hk_21 σ x1 x2 x3 x4 x5 v1 h _ _ _ hd (lv_sub hl [1, 2, 3, 4, 5, 6, 0] rfl)
noncomputable def f_X8_pinnedBy_21 (F : Nat) : Nat → St → Int32 → Int32 → Int32 → Int32 → Int32 → Int32 → Option (Int32 × St)
  | 0, _, _, _, _, _, _, _ => none
  | n + 1, σ, x1, x2, x3, x4, x5, x6 => if (σ.2.1 19 5) ≤ x6 then (some (x3, σ)) else (cal2 (f_X8_comesOut_ F σ x6 x4 x5) (fun r2 t3 => cal (f_X8_isNeeding F t3 r2) (fun r4 => if r4 = 0 then (f_X8_pinnedBy_97 F (f_X8_pinnedBy_21 F n) t3 x1 x2 x3 x4 x5 x6) else (if (t3.1 15) < 0 then (f_X8_pinnedBy_97 F (f_X8_pinnedBy_21 F n) t3 x1 x2 x3 x4 x5 x6) else (cal (f_X8_pieceOf F t3 (t3.1 15)) (fun r7 => cal (f_X8_pieceOf F t3 x5) (fun r8 => cal (f_X8_in F t3 x2 r7 r8) (fun r9 => if r9 = 0 then (f_X8_pinnedBy_97 F (f_X8_pinnedBy_21 F n) t3 x1 x2 x3 x4 x5 x6) else (cal (f_X8_holderOf F t3 x4 x2) (fun r11 => if r11 = x1 then (bnd (x3 ||| (1 <<< (x6 &&& 31))) (fun v13 => f_X8_pinnedBy_97 F (f_X8_pinnedBy_21 F n) t3 x1 x2 v13 x4 x5 x6)) else (f_X8_pinnedBy_97 F (f_X8_pinnedBy_21 F n) t3 x1 x2 x3 x4 x5 x6)))))))))))
set_option maxRecDepth 100000 in
set_option maxHeartbeats 4000000 in
theorem w_X8_pinnedBy_21 {F : Nat} {r' : Int32} {σ' : St}  (C : Cx g p s m args meth c cX8_pinnedBy 7 RX8) (hr : meth.sig.returnType = some .int) :
    (∀ (n : Nat) (σ : St) (x1 : Int32) (x2 : Int32) (x3 : Int32) (x4 : Int32) (x5 : Int32) (x6 : Int32), f_X8_pinnedBy_21 F n σ x1 x2 x3 x4 x5 x6 = some (r', σ') → ∀ (H : Heap) (locs : List Loc) (ls : Array Slot), Dy g (wM g σ ++ X) s H locs → lv_has ls 7 [(0, .ref (ga g 40)), (1, .int x1), (2, .int x2), (3, .int x3), (4, .int x4), (5, .int x5), (6, .int x6)] → W p l e (rmD 6) s m args below meth c H locs 0 0 (QI g below args s (wM g σ' ++ X) r') (F0 m 21 ls [])) := by
  have hx := C.1
  have hb := C.2.1
  have hE := C.2.2.2.2.2.2.2.2
  intro n
  induction n with
  | zero =>
    intro σ x1 x2 x3 x4 x5 x6 h
    cases h
  | succ n ih =>
    intro σ x1 x2 x3 x4 x5 x6 h H locs ls hd hl
    rw [f_X8_pinnedBy_21] at h
    refine lv_iload hx hb dX8_pinnedBy_21 (lv_at hl 6 rfl) ?_
    refine lv_aload_n hx hb dX8_pinnedBy_23 rfl (lv_at hl 0 rfl) ?_
    refine gX8_73 C hd dX8_pinnedBy_24 ?_
    refine lv_iconst (v := 5) hx hb dX8_pinnedBy_27 ic_5 ?_
    refine ldc_wM_19 C hd cl_5 (inb_i (by decide +kernel)) dX8_pinnedBy_28 ?_
    refine lv_icmp_ge (tgt := 103) hx hb dX8_pinnedBy_29 (by decide) (fun c1 => ?_) (fun c1 => ?_)
    · replace h := iteT c1 h
      refine lv_iload_n hx hb dX8_pinnedBy_103 rfl (lv_at hl 3 rfl) ?_
      exact rIretS (w := wM g) C hr hd h dX8_pinnedBy_104
    · replace h := iteF c1 h
      refine lv_aload_n hx hb dX8_pinnedBy_32 rfl (lv_at hl 0 rfl) ?_
      refine lv_iload hx hb dX8_pinnedBy_33 (lv_at hl 6 rfl) ?_
      refine lv_iload hx hb dX8_pinnedBy_35 (lv_at hl 4 rfl) ?_
      refine lv_iload hx hb dX8_pinnedBy_37 (lv_at hl 5 rfl) ?_
      obtain ⟨r2, t3, et3, h⟩ := cal2_e h
      refine rCallI C hd (c_X8_comesOut_ hE et3) kX8_350 0 rfl rfl rfl rfl hl.1 rfl (Nat.le_of_ble_eq_true rfl) ⟨(Nat.le_of_ble_eq_true rfl), (Nat.le_of_ble_eq_true rfl)⟩ ⟨Nat.le_refl _, Nat.le_refl _⟩ dX8_pinnedBy_39 (fun H locs hd => ?_)
      obtain ⟨r4, er4, h⟩ := cal_e h
      refine rCallSI C hd (c_X8_isNeeding hE er4) kX8_390 rfl hl.1 rfl (Nat.le_of_ble_eq_true rfl) ⟨(Nat.le_of_ble_eq_true rfl), (Nat.le_of_ble_eq_true rfl)⟩ ⟨Nat.le_refl _, Nat.le_refl _⟩ dX8_pinnedBy_42 (fun H locs hd => ?_)
      refine lv_if_eq (tgt := 97) hx hb dX8_pinnedBy_45 (by decide) (fun c5 => ?_) (fun c5 => ?_)
      · replace h := iteT c5 h
        exact w_X8_pinnedBy_97 C hr ih t3 x1 x2 x3 x4 x5 x6 h _ _ _ hd (lv_sub hl [0, 1, 2, 3, 4, 5, 6] rfl)
      · replace h := iteF c5 h
        refine lv_aload_n hx hb dX8_pinnedBy_48 rfl (lv_at hl 0 rfl) ?_
        refine gX8_319 C hd dX8_pinnedBy_49 ?_
        refine lv_if_lt (tgt := 97) hx hb dX8_pinnedBy_52 (by decide) (fun c6 => ?_) (fun c6 => ?_)
        · replace h := iteT c6 h
          exact w_X8_pinnedBy_97 C hr ih t3 x1 x2 x3 x4 x5 x6 h _ _ _ hd (lv_sub hl [0, 1, 2, 3, 4, 5, 6] rfl)
        · replace h := iteF c6 h
          refine lv_iload_n hx hb dX8_pinnedBy_55 rfl (lv_at hl 2 rfl) ?_
          refine lv_aload_n hx hb dX8_pinnedBy_56 rfl (lv_at hl 0 rfl) ?_
          refine lv_aload_n hx hb dX8_pinnedBy_57 rfl (lv_at hl 0 rfl) ?_
          refine gX8_319 C hd dX8_pinnedBy_58 ?_
          obtain ⟨r7, er7, h⟩ := cal_e h
          refine rCallI C hd (c_X8_pieceOf hE er7) kX8_277 0 rfl rfl rfl rfl hl.1 rfl (Nat.le_of_ble_eq_true rfl) ⟨(Nat.le_of_ble_eq_true rfl), (Nat.le_of_ble_eq_true rfl)⟩ ⟨Nat.le_refl _, Nat.le_refl _⟩ dX8_pinnedBy_61 (fun H locs hd => ?_)
          refine lv_aload_n hx hb dX8_pinnedBy_64 rfl (lv_at hl 0 rfl) ?_
          refine lv_iload hx hb dX8_pinnedBy_65 (lv_at hl 5 rfl) ?_
          obtain ⟨r8, er8, h⟩ := cal_e h
          refine rCallI C hd (c_X8_pieceOf hE er8) kX8_277 0 rfl rfl rfl rfl hl.1 rfl (Nat.le_of_ble_eq_true rfl) ⟨(Nat.le_of_ble_eq_true rfl), (Nat.le_of_ble_eq_true rfl)⟩ ⟨Nat.le_refl _, Nat.le_refl _⟩ dX8_pinnedBy_67 (fun H locs hd => ?_)
          obtain ⟨r9, er9, h⟩ := cal_e h
          refine rCallSI C hd (c_X8_in hE er9) kX8_194 rfl hl.1 rfl (Nat.le_of_ble_eq_true rfl) ⟨(Nat.le_of_ble_eq_true rfl), (Nat.le_of_ble_eq_true rfl)⟩ ⟨Nat.le_refl _, Nat.le_refl _⟩ dX8_pinnedBy_70 (fun H locs hd => ?_)
          refine lv_if_ne (tgt := 79) hx hb dX8_pinnedBy_73 (by decide) (fun c10 => ?_) (fun c10 => ?_)
          · replace h := iteF c10 h
            refine lv_aload_n hx hb dX8_pinnedBy_79 rfl (lv_at hl 0 rfl) ?_
            refine lv_iload hx hb dX8_pinnedBy_80 (lv_at hl 4 rfl) ?_
            refine lv_iload_n hx hb dX8_pinnedBy_82 rfl (lv_at hl 2 rfl) ?_
            obtain ⟨r11, er11, h⟩ := cal_e h
            refine rCallI C hd (c_X8_holderOf hE er11) kX8_322 0 rfl rfl rfl rfl hl.1 rfl (Nat.le_of_ble_eq_true rfl) ⟨(Nat.le_of_ble_eq_true rfl), (Nat.le_of_ble_eq_true rfl)⟩ ⟨Nat.le_refl _, Nat.le_refl _⟩ dX8_pinnedBy_83 (fun H locs hd => ?_)
            refine lv_iload_n hx hb dX8_pinnedBy_86 rfl (lv_at hl 1 rfl) ?_
            refine lv_icmp_ne (tgt := 97) hx hb dX8_pinnedBy_87 (by decide) (fun c12 => ?_) (fun c12 => ?_)
            · replace h := iteF c12 h
              exact w_X8_pinnedBy_97 C hr ih t3 x1 x2 x3 x4 x5 x6 h _ _ _ hd (lv_sub hl [0, 1, 2, 3, 4, 5, 6] rfl)
            · replace h := iteT c12 h
              refine lv_iload_n hx hb dX8_pinnedBy_90 rfl (lv_at hl 3 rfl) ?_
              refine lv_iconst (v := 1) hx hb dX8_pinnedBy_91 ic_1 ?_
              refine lv_iload hx hb dX8_pinnedBy_92 (lv_at hl 6 rfl) ?_
              refine lv_ishl hx hb dX8_pinnedBy_94 ?_
              refine lv_ior hx hb dX8_pinnedBy_95 ?_
              obtain ⟨v13, ev13, h⟩ := bnd_e h
              refine rTop ev13 ?_
              refine lv_istore_n (lv' := [(3, .int v13), (0, .ref (ga g 40)), (1, .int x1), (2, .int x2), (4, .int x4), (5, .int x5), (6, .int x6)]) hx hb dX8_pinnedBy_96 rfl hl (Nat.le_of_ble_eq_true rfl) rfl (fun ls hl => ?_)
              exact w_X8_pinnedBy_97 C hr ih t3 x1 x2 v13 x4 x5 x6 h _ _ _ hd (lv_sub hl [1, 2, 3, 0, 4, 5, 6] rfl)
          · replace h := iteT c10 h
            refine lv_goto (tgt := 97) hx hb dX8_pinnedBy_76 (by decide) ?_
            exact w_X8_pinnedBy_97 C hr ih t3 x1 x2 x3 x4 x5 x6 h _ _ _ hd (lv_sub hl [0, 1, 2, 3, 4, 5, 6] rfl)
noncomputable def f_X8_pinnedBy (F : Nat) (σ : St) (x1 : Int32) (x2 : Int32) : Option (Int32 × St) :=
  bnd (σ.2.1 19 3) (fun v1 => cal (f_X8_placeOf F σ v1) (fun r2 => f_X8_pinnedBy_21 F F σ x1 x2 0 v1 r2 0))
set_option maxRecDepth 100000 in
set_option maxHeartbeats 4000000 in
theorem c_X8_pinnedBy {l : Launch} {g : Gp} {X : va_W} (hE : E0 g) {F : Nat} {r' : Int32} {σ' : St} {σ : St} {x1 : Int32} {x2 : Int32} (h : f_X8_pinnedBy F σ x1 x2 = some (r', σ')) : Ci l g yX8_pinnedBy cX8_pinnedBy 7 (some .int) 6 [.ref (ga g 40), .int x1, .int x2] (wM g σ ++ X) r' (wM g σ' ++ X) := by
  refine rHead hE (by decide +kernel) (Nat.le_of_ble_eq_true rfl) (fun p e s m below meth c C hr _ hd ls hl => ?_)
  have hx := C.1
  have hb := C.2.1
  have hl : lv_has ls 7 [(0, .ref (ga g 40)), (1, .int x1), (2, .int x2)] := hl
  generalize ([.ref (ga g 40), .int x1, .int x2] : List Value).toArray = args at C ⊢
  have C : Cx g p s m args meth c cX8_pinnedBy 7 RX8 := C
  rw [f_X8_pinnedBy] at h
  refine lv_iconst (v := 0) hx hb dX8_pinnedBy_0 ic_0 ?_
  refine lv_istore_n (lv' := [(3, .int 0), (0, .ref (ga g 40)), (1, .int x1), (2, .int x2)]) hx hb dX8_pinnedBy_1 rfl hl (Nat.le_of_ble_eq_true rfl) rfl (fun ls hl => ?_)
  refine lv_aload_n hx hb dX8_pinnedBy_2 rfl (lv_at hl 1 rfl) ?_
  refine gX8_73 C hd dX8_pinnedBy_3 ?_
  refine lv_iconst (v := 3) hx hb dX8_pinnedBy_6 ic_3 ?_
  refine ldc_wM_19 C hd cl_3 (inb_i (by decide +kernel)) dX8_pinnedBy_7 ?_
  obtain ⟨v1, ev1, h⟩ := bnd_e h
  refine rTop ev1 ?_
  refine lv_istore (lv' := [(4, .int v1), (3, .int 0), (0, .ref (ga g 40)), (1, .int x1), (2, .int x2)]) hx hb dX8_pinnedBy_8 hl (Nat.le_of_ble_eq_true rfl) rfl (fun ls hl => ?_)
  refine lv_aload_n hx hb dX8_pinnedBy_10 rfl (lv_at hl 2 rfl) ?_
  refine lv_iload hx hb dX8_pinnedBy_11 (lv_at hl 0 rfl) ?_
  obtain ⟨r2, er2, h⟩ := cal_e h
  refine rCallI C hd (c_X8_placeOf hE er2) kX8_217 0 rfl rfl rfl rfl hl.1 rfl (Nat.le_of_ble_eq_true rfl) ⟨(Nat.le_of_ble_eq_true rfl), (Nat.le_of_ble_eq_true rfl)⟩ ⟨Nat.le_refl _, Nat.le_refl _⟩ dX8_pinnedBy_13 (fun H locs hd => ?_)
  refine lv_istore (lv' := [(5, .int r2), (4, .int v1), (3, .int 0), (0, .ref (ga g 40)), (1, .int x1), (2, .int x2)]) hx hb dX8_pinnedBy_16 hl (Nat.le_of_ble_eq_true rfl) rfl (fun ls hl => ?_)
  refine lv_iconst (v := 0) hx hb dX8_pinnedBy_18 ic_0 ?_
  refine lv_istore (lv' := [(6, .int 0), (5, .int r2), (4, .int v1), (3, .int 0), (0, .ref (ga g 40)), (1, .int x1), (2, .int x2)]) hx hb dX8_pinnedBy_19 hl (Nat.le_of_ble_eq_true rfl) rfl (fun ls hl => ?_)
  exact w_X8_pinnedBy_21 C hr _ σ x1 x2 0 v1 r2 0 h _ _ _ hd (lv_sub hl [4, 5, 6, 3, 2, 1, 0] rfl)
noncomputable def f_X8_pinned (F : Nat) (σ : St) (x1 : Int32) (x2 : Int32) : Option (Int32 × St) :=
  cal (f_X8_hasPiece F σ x1 x2) (fun r1 => if r1 = 0 then (some ((-1 : Int32), σ)) else (cal2 (f_X8_pinnedBy F σ x1 x2) (fun r3 t4 => some (r3, t4))))
set_option maxRecDepth 100000 in
set_option maxHeartbeats 4000000 in
theorem c_X8_pinned {l : Launch} {g : Gp} {X : va_W} (hE : E0 g) {F : Nat} {r' : Int32} {σ' : St} {σ : St} {x1 : Int32} {x2 : Int32} (h : f_X8_pinned F σ x1 x2 = some (r', σ')) : Ci l g yX8_pinned cX8_pinned 3 (some .int) 7 [.ref (ga g 40), .int x1, .int x2] (wM g σ ++ X) r' (wM g σ' ++ X) := by
  refine rHead hE (by decide +kernel) (Nat.le_of_ble_eq_true rfl) (fun p e s m below meth c C hr _ hd ls hl => ?_)
  have hx := C.1
  have hb := C.2.1
  have hl : lv_has ls 3 [(0, .ref (ga g 40)), (1, .int x1), (2, .int x2)] := hl
  generalize ([.ref (ga g 40), .int x1, .int x2] : List Value).toArray = args at C ⊢
  have C : Cx g p s m args meth c cX8_pinned 3 RX8 := C
  rw [f_X8_pinned] at h
  refine lv_aload_n hx hb dX8_pinned_0 rfl (lv_at hl 0 rfl) ?_
  refine lv_iload_n hx hb dX8_pinned_1 rfl (lv_at hl 1 rfl) ?_
  refine lv_iload_n hx hb dX8_pinned_2 rfl (lv_at hl 2 rfl) ?_
  obtain ⟨r1, er1, h⟩ := cal_e h
  refine rCallI C hd (c_X8_hasPiece hE er1) kX8_352 0 rfl rfl rfl rfl hl.1 rfl (Nat.le_of_ble_eq_true rfl) ⟨(Nat.le_of_ble_eq_true rfl), (Nat.le_of_ble_eq_true rfl)⟩ ⟨Nat.le_refl _, Nat.le_refl _⟩ dX8_pinned_3 (fun H locs hd => ?_)
  refine lv_if_eq (tgt := 18) hx hb dX8_pinned_6 (by decide) (fun c2 => ?_) (fun c2 => ?_)
  · replace h := iteT c2 h
    refine lv_iconst (v := (-1 : Int32)) hx hb dX8_pinned_18 ic_m1 ?_
    exact rIretS (w := wM g) C hr hd h dX8_pinned_19
  · replace h := iteF c2 h
    refine lv_aload_n hx hb dX8_pinned_9 rfl (lv_at hl 0 rfl) ?_
    refine lv_iload_n hx hb dX8_pinned_10 rfl (lv_at hl 1 rfl) ?_
    refine lv_iload_n hx hb dX8_pinned_11 rfl (lv_at hl 2 rfl) ?_
    obtain ⟨r3, t4, et4, h⟩ := cal2_e h
    refine rCallI C hd (c_X8_pinnedBy hE et4) kX8_393 0 rfl rfl rfl rfl hl.1 rfl (Nat.le_of_ble_eq_true rfl) ⟨(Nat.le_of_ble_eq_true rfl), (Nat.le_of_ble_eq_true rfl)⟩ ⟨Nat.le_refl _, Nat.le_refl _⟩ dX8_pinned_12 (fun H locs hd => ?_)
    refine lv_goto (tgt := 19) hx hb dX8_pinned_15 (by decide) ?_
    exact rIretS (w := wM g) C hr hd h dX8_pinned_19
noncomputable def f_X8_place (F : Nat) (σ : St) : Option Int32 :=
  some (σ.1 10)
set_option maxRecDepth 100000 in
set_option maxHeartbeats 4000000 in
theorem c_X8_place {l : Launch} {g : Gp} {X : va_W} (hE : E0 g) {F : Nat} {r' : Int32} {σ : St} (h : f_X8_place F σ = some r') : Ci l g yX8_place cX8_place 1 (some .int) 0 [.ref (ga g 40)] (wM g σ ++ X) r' (wM g σ ++ X) := by
  refine rHead hE (by decide +kernel) (Nat.le_of_ble_eq_true rfl) (fun p e s m below meth c C hr _ hd ls hl => ?_)
  have hx := C.1
  have hb := C.2.1
  have hl : lv_has ls 1 [(0, .ref (ga g 40))] := hl
  generalize ([.ref (ga g 40)] : List Value).toArray = args at C ⊢
  have C : Cx g p s m args meth c cX8_place 1 RX8 := C
  rw [f_X8_place] at h
  refine lv_aload_n hx hb dX8_place_0 rfl (lv_at hl 0 rfl) ?_
  refine gX8_37 C hd dX8_place_1 ?_
  exact rIretP C hr hd h dX8_place_4
noncomputable def f_X8_reach (F : Nat) (σ : St) (x1 : Int32) : Option (Int32 × St) :=
  cal (f_X8_isLine F σ x1) (fun r1 => if r1 = 0 then (some ((-1 : Int32), σ)) else (cal2 (f_X8_reachOf F σ x1) (fun r3 t4 => some (r3, t4))))
set_option maxRecDepth 100000 in
set_option maxHeartbeats 4000000 in
theorem c_X8_reach {l : Launch} {g : Gp} {X : va_W} (hE : E0 g) {F : Nat} {r' : Int32} {σ' : St} {σ : St} {x1 : Int32} (h : f_X8_reach F σ x1 = some (r', σ')) : Ci l g yX8_reach cX8_reach 2 (some .int) 8 [.ref (ga g 40), .int x1] (wM g σ ++ X) r' (wM g σ' ++ X) := by
  refine rHead hE (by decide +kernel) (Nat.le_of_ble_eq_true rfl) (fun p e s m below meth c C hr _ hd ls hl => ?_)
  have hx := C.1
  have hb := C.2.1
  have hl : lv_has ls 2 [(0, .ref (ga g 40)), (1, .int x1)] := hl
  generalize ([.ref (ga g 40), .int x1] : List Value).toArray = args at C ⊢
  have C : Cx g p s m args meth c cX8_reach 2 RX8 := C
  rw [f_X8_reach] at h
  refine lv_aload_n hx hb dX8_reach_0 rfl (lv_at hl 0 rfl) ?_
  refine lv_iload_n hx hb dX8_reach_1 rfl (lv_at hl 1 rfl) ?_
  obtain ⟨r1, er1, h⟩ := cal_e h
  refine rCallI C hd (c_X8_isLine hE er1) kX8_262 0 rfl rfl rfl rfl hl.1 rfl (Nat.le_of_ble_eq_true rfl) ⟨(Nat.le_of_ble_eq_true rfl), (Nat.le_of_ble_eq_true rfl)⟩ ⟨Nat.le_refl _, Nat.le_refl _⟩ dX8_reach_2 (fun H locs hd => ?_)
  refine lv_if_eq (tgt := 16) hx hb dX8_reach_5 (by decide) (fun c2 => ?_) (fun c2 => ?_)
  · replace h := iteT c2 h
    refine lv_iconst (v := (-1 : Int32)) hx hb dX8_reach_16 ic_m1 ?_
    exact rIretS (w := wM g) C hr hd h dX8_reach_17
  · replace h := iteF c2 h
    refine lv_aload_n hx hb dX8_reach_8 rfl (lv_at hl 0 rfl) ?_
    refine lv_iload_n hx hb dX8_reach_9 rfl (lv_at hl 1 rfl) ?_
    obtain ⟨r3, t4, et4, h⟩ := cal2_e h
    refine rCallI C hd (c_X8_reachOf hE et4) kX8_399 0 rfl rfl rfl rfl hl.1 rfl (Nat.le_of_ble_eq_true rfl) ⟨(Nat.le_of_ble_eq_true rfl), (Nat.le_of_ble_eq_true rfl)⟩ ⟨Nat.le_refl _, Nat.le_refl _⟩ dX8_reach_10 (fun H locs hd => ?_)
    refine lv_goto (tgt := 17) hx hb dX8_reach_13 (by decide) ?_
    exact rIretS (w := wM g) C hr hd h dX8_reach_17
noncomputable def f_X8_toldOr (F : Nat) (σ : St) (x1 : Int32) (x2 : Int32) (x3 : Int32) (x4 : Int32) : Option (Int32 × St) :=
  cal (f_X8_is F σ x1) (fun r1 => if r1 = 0 then (some (x4, σ)) else (cal (f_X8_goesOn F σ) (fun t3 => cal2 (f_X8_bounded F t3 x2 x3) (fun r4 t5 => cal (f_X8_must F t5 4) (fun t6 => some (r4, t6))))))
set_option maxRecDepth 100000 in
set_option maxHeartbeats 4000000 in
theorem c_X8_toldOr {l : Launch} {g : Gp} {X : va_W} (hE : E0 g) {F : Nat} {r' : Int32} {σ' : St} {σ : St} {x1 : Int32} {x2 : Int32} {x3 : Int32} {x4 : Int32} (h : f_X8_toldOr F σ x1 x2 x3 x4 = some (r', σ')) : Ci l g yX8_toldOr cX8_toldOr 6 (some .int) 3 [.ref (ga g 40), .int x1, .int x2, .int x3, .int x4] (wM g σ ++ X) r' (wM g σ' ++ X) := by
  refine rHead hE (by decide +kernel) (Nat.le_of_ble_eq_true rfl) (fun p e s m below meth c C hr _ hd ls hl => ?_)
  have hx := C.1
  have hb := C.2.1
  have hl : lv_has ls 6 [(0, .ref (ga g 40)), (1, .int x1), (2, .int x2), (3, .int x3), (4, .int x4)] := hl
  generalize ([.ref (ga g 40), .int x1, .int x2, .int x3, .int x4] : List Value).toArray = args at C ⊢
  have C : Cx g p s m args meth c cX8_toldOr 6 RX8 := C
  rw [f_X8_toldOr] at h
  refine lv_aload_n hx hb dX8_toldOr_0 rfl (lv_at hl 0 rfl) ?_
  refine lv_iload_n hx hb dX8_toldOr_1 rfl (lv_at hl 1 rfl) ?_
  obtain ⟨r1, er1, h⟩ := cal_e h
  refine rCallI C hd (c_X8_is hE er1) kX8_153 0 rfl rfl rfl rfl hl.1 rfl (Nat.le_of_ble_eq_true rfl) ⟨(Nat.le_of_ble_eq_true rfl), (Nat.le_of_ble_eq_true rfl)⟩ ⟨Nat.le_refl _, Nat.le_refl _⟩ dX8_toldOr_2 (fun H locs hd => ?_)
  refine lv_if_ne (tgt := 11) hx hb dX8_toldOr_5 (by decide) (fun c2 => ?_) (fun c2 => ?_)
  · replace h := iteF c2 h
    refine lv_aload_n hx hb dX8_toldOr_11 rfl (lv_at hl 0 rfl) ?_
    obtain ⟨t3, et3, h⟩ := cal_e h
    refine rCallV C hd (c_X8_goesOn hE et3) kX8_156 0 rfl rfl rfl rfl hl.1 rfl (Nat.le_of_ble_eq_true rfl) ⟨(Nat.le_of_ble_eq_true rfl), (Nat.le_of_ble_eq_true rfl)⟩ ⟨Nat.le_refl _, Nat.le_refl _⟩ dX8_toldOr_12 (fun H locs hd => ?_)
    refine lv_aload_n hx hb dX8_toldOr_15 rfl (lv_at hl 0 rfl) ?_
    refine lv_iload_n hx hb dX8_toldOr_16 rfl (lv_at hl 2 rfl) ?_
    refine lv_iload_n hx hb dX8_toldOr_17 rfl (lv_at hl 3 rfl) ?_
    obtain ⟨r4, t5, et5, h⟩ := cal2_e h
    refine rCallI C hd (c_X8_bounded hE et5) kX8_187 0 rfl rfl rfl rfl hl.1 rfl (Nat.le_of_ble_eq_true rfl) ⟨(Nat.le_of_ble_eq_true rfl), (Nat.le_of_ble_eq_true rfl)⟩ ⟨Nat.le_refl _, Nat.le_refl _⟩ dX8_toldOr_18 (fun H locs hd => ?_)
    refine lv_istore (lv' := [(5, .int r4), (0, .ref (ga g 40)), (1, .int x1), (2, .int x2), (3, .int x3), (4, .int x4)]) hx hb dX8_toldOr_21 hl (Nat.le_of_ble_eq_true rfl) rfl (fun ls hl => ?_)
    refine lv_aload_n hx hb dX8_toldOr_23 rfl (lv_at hl 1 rfl) ?_
    refine lv_iconst (v := 4) hx hb dX8_toldOr_24 ic_4 ?_
    obtain ⟨t6, et6, h⟩ := cal_e h
    refine rCallV C hd (c_X8_must hE et6) kX8_191 0 rfl rfl rfl rfl hl.1 rfl (Nat.le_of_ble_eq_true rfl) ⟨(Nat.le_of_ble_eq_true rfl), (Nat.le_of_ble_eq_true rfl)⟩ ⟨Nat.le_refl _, Nat.le_refl _⟩ dX8_toldOr_25 (fun H locs hd => ?_)
    refine lv_iload hx hb dX8_toldOr_28 (lv_at hl 0 rfl) ?_
    exact rIretS (w := wM g) C hr hd h dX8_toldOr_30
  · replace h := iteT c2 h
    refine lv_iload hx hb dX8_toldOr_8 (lv_at hl 4 rfl) ?_
    exact rIretS (w := wM g) C hr hd h dX8_toldOr_10
noncomputable def f_X8_termsOf (F : Nat) (σ : St) (x0 : Int32) : Option Int32 :=
  if x0 = 2 then (some 1) else (if x0 = 3 then (some 0) else (if x0 = 4 then (some 0) else (if x0 = 5 then (some 1) else (if x0 = 6 then (some 2) else (if x0 = 7 then (some 1) else (if x0 = 8 then (some 3) else (some 2)))))))
set_option maxRecDepth 100000 in
set_option maxHeartbeats 4000000 in
theorem c_X8_termsOf {l : Launch} {g : Gp} {X : va_W} (hE : E0 g) {F : Nat} {r' : Int32} {σ : St} {x0 : Int32} (h : f_X8_termsOf F σ x0 = some r') : Ci l g yX8_termsOf cX8_termsOf 1 (some .int) 0 [.int x0] (wM g σ ++ X) r' (wM g σ ++ X) := by
  refine rHead hE (by decide +kernel) (Nat.le_of_ble_eq_true rfl) (fun p e s m below meth c C hr _ hd ls hl => ?_)
  have hx := C.1
  have hb := C.2.1
  have hl : lv_has ls 1 [(0, .int x0)] := hl
  generalize ([.int x0] : List Value).toArray = args at C ⊢
  have C : Cx g p s m args meth c cX8_termsOf 1 RX8 := C
  rw [f_X8_termsOf] at h
  refine lv_iload_n hx hb dX8_termsOf_0 rfl (lv_at hl 0 rfl) ?_
  by_cases c1 : x0 = 2
  · replace h := iteT c1 h
    refine rTop c1.symm ?_
    refine lv_tableIn (off := 45) (tgt := 46) hx hb dX8_termsOf_1 (by decide) (by decide) (by decide) (by decide) ?_
    refine lv_iconst (v := 1) hx hb dX8_termsOf_46 ic_1 ?_
    exact rIretP C hr hd h dX8_termsOf_47
  · replace h := iteF c1 h
    by_cases c2 : x0 = 3
    · replace h := iteT c2 h
      refine rTop c2.symm ?_
      refine lv_tableIn (off := 43) (tgt := 44) hx hb dX8_termsOf_1 (by decide) (by decide) (by decide) (by decide) ?_
      refine lv_iconst (v := 0) hx hb dX8_termsOf_44 ic_0 ?_
      exact rIretP C hr hd h dX8_termsOf_45
    · replace h := iteF c2 h
      by_cases c3 : x0 = 4
      · replace h := iteT c3 h
        refine rTop c3.symm ?_
        refine lv_tableIn (off := 43) (tgt := 44) hx hb dX8_termsOf_1 (by decide) (by decide) (by decide) (by decide) ?_
        refine lv_iconst (v := 0) hx hb dX8_termsOf_44 ic_0 ?_
        exact rIretP C hr hd h dX8_termsOf_45
      · replace h := iteF c3 h
        by_cases c4 : x0 = 5
        · replace h := iteT c4 h
          refine rTop c4.symm ?_
          refine lv_tableIn (off := 45) (tgt := 46) hx hb dX8_termsOf_1 (by decide) (by decide) (by decide) (by decide) ?_
          refine lv_iconst (v := 1) hx hb dX8_termsOf_46 ic_1 ?_
          exact rIretP C hr hd h dX8_termsOf_47
        · replace h := iteF c4 h
          by_cases c5 : x0 = 6
          · replace h := iteT c5 h
            refine rTop c5.symm ?_
            refine lv_tableIn (off := 49) (tgt := 50) hx hb dX8_termsOf_1 (by decide) (by decide) (by decide) (by decide) ?_
            refine lv_iconst (v := 2) hx hb dX8_termsOf_50 ic_2 ?_
            exact rIretP C hr hd h dX8_termsOf_51
          · replace h := iteF c5 h
            by_cases c6 : x0 = 7
            · replace h := iteT c6 h
              refine rTop c6.symm ?_
              refine lv_tableIn (off := 45) (tgt := 46) hx hb dX8_termsOf_1 (by decide) (by decide) (by decide) (by decide) ?_
              refine lv_iconst (v := 1) hx hb dX8_termsOf_46 ic_1 ?_
              exact rIretP C hr hd h dX8_termsOf_47
            · replace h := iteF c6 h
              by_cases c7 : x0 = 8
              · replace h := iteT c7 h
                refine rTop c7.symm ?_
                refine lv_tableIn (off := 47) (tgt := 48) hx hb dX8_termsOf_1 (by decide) (by decide) (by decide) (by decide) ?_
                refine lv_iconst (v := 3) hx hb dX8_termsOf_48 ic_3 ?_
                exact rIretP C hr hd h dX8_termsOf_49
              · replace h := iteF c7 h
                refine lv_tableOut (tgt := 50) hx hb dX8_termsOf_1 (sw_out (lo := 2) (hi := 8) (fun z z1 z2 e => ?_)) (by decide) ?_
                · have hz : z = 2 ∨ z = 3 ∨ z = 4 ∨ z = 5 ∨ z = 6 ∨ z = 7 ∨ z = 8 := by omega
                  rcases hz with rfl | rfl | rfl | rfl | rfl | rfl | rfl
                  · exact c1 (Int32.toInt_inj.mp (e.trans (by decide)))
                  · exact c2 (Int32.toInt_inj.mp (e.trans (by decide)))
                  · exact c3 (Int32.toInt_inj.mp (e.trans (by decide)))
                  · exact c4 (Int32.toInt_inj.mp (e.trans (by decide)))
                  · exact c5 (Int32.toInt_inj.mp (e.trans (by decide)))
                  · exact c6 (Int32.toInt_inj.mp (e.trans (by decide)))
                  · exact c7 (Int32.toInt_inj.mp (e.trans (by decide)))
                refine lv_iconst (v := 2) hx hb dX8_termsOf_50 ic_2 ?_
                exact rIretP C hr hd h dX8_termsOf_51
noncomputable def f_X8_tellOne_220 (F : Nat) (k_182 : St → Int32 → Int32 → Int32 → Option St) (σ : St) (x1 : Int32) (x2 : Int32) (x3 : Int32) : Option St :=
  bnd (x3 + 1) (fun v1 => k_182 σ x1 x2 v1)
set_option maxRecDepth 100000 in
set_option maxHeartbeats 4000000 in
theorem w_X8_tellOne_220 {F : Nat} {σ' : St}  (C : Cx g p s m args meth c cX8_tellOne 4 RX8) (hr : meth.sig.returnType = none)
    {k_182 : St → Int32 → Int32 → Int32 → Option St} (hk_182 : (∀ (σ : St) (x1 : Int32) (x2 : Int32) (x3 : Int32), k_182 σ x1 x2 x3 = some σ' → ∀ (H : Heap) (locs : List Loc) (ls : Array Slot), Dy g (wM g σ ++ X) s H locs → lv_has ls 4 [(0, .ref (ga g 40)), (1, .int x1), (2, .int x2), (3, .int x3)] → W p l e (rmD 4) s m args below meth c H locs 0 0 (QV g below args s (wM g σ' ++ X)) (F0 m 182 ls []))) :
    (∀ (σ : St) (x1 : Int32) (x2 : Int32) (x3 : Int32), f_X8_tellOne_220 F k_182 σ x1 x2 x3 = some σ' → ∀ (H : Heap) (locs : List Loc) (ls : Array Slot), Dy g (wM g σ ++ X) s H locs → lv_has ls 4 [(0, .ref (ga g 40)), (1, .int x1), (2, .int x2), (3, .int x3)] → W p l e (rmD 4) s m args below meth c H locs 0 0 (QV g below args s (wM g σ' ++ X)) (F0 m 220 ls [])) := by
  have hx := C.1
  have hb := C.2.1
  have hE := C.2.2.2.2.2.2.2.2
  intro σ x1 x2 x3 h H locs ls hd hl
  rw [f_X8_tellOne_220] at h
  obtain ⟨v1, ev1, h⟩ := bnd_e h
  refine lv_iinc (v := v1) (lv' := [(3, .int v1), (0, .ref (ga g 40)), (1, .int x1), (2, .int x2)]) hx hb dX8_tellOne_220 hl (k := 3) rfl ((ii_1 _).trans ev1.symm) (Nat.le_of_ble_eq_true rfl) rfl (fun ls hl => ?_)
  refine lv_goto (tgt := 182) hx hb dX8_tellOne_223 (by decide) ?_
  exact hk_182 σ x1 x2 v1 h _ _ _ hd (lv_sub hl [1, 2, 3, 0] rfl)
noncomputable def f_X8_tellOne_182 (F : Nat) : Nat → St → Int32 → Int32 → Int32 → Option St
  | 0, _, _, _, _ => none
  | n + 1, σ, x1, x2, x3 => if 4 ≤ x3 then (cal (f_X8_must F σ 4) (fun t2 => bnd (ss t2 11 ((t2.1 11) + 1)) (fun t3 => some t3))) else (if inb ((4 * x1) + x3) 840 = true then bnd (sr σ 9 ((4 * x1) + x3).toNatClampNeg (σ.1 13)) (fun t5 => cal (f_X8_termsOf F t5 x2) (fun r6 => if r6 ≤ x3 then (f_X8_tellOne_220 F (f_X8_tellOne_182 F n) t5 x1 x2 x3) else (if (t5.1 6) = 0 then (cal (f_X8_expression F t5) (fun t9 => f_X8_tellOne_220 F (f_X8_tellOne_182 F n) t9 x1 x2 x3)) else (f_X8_tellOne_220 F (f_X8_tellOne_182 F n) t5 x1 x2 x3)))) else none)
set_option maxRecDepth 100000 in
set_option maxHeartbeats 4000000 in
theorem w_X8_tellOne_182 {F : Nat} {σ' : St}  (C : Cx g p s m args meth c cX8_tellOne 4 RX8) (hr : meth.sig.returnType = none) :
    (∀ (n : Nat) (σ : St) (x1 : Int32) (x2 : Int32) (x3 : Int32), f_X8_tellOne_182 F n σ x1 x2 x3 = some σ' → ∀ (H : Heap) (locs : List Loc) (ls : Array Slot), Dy g (wM g σ ++ X) s H locs → lv_has ls 4 [(0, .ref (ga g 40)), (1, .int x1), (2, .int x2), (3, .int x3)] → W p l e (rmD 4) s m args below meth c H locs 0 0 (QV g below args s (wM g σ' ++ X)) (F0 m 182 ls [])) := by
  have hx := C.1
  have hb := C.2.1
  have hE := C.2.2.2.2.2.2.2.2
  intro n
  induction n with
  | zero =>
    intro σ x1 x2 x3 h
    cases h
  | succ n ih =>
    intro σ x1 x2 x3 h H locs ls hd hl
    rw [f_X8_tellOne_182] at h
    refine lv_iload_n hx hb dX8_tellOne_182 rfl (lv_at hl 3 rfl) ?_
    refine lv_iconst (v := 4) hx hb dX8_tellOne_183 ic_4 ?_
    refine lv_icmp_ge (tgt := 226) hx hb dX8_tellOne_184 (by decide) (fun c1 => ?_) (fun c1 => ?_)
    · replace h := iteT c1 h
      refine lv_aload_n hx hb dX8_tellOne_226 rfl (lv_at hl 0 rfl) ?_
      refine lv_iconst (v := 4) hx hb dX8_tellOne_227 ic_4 ?_
      obtain ⟨t2, et2, h⟩ := cal_e h
      refine rCallV C hd (c_X8_must hE et2) kX8_191 0 rfl rfl rfl rfl hl.1 rfl (Nat.le_of_ble_eq_true rfl) ⟨(Nat.le_of_ble_eq_true rfl), (Nat.le_of_ble_eq_true rfl)⟩ ⟨Nat.le_refl _, Nat.le_refl _⟩ dX8_tellOne_228 (fun H locs hd => ?_)
      refine lv_aload_n hx hb dX8_tellOne_231 rfl (lv_at hl 0 rfl) ?_
      refine lv_dup hx hb dX8_tellOne_232 rfl ?_
      refine gX8_165 C hd dX8_tellOne_233 ?_
      refine lv_iconst (v := 1) hx hb dX8_tellOne_236 ic_1 ?_
      refine lv_iadd hx hb dX8_tellOne_237 ?_
      obtain ⟨t3, et3, h⟩ := bnd_e h
      refine pX8_165 C hd et3 dX8_tellOne_238 (fun H locs hd => ?_)
      exact rVretS (w := wM g) C hr hd h dX8_tellOne_241
    · replace h := iteF c1 h
      refine lv_aload_n hx hb dX8_tellOne_187 rfl (lv_at hl 0 rfl) ?_
      refine gX8_43 C hd dX8_tellOne_188 ?_
      refine lv_iconst (v := 4) hx hb dX8_tellOne_191 ic_4 ?_
      refine lv_iload_n hx hb dX8_tellOne_192 rfl (lv_at hl 1 rfl) ?_
      refine lv_imul hx hb dX8_tellOne_193 ?_
      refine lv_iload_n hx hb dX8_tellOne_194 rfl (lv_at hl 3 rfl) ?_
      refine lv_iadd hx hb dX8_tellOne_195 ?_
      refine lv_aload_n hx hb dX8_tellOne_196 rfl (lv_at hl 0 rfl) ?_
      refine gX8_171 C hd dX8_tellOne_197 ?_
      obtain ⟨n4, h⟩ := chk h
      obtain ⟨t5, et5, h⟩ := bnd_e h
      refine st_wM_9 C hd (inb_i n4) et5 dX8_tellOne_200 (fun H locs hd => ?_)
      refine lv_iload_n hx hb dX8_tellOne_201 rfl (lv_at hl 3 rfl) ?_
      refine lv_iload_n hx hb dX8_tellOne_202 rfl (lv_at hl 2 rfl) ?_
      obtain ⟨r6, er6, h⟩ := cal_e h
      refine rCallSI C hd (c_X8_termsOf hE er6) kX8_198 rfl hl.1 rfl (Nat.le_of_ble_eq_true rfl) ⟨(Nat.le_of_ble_eq_true rfl), (Nat.le_of_ble_eq_true rfl)⟩ ⟨Nat.le_refl _, Nat.le_refl _⟩ dX8_tellOne_203 (fun H locs hd => ?_)
      refine lv_icmp_ge (tgt := 220) hx hb dX8_tellOne_206 (by decide) (fun c7 => ?_) (fun c7 => ?_)
      · replace h := iteT c7 h
        exact w_X8_tellOne_220 C hr ih t5 x1 x2 x3 h _ _ _ hd (lv_sub hl [0, 1, 2, 3] rfl)
      · replace h := iteF c7 h
        refine lv_aload_n hx hb dX8_tellOne_209 rfl (lv_at hl 0 rfl) ?_
        refine gX8_135 C hd dX8_tellOne_210 ?_
        refine lv_if_ne (tgt := 220) hx hb dX8_tellOne_213 (by decide) (fun c8 => ?_) (fun c8 => ?_)
        · replace h := iteF c8 h
          exact w_X8_tellOne_220 C hr ih t5 x1 x2 x3 h _ _ _ hd (lv_sub hl [0, 1, 2, 3] rfl)
        · replace h := iteT c8 h
          refine lv_aload_n hx hb dX8_tellOne_216 rfl (lv_at hl 0 rfl) ?_
          obtain ⟨t9, et9, h⟩ := cal_e h
          refine rCallV C hd (c_X8_expression hE et9) kX8_201 0 rfl rfl rfl rfl hl.1 rfl (Nat.le_of_ble_eq_true rfl) ⟨(Nat.le_of_ble_eq_true rfl), (Nat.le_of_ble_eq_true rfl)⟩ ⟨Nat.le_refl _, Nat.le_refl _⟩ dX8_tellOne_217 (fun H locs hd => ?_)
          exact w_X8_tellOne_220 C hr ih t9 x1 x2 x3 h _ _ _ hd (lv_sub hl [0, 1, 2, 3] rfl)
noncomputable def f_X8_tellOne_70 (F : Nat) (σ : St) (x1 : Int32) (x2 : Int32) : Option St :=
  if (σ.1 6) ≤ 0 then (cal (f_X8_goesOn F σ) (fun t2 => if inb x1 210 = true then bnd (sr t2 8 x1.toNatClampNeg x2) (fun t4 => if x2 = 10 then (cal2 (f_X8_bounded F t4 0 99) (fun r16 t17 => if inb x1 210 = true then bnd (sr t17 10 x1.toNatClampNeg r16) (fun t19 => if inb (t19.1 12) 3 = true then bnd (sr t19 12 (t19.1 12).toNatClampNeg x1) (fun t21 => bnd (ss t21 12 ((t21.1 12) + 1)) (fun t22 => cal (f_X8_must F t22 4) (fun t23 => bnd (ss t23 11 ((t23.1 11) + 1)) (fun t24 => some t24)))) else none) else none)) else (if x2 = 11 then (bnd (ss t4 12 ((t4.1 12) - 1)) (fun t7 => if inb (t7.1 12) 3 = true then if inb x1 210 = true then bnd (sr t7 11 x1.toNatClampNeg (t7.2.1 12 (t7.1 12).toNatClampNeg)) (fun t10 => if inb (t10.1 12) 3 = true then if inb (t10.2.1 12 (t10.1 12).toNatClampNeg) 210 = true then bnd (sr t10 11 (t10.2.1 12 (t10.1 12).toNatClampNeg).toNatClampNeg x1) (fun t13 => cal (f_X8_must F t13 4) (fun t14 => bnd (ss t14 11 ((t14.1 11) + 1)) (fun t15 => some t15))) else none else none) else none else none)) else (f_X8_tellOne_182 F F t4 x1 x2 0))) else none)) else (some σ)
set_option maxRecDepth 100000 in
set_option maxHeartbeats 4000000 in
theorem w_X8_tellOne_70 {F : Nat} {σ' : St}  (C : Cx g p s m args meth c cX8_tellOne 4 RX8) (hr : meth.sig.returnType = none) :
    (∀ (σ : St) (x1 : Int32) (x2 : Int32), f_X8_tellOne_70 F σ x1 x2 = some σ' → ∀ (H : Heap) (locs : List Loc) (ls : Array Slot), Dy g (wM g σ ++ X) s H locs → lv_has ls 4 [(0, .ref (ga g 40)), (1, .int x1), (2, .int x2)] → W p l e (rmD 4) s m args below meth c H locs 0 0 (QV g below args s (wM g σ' ++ X)) (F0 m 70 ls [])) := by
  have hx := C.1
  have hb := C.2.1
  have hE := C.2.2.2.2.2.2.2.2
  intro σ x1 x2 h H locs ls hd hl
  rw [f_X8_tellOne_70] at h
  refine lv_aload_n hx hb dX8_tellOne_70 rfl (lv_at hl 0 rfl) ?_
  refine gX8_135 C hd dX8_tellOne_71 ?_
  refine lv_if_le (tgt := 78) hx hb dX8_tellOne_74 (by decide) (fun c1 => ?_) (fun c1 => ?_)
  · replace h := iteT c1 h
    refine lv_aload_n hx hb dX8_tellOne_78 rfl (lv_at hl 0 rfl) ?_
    obtain ⟨t2, et2, h⟩ := cal_e h
    refine rCallV C hd (c_X8_goesOn hE et2) kX8_156 0 rfl rfl rfl rfl hl.1 rfl (Nat.le_of_ble_eq_true rfl) ⟨(Nat.le_of_ble_eq_true rfl), (Nat.le_of_ble_eq_true rfl)⟩ ⟨Nat.le_refl _, Nat.le_refl _⟩ dX8_tellOne_79 (fun H locs hd => ?_)
    refine lv_aload_n hx hb dX8_tellOne_82 rfl (lv_at hl 0 rfl) ?_
    refine gX8_40 C hd dX8_tellOne_83 ?_
    refine lv_iload_n hx hb dX8_tellOne_86 rfl (lv_at hl 1 rfl) ?_
    refine lv_iload_n hx hb dX8_tellOne_87 rfl (lv_at hl 2 rfl) ?_
    obtain ⟨n3, h⟩ := chk h
    obtain ⟨t4, et4, h⟩ := bnd_e h
    refine st_wM_8 C hd (inb_i n3) et4 dX8_tellOne_88 (fun H locs hd => ?_)
    refine lv_iload_n hx hb dX8_tellOne_89 rfl (lv_at hl 2 rfl) ?_
    refine lv_bipush (v := 10) hx hb dX8_tellOne_90 bi_10 ?_
    refine lv_icmp_ne (tgt := 131) hx hb dX8_tellOne_92 (by decide) (fun c5 => ?_) (fun c5 => ?_)
    · replace h := iteF c5 h
      refine lv_iload_n hx hb dX8_tellOne_131 rfl (lv_at hl 2 rfl) ?_
      refine lv_bipush (v := 11) hx hb dX8_tellOne_132 bi_11 ?_
      refine lv_icmp_ne (tgt := 180) hx hb dX8_tellOne_134 (by decide) (fun c6 => ?_) (fun c6 => ?_)
      · replace h := iteF c6 h
        refine lv_iconst (v := 0) hx hb dX8_tellOne_180 ic_0 ?_
        refine lv_istore_n (lv' := [(3, .int 0), (0, .ref (ga g 40)), (1, .int x1), (2, .int x2)]) hx hb dX8_tellOne_181 rfl hl (Nat.le_of_ble_eq_true rfl) rfl (fun ls hl => ?_)
        exact w_X8_tellOne_182 C hr _ t4 x1 x2 0 h _ _ _ hd (lv_sub hl [1, 2, 3, 0] rfl)
      · replace h := iteT c6 h
        refine lv_aload_n hx hb dX8_tellOne_137 rfl (lv_at hl 0 rfl) ?_
        refine lv_dup hx hb dX8_tellOne_138 rfl ?_
        refine gX8_168 C hd dX8_tellOne_139 ?_
        refine lv_iconst (v := 1) hx hb dX8_tellOne_142 ic_1 ?_
        refine lv_isub hx hb dX8_tellOne_143 ?_
        obtain ⟨t7, et7, h⟩ := bnd_e h
        refine pX8_168 C hd et7 dX8_tellOne_144 (fun H locs hd => ?_)
        refine lv_aload_n hx hb dX8_tellOne_147 rfl (lv_at hl 0 rfl) ?_
        refine gX8_49 C hd dX8_tellOne_148 ?_
        refine lv_iload_n hx hb dX8_tellOne_151 rfl (lv_at hl 1 rfl) ?_
        refine lv_aload_n hx hb dX8_tellOne_152 rfl (lv_at hl 0 rfl) ?_
        refine gX8_52 C hd dX8_tellOne_153 ?_
        refine lv_aload_n hx hb dX8_tellOne_156 rfl (lv_at hl 0 rfl) ?_
        refine gX8_168 C hd dX8_tellOne_157 ?_
        obtain ⟨n8, h⟩ := chk h
        refine ld_wM_12 C hd (inb_i n8) dX8_tellOne_160 ?_
        obtain ⟨n9, h⟩ := chk h
        obtain ⟨t10, et10, h⟩ := bnd_e h
        refine st_wM_11 C hd (inb_i n9) et10 dX8_tellOne_161 (fun H locs hd => ?_)
        refine lv_aload_n hx hb dX8_tellOne_162 rfl (lv_at hl 0 rfl) ?_
        refine gX8_49 C hd dX8_tellOne_163 ?_
        refine lv_aload_n hx hb dX8_tellOne_166 rfl (lv_at hl 0 rfl) ?_
        refine gX8_52 C hd dX8_tellOne_167 ?_
        refine lv_aload_n hx hb dX8_tellOne_170 rfl (lv_at hl 0 rfl) ?_
        refine gX8_168 C hd dX8_tellOne_171 ?_
        obtain ⟨n11, h⟩ := chk h
        refine ld_wM_12 C hd (inb_i n11) dX8_tellOne_174 ?_
        refine lv_iload_n hx hb dX8_tellOne_175 rfl (lv_at hl 1 rfl) ?_
        obtain ⟨n12, h⟩ := chk h
        obtain ⟨t13, et13, h⟩ := bnd_e h
        refine st_wM_11 C hd (inb_i n12) et13 dX8_tellOne_176 (fun H locs hd => ?_)
        refine lv_goto (tgt := 226) hx hb dX8_tellOne_177 (by decide) ?_
        refine lv_aload_n hx hb dX8_tellOne_226 rfl (lv_at hl 0 rfl) ?_
        refine lv_iconst (v := 4) hx hb dX8_tellOne_227 ic_4 ?_
        obtain ⟨t14, et14, h⟩ := cal_e h
        refine rCallV C hd (c_X8_must hE et14) kX8_191 0 rfl rfl rfl rfl hl.1 rfl (Nat.le_of_ble_eq_true rfl) ⟨(Nat.le_of_ble_eq_true rfl), (Nat.le_of_ble_eq_true rfl)⟩ ⟨Nat.le_refl _, Nat.le_refl _⟩ dX8_tellOne_228 (fun H locs hd => ?_)
        refine lv_aload_n hx hb dX8_tellOne_231 rfl (lv_at hl 0 rfl) ?_
        refine lv_dup hx hb dX8_tellOne_232 rfl ?_
        refine gX8_165 C hd dX8_tellOne_233 ?_
        refine lv_iconst (v := 1) hx hb dX8_tellOne_236 ic_1 ?_
        refine lv_iadd hx hb dX8_tellOne_237 ?_
        obtain ⟨t15, et15, h⟩ := bnd_e h
        refine pX8_165 C hd et15 dX8_tellOne_238 (fun H locs hd => ?_)
        exact rVretS (w := wM g) C hr hd h dX8_tellOne_241
    · replace h := iteT c5 h
      refine lv_aload_n hx hb dX8_tellOne_95 rfl (lv_at hl 0 rfl) ?_
      refine gX8_46 C hd dX8_tellOne_96 ?_
      refine lv_iload_n hx hb dX8_tellOne_99 rfl (lv_at hl 1 rfl) ?_
      refine lv_aload_n hx hb dX8_tellOne_100 rfl (lv_at hl 0 rfl) ?_
      refine lv_iconst (v := 0) hx hb dX8_tellOne_101 ic_0 ?_
      refine lv_bipush (v := 99) hx hb dX8_tellOne_102 bi_99 ?_
      obtain ⟨r16, t17, et17, h⟩ := cal2_e h
      refine rCallI C hd (c_X8_bounded hE et17) kX8_187 0 rfl rfl rfl rfl hl.1 rfl (Nat.le_of_ble_eq_true rfl) ⟨(Nat.le_of_ble_eq_true rfl), (Nat.le_of_ble_eq_true rfl)⟩ ⟨Nat.le_refl _, Nat.le_refl _⟩ dX8_tellOne_104 (fun H locs hd => ?_)
      obtain ⟨n18, h⟩ := chk h
      obtain ⟨t19, et19, h⟩ := bnd_e h
      refine st_wM_10 C hd (inb_i n18) et19 dX8_tellOne_107 (fun H locs hd => ?_)
      refine lv_aload_n hx hb dX8_tellOne_108 rfl (lv_at hl 0 rfl) ?_
      refine gX8_52 C hd dX8_tellOne_109 ?_
      refine lv_aload_n hx hb dX8_tellOne_112 rfl (lv_at hl 0 rfl) ?_
      refine gX8_168 C hd dX8_tellOne_113 ?_
      refine lv_iload_n hx hb dX8_tellOne_116 rfl (lv_at hl 1 rfl) ?_
      obtain ⟨n20, h⟩ := chk h
      obtain ⟨t21, et21, h⟩ := bnd_e h
      refine st_wM_12 C hd (inb_i n20) et21 dX8_tellOne_117 (fun H locs hd => ?_)
      refine lv_aload_n hx hb dX8_tellOne_118 rfl (lv_at hl 0 rfl) ?_
      refine lv_dup hx hb dX8_tellOne_119 rfl ?_
      refine gX8_168 C hd dX8_tellOne_120 ?_
      refine lv_iconst (v := 1) hx hb dX8_tellOne_123 ic_1 ?_
      refine lv_iadd hx hb dX8_tellOne_124 ?_
      obtain ⟨t22, et22, h⟩ := bnd_e h
      refine pX8_168 C hd et22 dX8_tellOne_125 (fun H locs hd => ?_)
      refine lv_goto (tgt := 226) hx hb dX8_tellOne_128 (by decide) ?_
      refine lv_aload_n hx hb dX8_tellOne_226 rfl (lv_at hl 0 rfl) ?_
      refine lv_iconst (v := 4) hx hb dX8_tellOne_227 ic_4 ?_
      obtain ⟨t23, et23, h⟩ := cal_e h
      refine rCallV C hd (c_X8_must hE et23) kX8_191 0 rfl rfl rfl rfl hl.1 rfl (Nat.le_of_ble_eq_true rfl) ⟨(Nat.le_of_ble_eq_true rfl), (Nat.le_of_ble_eq_true rfl)⟩ ⟨Nat.le_refl _, Nat.le_refl _⟩ dX8_tellOne_228 (fun H locs hd => ?_)
      refine lv_aload_n hx hb dX8_tellOne_231 rfl (lv_at hl 0 rfl) ?_
      refine lv_dup hx hb dX8_tellOne_232 rfl ?_
      refine gX8_165 C hd dX8_tellOne_233 ?_
      refine lv_iconst (v := 1) hx hb dX8_tellOne_236 ic_1 ?_
      refine lv_iadd hx hb dX8_tellOne_237 ?_
      obtain ⟨t24, et24, h⟩ := bnd_e h
      refine pX8_165 C hd et24 dX8_tellOne_238 (fun H locs hd => ?_)
      exact rVretS (w := wM g) C hr hd h dX8_tellOne_241
  · replace h := iteF c1 h
    exact rVretS (w := wM g) C hr hd h dX8_tellOne_77
noncomputable def f_X8_tellOne_52 (F : Nat) (σ : St) (x1 : Int32) (x2 : Int32) : Option St :=
  if x2 = 11 then (if (σ.1 12) = 0 then (cal (f_X8_fail F σ 1) (fun t3 => f_X8_tellOne_70 F t3 x1 x2)) else (f_X8_tellOne_70 F σ x1 x2)) else (f_X8_tellOne_70 F σ x1 x2)
set_option maxRecDepth 100000 in
set_option maxHeartbeats 4000000 in
theorem w_X8_tellOne_52 {F : Nat} {σ' : St}  (C : Cx g p s m args meth c cX8_tellOne 4 RX8) (hr : meth.sig.returnType = none) :
    (∀ (σ : St) (x1 : Int32) (x2 : Int32), f_X8_tellOne_52 F σ x1 x2 = some σ' → ∀ (H : Heap) (locs : List Loc) (ls : Array Slot), Dy g (wM g σ ++ X) s H locs → lv_has ls 4 [(0, .ref (ga g 40)), (1, .int x1), (2, .int x2)] → W p l e (rmD 4) s m args below meth c H locs 0 0 (QV g below args s (wM g σ' ++ X)) (F0 m 52 ls [])) := by
  have hx := C.1
  have hb := C.2.1
  have hE := C.2.2.2.2.2.2.2.2
  intro σ x1 x2 h H locs ls hd hl
  rw [f_X8_tellOne_52] at h
  refine lv_iload_n hx hb dX8_tellOne_52 rfl (lv_at hl 2 rfl) ?_
  refine lv_bipush (v := 11) hx hb dX8_tellOne_53 bi_11 ?_
  refine lv_icmp_ne (tgt := 70) hx hb dX8_tellOne_55 (by decide) (fun c1 => ?_) (fun c1 => ?_)
  · replace h := iteF c1 h
    exact w_X8_tellOne_70 C hr σ x1 x2 h _ _ _ hd (lv_sub hl [0, 1, 2] rfl)
  · replace h := iteT c1 h
    refine lv_aload_n hx hb dX8_tellOne_58 rfl (lv_at hl 0 rfl) ?_
    refine gX8_168 C hd dX8_tellOne_59 ?_
    refine lv_if_ne (tgt := 70) hx hb dX8_tellOne_62 (by decide) (fun c2 => ?_) (fun c2 => ?_)
    · replace h := iteF c2 h
      exact w_X8_tellOne_70 C hr σ x1 x2 h _ _ _ hd (lv_sub hl [0, 1, 2] rfl)
    · replace h := iteT c2 h
      refine lv_aload_n hx hb dX8_tellOne_65 rfl (lv_at hl 0 rfl) ?_
      refine lv_iconst (v := 1) hx hb dX8_tellOne_66 ic_1 ?_
      obtain ⟨t3, et3, h⟩ := cal_e h
      refine rCallV C hd (c_X8_fail hE et3) kX8_150 0 rfl rfl rfl rfl hl.1 rfl (Nat.le_of_ble_eq_true rfl) ⟨(Nat.le_of_ble_eq_true rfl), (Nat.le_of_ble_eq_true rfl)⟩ ⟨Nat.le_refl _, Nat.le_refl _⟩ dX8_tellOne_67 (fun H locs hd => ?_)
      exact w_X8_tellOne_70 C hr t3 x1 x2 h _ _ _ hd (lv_sub hl [0, 1, 2] rfl)
noncomputable def f_X8_tellOne_33 (F : Nat) (σ : St) (x1 : Int32) (x2 : Int32) : Option St :=
  if x2 = 10 then (if (σ.1 12) = 3 then (cal (f_X8_fail F σ 2) (fun t3 => f_X8_tellOne_52 F t3 x1 x2)) else (f_X8_tellOne_52 F σ x1 x2)) else (f_X8_tellOne_52 F σ x1 x2)
set_option maxRecDepth 100000 in
set_option maxHeartbeats 4000000 in
theorem w_X8_tellOne_33 {F : Nat} {σ' : St}  (C : Cx g p s m args meth c cX8_tellOne 4 RX8) (hr : meth.sig.returnType = none) :
    (∀ (σ : St) (x1 : Int32) (x2 : Int32), f_X8_tellOne_33 F σ x1 x2 = some σ' → ∀ (H : Heap) (locs : List Loc) (ls : Array Slot), Dy g (wM g σ ++ X) s H locs → lv_has ls 4 [(0, .ref (ga g 40)), (1, .int x1), (2, .int x2)] → W p l e (rmD 4) s m args below meth c H locs 0 0 (QV g below args s (wM g σ' ++ X)) (F0 m 33 ls [])) := by
  have hx := C.1
  have hb := C.2.1
  have hE := C.2.2.2.2.2.2.2.2
  intro σ x1 x2 h H locs ls hd hl
  rw [f_X8_tellOne_33] at h
  refine lv_iload_n hx hb dX8_tellOne_33 rfl (lv_at hl 2 rfl) ?_
  refine lv_bipush (v := 10) hx hb dX8_tellOne_34 bi_10 ?_
  refine lv_icmp_ne (tgt := 52) hx hb dX8_tellOne_36 (by decide) (fun c1 => ?_) (fun c1 => ?_)
  · replace h := iteF c1 h
    exact w_X8_tellOne_52 C hr σ x1 x2 h _ _ _ hd (lv_sub hl [0, 1, 2] rfl)
  · replace h := iteT c1 h
    refine lv_aload_n hx hb dX8_tellOne_39 rfl (lv_at hl 0 rfl) ?_
    refine gX8_168 C hd dX8_tellOne_40 ?_
    refine lv_iconst (v := 3) hx hb dX8_tellOne_43 ic_3 ?_
    refine lv_icmp_ne (tgt := 52) hx hb dX8_tellOne_44 (by decide) (fun c2 => ?_) (fun c2 => ?_)
    · replace h := iteF c2 h
      exact w_X8_tellOne_52 C hr σ x1 x2 h _ _ _ hd (lv_sub hl [0, 1, 2] rfl)
    · replace h := iteT c2 h
      refine lv_aload_n hx hb dX8_tellOne_47 rfl (lv_at hl 0 rfl) ?_
      refine lv_iconst (v := 2) hx hb dX8_tellOne_48 ic_2 ?_
      obtain ⟨t3, et3, h⟩ := cal_e h
      refine rCallV C hd (c_X8_fail hE et3) kX8_150 0 rfl rfl rfl rfl hl.1 rfl (Nat.le_of_ble_eq_true rfl) ⟨(Nat.le_of_ble_eq_true rfl), (Nat.le_of_ble_eq_true rfl)⟩ ⟨Nat.le_refl _, Nat.le_refl _⟩ dX8_tellOne_49 (fun H locs hd => ?_)
      exact w_X8_tellOne_52 C hr t3 x1 x2 h _ _ _ hd (lv_sub hl [0, 1, 2] rfl)
noncomputable def f_X8_tellOne (F : Nat) (σ : St) : Option St :=
  bnd (σ.1 11) (fun v1 => if inb (σ.1 4) 403 = true then bnd ((σ.2.1 3 (σ.1 4).toNatClampNeg) - 22) (fun v3 => cal (f_X8_in F σ v3 0 11) (fun r4 => if r4 = 0 then (cal (f_X8_fail F σ 1) (fun t6 => f_X8_tellOne_33 F t6 v1 v3)) else (f_X8_tellOne_33 F σ v1 v3))) else none)
set_option maxRecDepth 100000 in
set_option maxHeartbeats 4000000 in
theorem c_X8_tellOne {l : Launch} {g : Gp} {X : va_W} (hE : E0 g) {F : Nat} {σ' : St} {σ : St} (h : f_X8_tellOne F σ = some σ') : Cv l g yX8_tellOne cX8_tellOne 4 4 [.ref (ga g 40)] (wM g σ ++ X) (wM g σ' ++ X) := by
  refine rHead hE (by decide +kernel) (Nat.le_of_ble_eq_true rfl) (fun p e s m below meth c C hr _ hd ls hl => ?_)
  have hx := C.1
  have hb := C.2.1
  have hl : lv_has ls 4 [(0, .ref (ga g 40))] := hl
  generalize ([.ref (ga g 40)] : List Value).toArray = args at C ⊢
  have C : Cx g p s m args meth c cX8_tellOne 4 RX8 := C
  rw [f_X8_tellOne] at h
  refine lv_aload_n hx hb dX8_tellOne_0 rfl (lv_at hl 0 rfl) ?_
  refine gX8_165 C hd dX8_tellOne_1 ?_
  obtain ⟨v1, ev1, h⟩ := bnd_e h
  refine rTop ev1 ?_
  refine lv_istore_n (lv' := [(1, .int v1), (0, .ref (ga g 40))]) hx hb dX8_tellOne_4 rfl hl (Nat.le_of_ble_eq_true rfl) rfl (fun ls hl => ?_)
  refine lv_aload_n hx hb dX8_tellOne_5 rfl (lv_at hl 1 rfl) ?_
  refine gX8_20 C hd dX8_tellOne_6 ?_
  refine lv_aload_n hx hb dX8_tellOne_9 rfl (lv_at hl 1 rfl) ?_
  refine gX8_138 C hd dX8_tellOne_10 ?_
  obtain ⟨n2, h⟩ := chk h
  refine ld_wM_3 C hd (inb_i n2) dX8_tellOne_13 ?_
  refine lv_bipush (v := 22) hx hb dX8_tellOne_14 bi_22 ?_
  refine lv_isub hx hb dX8_tellOne_16 ?_
  obtain ⟨v3, ev3, h⟩ := bnd_e h
  refine rTop ev3 ?_
  refine lv_istore_n (lv' := [(2, .int v3), (1, .int v1), (0, .ref (ga g 40))]) hx hb dX8_tellOne_17 rfl hl (Nat.le_of_ble_eq_true rfl) rfl (fun ls hl => ?_)
  refine lv_iload_n hx hb dX8_tellOne_18 rfl (lv_at hl 0 rfl) ?_
  refine lv_iconst (v := 0) hx hb dX8_tellOne_19 ic_0 ?_
  refine lv_bipush (v := 11) hx hb dX8_tellOne_20 bi_11 ?_
  obtain ⟨r4, er4, h⟩ := cal_e h
  refine rCallSI C hd (c_X8_in hE er4) kX8_194 rfl hl.1 rfl (Nat.le_of_ble_eq_true rfl) ⟨(Nat.le_of_ble_eq_true rfl), (Nat.le_of_ble_eq_true rfl)⟩ ⟨Nat.le_refl _, Nat.le_refl _⟩ dX8_tellOne_22 (fun H locs hd => ?_)
  refine lv_if_ne (tgt := 33) hx hb dX8_tellOne_25 (by decide) (fun c5 => ?_) (fun c5 => ?_)
  · replace h := iteF c5 h
    exact w_X8_tellOne_33 C hr σ v1 v3 h _ _ _ hd (lv_sub hl [2, 1, 0] rfl)
  · replace h := iteT c5 h
    refine lv_aload_n hx hb dX8_tellOne_28 rfl (lv_at hl 2 rfl) ?_
    refine lv_iconst (v := 1) hx hb dX8_tellOne_29 ic_1 ?_
    obtain ⟨t6, et6, h⟩ := cal_e h
    refine rCallV C hd (c_X8_fail hE et6) kX8_150 0 rfl rfl rfl rfl hl.1 rfl (Nat.le_of_ble_eq_true rfl) ⟨(Nat.le_of_ble_eq_true rfl), (Nat.le_of_ble_eq_true rfl)⟩ ⟨Nat.le_refl _, Nat.le_refl _⟩ dX8_tellOne_30 (fun H locs hd => ?_)
    exact w_X8_tellOne_33 C hr t6 v1 v3 h _ _ _ hd (lv_sub hl [2, 1, 0] rfl)
noncomputable def f_X8_termOf_172 (F : Nat) (k_5 : St → Int32 → Int32 → Int32 → Option (Int32 × St)) (σ : St) (x2 : Int32) (x3 : Int32) (x4 : Int32) : Option (Int32 × St) :=
  bnd (x4 + 1) (fun v1 => k_5 σ x2 x3 v1)
set_option maxRecDepth 100000 in
set_option maxHeartbeats 4000000 in
theorem w_X8_termOf_172 {F : Nat} {r' : Int32} {σ' : St}  (C : Cx g p s m args meth c cX8_termOf 8 RX8) (hr : meth.sig.returnType = some .int)
    {k_5 : St → Int32 → Int32 → Int32 → Option (Int32 × St)} (hk_5 : (∀ (σ : St) (x2 : Int32) (x3 : Int32) (x4 : Int32), k_5 σ x2 x3 x4 = some (r', σ') → ∀ (H : Heap) (locs : List Loc) (ls : Array Slot), Dy g (wM g σ ++ X) s H locs → lv_has ls 8 [(0, .ref (ga g 40)), (2, .int x2), (3, .int x3), (4, .int x4)] → W p l e (rmD 0) s m args below meth c H locs 0 0 (QI g below args s (wM g σ' ++ X) r') (F0 m 5 ls []))) :
    (∀ (σ : St) (x2 : Int32) (x3 : Int32) (x4 : Int32), f_X8_termOf_172 F k_5 σ x2 x3 x4 = some (r', σ') → ∀ (H : Heap) (locs : List Loc) (ls : Array Slot), Dy g (wM g σ ++ X) s H locs → lv_has ls 8 [(0, .ref (ga g 40)), (2, .int x2), (3, .int x3), (4, .int x4)] → W p l e (rmD 0) s m args below meth c H locs 0 0 (QI g below args s (wM g σ' ++ X) r') (F0 m 172 ls [])) := by
  have hx := C.1
  have hb := C.2.1
  have hE := C.2.2.2.2.2.2.2.2
  intro σ x2 x3 x4 h H locs ls hd hl
  rw [f_X8_termOf_172] at h
  obtain ⟨v1, ev1, h⟩ := bnd_e h
  refine lv_iinc (v := v1) (lv' := [(4, .int v1), (0, .ref (ga g 40)), (2, .int x2), (3, .int x3)]) hx hb dX8_termOf_172 hl (k := 3) rfl ((ii_1 _).trans ev1.symm) (Nat.le_of_ble_eq_true rfl) rfl (fun ls hl => ?_)
  refine lv_goto (tgt := 5) hx hb dX8_termOf_175 (by decide) ?_
  exact hk_5 σ x2 x3 v1 h _ _ _ hd (lv_sub hl [1, 2, 3, 0] rfl)
noncomputable def f_X8_termOf_171 (F : Nat) (k_5 : St → Int32 → Int32 → Int32 → Option (Int32 × St)) (σ : St) (x2 : Int32) (x3 : Int32) (x4 : Int32) (y0 : Int32) (y1 : Int32) : Option (Int32 × St) :=
  if inb y1 400 = true then bnd (sr σ 17 y1.toNatClampNeg y0) (fun t2 => f_X8_termOf_172 F k_5 t2 x2 x3 x4) else none
set_option maxRecDepth 100000 in
set_option maxHeartbeats 4000000 in
theorem w_X8_termOf_171 {F : Nat} {r' : Int32} {σ' : St}  (C : Cx g p s m args meth c cX8_termOf 8 RX8) (hr : meth.sig.returnType = some .int)
    {k_5 : St → Int32 → Int32 → Int32 → Option (Int32 × St)} (hk_5 : (∀ (σ : St) (x2 : Int32) (x3 : Int32) (x4 : Int32), k_5 σ x2 x3 x4 = some (r', σ') → ∀ (H : Heap) (locs : List Loc) (ls : Array Slot), Dy g (wM g σ ++ X) s H locs → lv_has ls 8 [(0, .ref (ga g 40)), (2, .int x2), (3, .int x3), (4, .int x4)] → W p l e (rmD 0) s m args below meth c H locs 0 0 (QI g below args s (wM g σ' ++ X) r') (F0 m 5 ls []))) :
    (∀ (σ : St) (x2 : Int32) (x3 : Int32) (x4 : Int32) (y0 : Int32) (y1 : Int32), f_X8_termOf_171 F k_5 σ x2 x3 x4 y0 y1 = some (r', σ') → ∀ (H : Heap) (locs : List Loc) (ls : Array Slot), Dy g (wM g σ ++ X) s H locs → lv_has ls 8 [(0, .ref (ga g 40)), (2, .int x2), (3, .int x3), (4, .int x4)] → W p l e (rmD 0) s m args below meth c H locs 0 0 (QI g below args s (wM g σ' ++ X) r') (F0 m 171 ls [.int y0, .int y1, .ref (ga g 57)])) := by
  have hx := C.1
  have hb := C.2.1
  have hE := C.2.2.2.2.2.2.2.2
  intro σ x2 x3 x4 y0 y1 h H locs ls hd hl
  rw [f_X8_termOf_171] at h
  obtain ⟨n1, h⟩ := chk h
  obtain ⟨t2, et2, h⟩ := bnd_e h
  refine st_wM_17 C hd (inb_i n1) et2 dX8_termOf_171 (fun H locs hd => ?_)
  exact w_X8_termOf_172 C hr hk_5 t2 x2 x3 x4 h _ _ _ hd (lv_sub hl [0, 1, 2, 3] rfl)
noncomputable def f_X8_termOf_127 (F : Nat) (k_5 : St → Int32 → Int32 → Int32 → Option (Int32 × St)) (σ : St) (x2 : Int32) (x3 : Int32) (x4 : Int32) (y0 : Int32) (y1 : Int32) : Option (Int32 × St) :=
  if inb y1 400 = true then bnd (sr σ 17 y1.toNatClampNeg y0) (fun t2 => f_X8_termOf_172 F k_5 t2 x2 x3 x4) else none
set_option maxRecDepth 100000 in
set_option maxHeartbeats 4000000 in
theorem w_X8_termOf_127 {F : Nat} {r' : Int32} {σ' : St}  (C : Cx g p s m args meth c cX8_termOf 8 RX8) (hr : meth.sig.returnType = some .int)
    {k_5 : St → Int32 → Int32 → Int32 → Option (Int32 × St)} (hk_5 : (∀ (σ : St) (x2 : Int32) (x3 : Int32) (x4 : Int32), k_5 σ x2 x3 x4 = some (r', σ') → ∀ (H : Heap) (locs : List Loc) (ls : Array Slot), Dy g (wM g σ ++ X) s H locs → lv_has ls 8 [(0, .ref (ga g 40)), (2, .int x2), (3, .int x3), (4, .int x4)] → W p l e (rmD 0) s m args below meth c H locs 0 0 (QI g below args s (wM g σ' ++ X) r') (F0 m 5 ls []))) :
    (∀ (σ : St) (x2 : Int32) (x3 : Int32) (x4 : Int32) (y0 : Int32) (y1 : Int32), f_X8_termOf_127 F k_5 σ x2 x3 x4 y0 y1 = some (r', σ') → ∀ (H : Heap) (locs : List Loc) (ls : Array Slot), Dy g (wM g σ ++ X) s H locs → lv_has ls 8 [(0, .ref (ga g 40)), (2, .int x2), (3, .int x3), (4, .int x4)] → W p l e (rmD 0) s m args below meth c H locs 0 0 (QI g below args s (wM g σ' ++ X) r') (F0 m 127 ls [.int y0, .int y1, .ref (ga g 57)])) := by
  have hx := C.1
  have hb := C.2.1
  have hE := C.2.2.2.2.2.2.2.2
  intro σ x2 x3 x4 y0 y1 h H locs ls hd hl
  rw [f_X8_termOf_127] at h
  obtain ⟨n1, h⟩ := chk h
  obtain ⟨t2, et2, h⟩ := bnd_e h
  refine st_wM_17 C hd (inb_i n1) et2 dX8_termOf_127 (fun H locs hd => ?_)
  refine lv_goto (tgt := 172) hx hb dX8_termOf_128 (by decide) ?_
  exact w_X8_termOf_172 C hr hk_5 t2 x2 x3 x4 h _ _ _ hd (lv_sub hl [0, 1, 2, 3] rfl)
noncomputable def f_X8_termOf_58 (F : Nat) (k_5 : St → Int32 → Int32 → Int32 → Option (Int32 × St)) (σ : St) (x2 : Int32) (x3 : Int32) (x4 : Int32) (y0 : Int32) (y1 : Int32) : Option (Int32 × St) :=
  if inb y1 400 = true then bnd (sr σ 17 y1.toNatClampNeg y0) (fun t2 => bnd (x3 + 1) (fun v3 => f_X8_termOf_172 F k_5 t2 x2 v3 x4)) else none
set_option maxRecDepth 100000 in
set_option maxHeartbeats 4000000 in
theorem w_X8_termOf_58 {F : Nat} {r' : Int32} {σ' : St}  (C : Cx g p s m args meth c cX8_termOf 8 RX8) (hr : meth.sig.returnType = some .int)
    {k_5 : St → Int32 → Int32 → Int32 → Option (Int32 × St)} (hk_5 : (∀ (σ : St) (x2 : Int32) (x3 : Int32) (x4 : Int32), k_5 σ x2 x3 x4 = some (r', σ') → ∀ (H : Heap) (locs : List Loc) (ls : Array Slot), Dy g (wM g σ ++ X) s H locs → lv_has ls 8 [(0, .ref (ga g 40)), (2, .int x2), (3, .int x3), (4, .int x4)] → W p l e (rmD 0) s m args below meth c H locs 0 0 (QI g below args s (wM g σ' ++ X) r') (F0 m 5 ls []))) :
    (∀ (σ : St) (x2 : Int32) (x3 : Int32) (x4 : Int32) (y0 : Int32) (y1 : Int32), f_X8_termOf_58 F k_5 σ x2 x3 x4 y0 y1 = some (r', σ') → ∀ (H : Heap) (locs : List Loc) (ls : Array Slot), Dy g (wM g σ ++ X) s H locs → lv_has ls 8 [(0, .ref (ga g 40)), (2, .int x2), (3, .int x3), (4, .int x4)] → W p l e (rmD 0) s m args below meth c H locs 0 0 (QI g below args s (wM g σ' ++ X) r') (F0 m 58 ls [.int y0, .int y1, .ref (ga g 57)])) := by
  have hx := C.1
  have hb := C.2.1
  have hE := C.2.2.2.2.2.2.2.2
  intro σ x2 x3 x4 y0 y1 h H locs ls hd hl
  rw [f_X8_termOf_58] at h
  obtain ⟨n1, h⟩ := chk h
  obtain ⟨t2, et2, h⟩ := bnd_e h
  refine st_wM_17 C hd (inb_i n1) et2 dX8_termOf_58 (fun H locs hd => ?_)
  obtain ⟨v3, ev3, h⟩ := bnd_e h
  refine lv_iinc (v := v3) (lv' := [(3, .int v3), (0, .ref (ga g 40)), (2, .int x2), (4, .int x4)]) hx hb dX8_termOf_59 hl (k := 2) rfl ((ii_1 _).trans ev3.symm) (Nat.le_of_ble_eq_true rfl) rfl (fun ls hl => ?_)
  refine lv_goto (tgt := 172) hx hb dX8_termOf_62 (by decide) ?_
  exact w_X8_termOf_172 C hr hk_5 t2 x2 v3 x4 h _ _ _ hd (lv_sub hl [1, 2, 0, 3] rfl)
noncomputable def f_X8_termOf_5 (F : Nat) : Nat → St → Int32 → Int32 → Int32 → Option (Int32 × St)
  | 0, _, _, _, _ => none
  | n + 1, σ, x2, x3, x4 => if x2 ≤ x4 then (some ((σ.2.1 17 0), σ)) else (if inb x4 420 = true then bnd (σ.2.1 13 x4.toNatClampNeg) (fun v3 => if 2 ≤ v3 then (bnd (x3 + (-1 : Int32)) (fun v5 => if inb (v5 - 1) 400 = true then bnd (σ.2.1 17 (v5 - 1).toNatClampNeg) (fun v7 => if inb v5 400 = true then bnd (σ.2.1 17 v5.toNatClampNeg) (fun v9 => if v3 ≤ 4 then (if v3 = 2 then (f_X8_termOf_171 F (f_X8_termOf_5 F n) σ x2 v5 x4 (v7 + v9) (v5 - 1)) else (if v3 = 3 then (f_X8_termOf_171 F (f_X8_termOf_5 F n) σ x2 v5 x4 (v7 - v9) (v5 - 1)) else (f_X8_termOf_171 F (f_X8_termOf_5 F n) σ x2 v5 x4 (v7 * v9) (v5 - 1)))) else (if v9 = 0 then (f_X8_termOf_127 F (f_X8_termOf_5 F n) σ x2 v5 x4 0 (v5 - 1)) else (if v3 = 5 then (if ¬ v9 = 0 then f_X8_termOf_127 F (f_X8_termOf_5 F n) σ x2 v5 x4 (v7 / v9) (v5 - 1) else none) else (if ¬ v9 = 0 then f_X8_termOf_127 F (f_X8_termOf_5 F n) σ x2 v5 x4 (v7 - v7 / v9 * v9) (v5 - 1) else none)))) else none) else none)) else (if v3 = 0 then (if inb x4 420 = true then f_X8_termOf_58 F (f_X8_termOf_5 F n) σ x2 x3 x4 (σ.2.1 14 x4.toNatClampNeg) x3 else none) else (if inb x4 420 = true then if inb (σ.2.1 14 x4.toNatClampNeg) 6 = true then f_X8_termOf_58 F (f_X8_termOf_5 F n) σ x2 x3 x4 (σ.2.1 16 (σ.2.1 14 x4.toNatClampNeg).toNatClampNeg) x3 else none else none))) else none)
set_option maxRecDepth 100000 in
set_option maxHeartbeats 4000000 in
theorem w_X8_termOf_5 {F : Nat} {r' : Int32} {σ' : St}  (C : Cx g p s m args meth c cX8_termOf 8 RX8) (hr : meth.sig.returnType = some .int) :
    (∀ (n : Nat) (σ : St) (x2 : Int32) (x3 : Int32) (x4 : Int32), f_X8_termOf_5 F n σ x2 x3 x4 = some (r', σ') → ∀ (H : Heap) (locs : List Loc) (ls : Array Slot), Dy g (wM g σ ++ X) s H locs → lv_has ls 8 [(0, .ref (ga g 40)), (2, .int x2), (3, .int x3), (4, .int x4)] → W p l e (rmD 0) s m args below meth c H locs 0 0 (QI g below args s (wM g σ' ++ X) r') (F0 m 5 ls [])) := by
  have hx := C.1
  have hb := C.2.1
  have hE := C.2.2.2.2.2.2.2.2
  intro n
  induction n with
  | zero =>
    intro σ x2 x3 x4 h
    cases h
  | succ n ih =>
    intro σ x2 x3 x4 h H locs ls hd hl
    rw [f_X8_termOf_5] at h
    refine lv_iload hx hb dX8_termOf_5 (lv_at hl 3 rfl) ?_
    refine lv_iload_n hx hb dX8_termOf_7 rfl (lv_at hl 1 rfl) ?_
    refine lv_icmp_ge (tgt := 178) hx hb dX8_termOf_8 (by decide) (fun c1 => ?_) (fun c1 => ?_)
    · replace h := iteT c1 h
      refine lv_aload_n hx hb dX8_termOf_178 rfl (lv_at hl 0 rfl) ?_
      refine gX8_67 C hd dX8_termOf_179 ?_
      refine lv_iconst (v := 0) hx hb dX8_termOf_182 ic_0 ?_
      refine ldc_wM_17 C hd cl_0 (inb_i (by decide +kernel)) dX8_termOf_183 ?_
      exact rIretS (w := wM g) C hr hd h dX8_termOf_184
    · replace h := iteF c1 h
      refine lv_aload_n hx hb dX8_termOf_11 rfl (lv_at hl 0 rfl) ?_
      refine gX8_55 C hd dX8_termOf_12 ?_
      refine lv_iload hx hb dX8_termOf_15 (lv_at hl 3 rfl) ?_
      obtain ⟨n2, h⟩ := chk h
      refine ld_wM_13 C hd (inb_i n2) dX8_termOf_17 ?_
      obtain ⟨v3, ev3, h⟩ := bnd_e h
      refine rTop ev3 ?_
      refine lv_istore (lv' := [(5, .int v3), (0, .ref (ga g 40)), (2, .int x2), (3, .int x3), (4, .int x4)]) hx hb dX8_termOf_18 hl (Nat.le_of_ble_eq_true rfl) rfl (fun ls hl => ?_)
      refine lv_iload hx hb dX8_termOf_20 (lv_at hl 0 rfl) ?_
      refine lv_iconst (v := 2) hx hb dX8_termOf_22 ic_2 ?_
      refine lv_icmp_ge (tgt := 65) hx hb dX8_termOf_23 (by decide) (fun c4 => ?_) (fun c4 => ?_)
      · replace h := iteT c4 h
        obtain ⟨v5, ev5, h⟩ := bnd_e h
        refine lv_iinc (v := v5) (lv' := [(3, .int v5), (5, .int v3), (0, .ref (ga g 40)), (2, .int x2), (4, .int x4)]) hx hb dX8_termOf_65 hl (k := 3) rfl ((ii_m1 _).trans ev5.symm) (Nat.le_of_ble_eq_true rfl) rfl (fun ls hl => ?_)
        refine lv_aload_n hx hb dX8_termOf_68 rfl (lv_at hl 2 rfl) ?_
        refine gX8_67 C hd dX8_termOf_69 ?_
        refine lv_iload_n hx hb dX8_termOf_72 rfl (lv_at hl 0 rfl) ?_
        refine lv_iconst (v := 1) hx hb dX8_termOf_73 ic_1 ?_
        refine lv_isub hx hb dX8_termOf_74 ?_
        obtain ⟨n6, h⟩ := chk h
        refine ld_wM_17 C hd (inb_i n6) dX8_termOf_75 ?_
        obtain ⟨v7, ev7, h⟩ := bnd_e h
        refine rTop ev7 ?_
        refine lv_istore (lv' := [(6, .int v7), (3, .int v5), (5, .int v3), (0, .ref (ga g 40)), (2, .int x2), (4, .int x4)]) hx hb dX8_termOf_76 hl (Nat.le_of_ble_eq_true rfl) rfl (fun ls hl => ?_)
        refine lv_aload_n hx hb dX8_termOf_78 rfl (lv_at hl 3 rfl) ?_
        refine gX8_67 C hd dX8_termOf_79 ?_
        refine lv_iload_n hx hb dX8_termOf_82 rfl (lv_at hl 1 rfl) ?_
        obtain ⟨n8, h⟩ := chk h
        refine ld_wM_17 C hd (inb_i n8) dX8_termOf_83 ?_
        obtain ⟨v9, ev9, h⟩ := bnd_e h
        refine rTop ev9 ?_
        refine lv_istore (lv' := [(7, .int v9), (6, .int v7), (3, .int v5), (5, .int v3), (0, .ref (ga g 40)), (2, .int x2), (4, .int x4)]) hx hb dX8_termOf_84 hl (Nat.le_of_ble_eq_true rfl) rfl (fun ls hl => ?_)
        refine lv_iload hx hb dX8_termOf_86 (lv_at hl 3 rfl) ?_
        refine lv_iconst (v := 4) hx hb dX8_termOf_88 ic_4 ?_
        refine lv_icmp_le (tgt := 131) hx hb dX8_termOf_89 (by decide) (fun c10 => ?_) (fun c10 => ?_)
        · replace h := iteT c10 h
          refine lv_aload_n hx hb dX8_termOf_131 rfl (lv_at hl 4 rfl) ?_
          refine gX8_67 C hd dX8_termOf_132 ?_
          refine lv_iload_n hx hb dX8_termOf_135 rfl (lv_at hl 2 rfl) ?_
          refine lv_iconst (v := 1) hx hb dX8_termOf_136 ic_1 ?_
          refine lv_isub hx hb dX8_termOf_137 ?_
          refine lv_iload hx hb dX8_termOf_138 (lv_at hl 3 rfl) ?_
          refine lv_iconst (v := 2) hx hb dX8_termOf_140 ic_2 ?_
          refine lv_icmp_ne (tgt := 152) hx hb dX8_termOf_141 (by decide) (fun c11 => ?_) (fun c11 => ?_)
          · replace h := iteF c11 h
            refine lv_iload hx hb dX8_termOf_152 (lv_at hl 3 rfl) ?_
            refine lv_iconst (v := 3) hx hb dX8_termOf_154 ic_3 ?_
            refine lv_icmp_ne (tgt := 166) hx hb dX8_termOf_155 (by decide) (fun c12 => ?_) (fun c12 => ?_)
            · replace h := iteF c12 h
              refine lv_iload hx hb dX8_termOf_166 (lv_at hl 1 rfl) ?_
              refine lv_iload hx hb dX8_termOf_168 (lv_at hl 0 rfl) ?_
              refine lv_imul hx hb dX8_termOf_170 ?_
              exact w_X8_termOf_171 C hr ih σ x2 v5 x4 (v7 * v9) (v5 - 1) h _ _ _ hd (lv_sub hl [4, 5, 2, 6] rfl)
            · replace h := iteT c12 h
              refine lv_iload hx hb dX8_termOf_158 (lv_at hl 1 rfl) ?_
              refine lv_iload hx hb dX8_termOf_160 (lv_at hl 0 rfl) ?_
              refine lv_isub hx hb dX8_termOf_162 ?_
              refine lv_goto (tgt := 171) hx hb dX8_termOf_163 (by decide) ?_
              exact w_X8_termOf_171 C hr ih σ x2 v5 x4 (v7 - v9) (v5 - 1) h _ _ _ hd (lv_sub hl [4, 5, 2, 6] rfl)
          · replace h := iteT c11 h
            refine lv_iload hx hb dX8_termOf_144 (lv_at hl 1 rfl) ?_
            refine lv_iload hx hb dX8_termOf_146 (lv_at hl 0 rfl) ?_
            refine lv_iadd hx hb dX8_termOf_148 ?_
            refine lv_goto (tgt := 171) hx hb dX8_termOf_149 (by decide) ?_
            exact w_X8_termOf_171 C hr ih σ x2 v5 x4 (v7 + v9) (v5 - 1) h _ _ _ hd (lv_sub hl [4, 5, 2, 6] rfl)
        · replace h := iteF c10 h
          refine lv_aload_n hx hb dX8_termOf_92 rfl (lv_at hl 4 rfl) ?_
          refine gX8_67 C hd dX8_termOf_93 ?_
          refine lv_iload_n hx hb dX8_termOf_96 rfl (lv_at hl 2 rfl) ?_
          refine lv_iconst (v := 1) hx hb dX8_termOf_97 ic_1 ?_
          refine lv_isub hx hb dX8_termOf_98 ?_
          refine lv_iload hx hb dX8_termOf_99 (lv_at hl 0 rfl) ?_
          refine lv_if_ne (tgt := 108) hx hb dX8_termOf_101 (by decide) (fun c13 => ?_) (fun c13 => ?_)
          · replace h := iteF c13 h
            refine lv_iload hx hb dX8_termOf_108 (lv_at hl 3 rfl) ?_
            refine lv_iconst (v := 5) hx hb dX8_termOf_110 ic_5 ?_
            refine lv_icmp_ne (tgt := 122) hx hb dX8_termOf_111 (by decide) (fun c14 => ?_) (fun c14 => ?_)
            · replace h := iteF c14 h
              refine lv_iload hx hb dX8_termOf_122 (lv_at hl 1 rfl) ?_
              refine lv_iload hx hb dX8_termOf_124 (lv_at hl 0 rfl) ?_
              obtain ⟨n15, h⟩ := chk h
              refine lv_irem hx hb dX8_termOf_126 n15 ?_
              exact w_X8_termOf_127 C hr ih σ x2 v5 x4 (v7 - v7 / v9 * v9) (v5 - 1) h _ _ _ hd (lv_sub hl [4, 5, 2, 6] rfl)
            · replace h := iteT c14 h
              refine lv_iload hx hb dX8_termOf_114 (lv_at hl 1 rfl) ?_
              refine lv_iload hx hb dX8_termOf_116 (lv_at hl 0 rfl) ?_
              obtain ⟨n16, h⟩ := chk h
              refine lv_idiv hx hb dX8_termOf_118 n16 ?_
              refine lv_goto (tgt := 127) hx hb dX8_termOf_119 (by decide) ?_
              exact w_X8_termOf_127 C hr ih σ x2 v5 x4 (v7 / v9) (v5 - 1) h _ _ _ hd (lv_sub hl [4, 5, 2, 6] rfl)
          · replace h := iteT c13 h
            refine lv_iconst (v := 0) hx hb dX8_termOf_104 ic_0 ?_
            refine lv_goto (tgt := 127) hx hb dX8_termOf_105 (by decide) ?_
            exact w_X8_termOf_127 C hr ih σ x2 v5 x4 0 (v5 - 1) h _ _ _ hd (lv_sub hl [4, 5, 2, 6] rfl)
      · replace h := iteF c4 h
        refine lv_aload_n hx hb dX8_termOf_26 rfl (lv_at hl 1 rfl) ?_
        refine gX8_67 C hd dX8_termOf_27 ?_
        refine lv_iload_n hx hb dX8_termOf_30 rfl (lv_at hl 3 rfl) ?_
        refine lv_iload hx hb dX8_termOf_31 (lv_at hl 0 rfl) ?_
        refine lv_if_ne (tgt := 46) hx hb dX8_termOf_33 (by decide) (fun c17 => ?_) (fun c17 => ?_)
        · replace h := iteF c17 h
          refine lv_aload_n hx hb dX8_termOf_46 rfl (lv_at hl 1 rfl) ?_
          refine gX8_64 C hd dX8_termOf_47 ?_
          refine lv_aload_n hx hb dX8_termOf_50 rfl (lv_at hl 1 rfl) ?_
          refine gX8_58 C hd dX8_termOf_51 ?_
          refine lv_iload hx hb dX8_termOf_54 (lv_at hl 4 rfl) ?_
          obtain ⟨n18, h⟩ := chk h
          refine ld_wM_14 C hd (inb_i n18) dX8_termOf_56 ?_
          obtain ⟨n19, h⟩ := chk h
          refine ld_wM_16 C hd (inb_i n19) dX8_termOf_57 ?_
          exact w_X8_termOf_58 C hr ih σ x2 x3 x4 (σ.2.1 16 (σ.2.1 14 x4.toNatClampNeg).toNatClampNeg) x3 h _ _ _ hd (lv_sub hl [1, 2, 3, 4] rfl)
        · replace h := iteT c17 h
          refine lv_aload_n hx hb dX8_termOf_36 rfl (lv_at hl 1 rfl) ?_
          refine gX8_58 C hd dX8_termOf_37 ?_
          refine lv_iload hx hb dX8_termOf_40 (lv_at hl 4 rfl) ?_
          obtain ⟨n20, h⟩ := chk h
          refine ld_wM_14 C hd (inb_i n20) dX8_termOf_42 ?_
          refine lv_goto (tgt := 58) hx hb dX8_termOf_43 (by decide) ?_
          exact w_X8_termOf_58 C hr ih σ x2 x3 x4 (σ.2.1 14 x4.toNatClampNeg) x3 h _ _ _ hd (lv_sub hl [1, 2, 3, 4] rfl)
noncomputable def f_X8_termOf (F : Nat) (σ : St) (x1 : Int32) (x2 : Int32) : Option (Int32 × St) :=
  f_X8_termOf_5 F F σ x2 0 x1
set_option maxRecDepth 100000 in
set_option maxHeartbeats 4000000 in
theorem c_X8_termOf {l : Launch} {g : Gp} {X : va_W} (hE : E0 g) {F : Nat} {r' : Int32} {σ' : St} {σ : St} {x1 : Int32} {x2 : Int32} (h : f_X8_termOf F σ x1 x2 = some (r', σ')) : Ci l g yX8_termOf cX8_termOf 8 (some .int) 0 [.ref (ga g 40), .int x1, .int x2] (wM g σ ++ X) r' (wM g σ' ++ X) := by
  refine rHead hE (by decide +kernel) (Nat.le_of_ble_eq_true rfl) (fun p e s m below meth c C hr _ hd ls hl => ?_)
  have hx := C.1
  have hb := C.2.1
  have hl : lv_has ls 8 [(0, .ref (ga g 40)), (1, .int x1), (2, .int x2)] := hl
  generalize ([.ref (ga g 40), .int x1, .int x2] : List Value).toArray = args at C ⊢
  have C : Cx g p s m args meth c cX8_termOf 8 RX8 := C
  rw [f_X8_termOf] at h
  refine lv_iconst (v := 0) hx hb dX8_termOf_0 ic_0 ?_
  refine lv_istore_n (lv' := [(3, .int 0), (0, .ref (ga g 40)), (1, .int x1), (2, .int x2)]) hx hb dX8_termOf_1 rfl hl (Nat.le_of_ble_eq_true rfl) rfl (fun ls hl => ?_)
  refine lv_iload_n hx hb dX8_termOf_2 rfl (lv_at hl 2 rfl) ?_
  refine lv_istore (lv' := [(4, .int x1), (3, .int 0), (0, .ref (ga g 40)), (1, .int x1), (2, .int x2)]) hx hb dX8_termOf_3 hl (Nat.le_of_ble_eq_true rfl) rfl (fun ls hl => ?_)
  exact w_X8_termOf_5 C hr _ σ x2 0 x1 h _ _ _ hd (lv_sub hl [2, 4, 1, 0] rfl)
noncomputable def f_X8_termTold (F : Nat) (σ : St) (x1 : Int32) (x2 : Int32) : Option (Int32 × St) :=
  if inb x1 210 = true then cal (f_X8_termsOf F σ (σ.2.1 8 x1.toNatClampNeg)) (fun r2 => if r2 ≤ x2 then (some (0, σ)) else (if inb ((4 * x1) + x2) 840 = true then if inb (((4 * x1) + x2) + 1) 840 = true then cal2 (f_X8_termOf F σ (σ.2.1 9 ((4 * x1) + x2).toNatClampNeg) (σ.2.1 9 (((4 * x1) + x2) + 1).toNatClampNeg)) (fun r6 t7 => some (r6, t7)) else none else none)) else none
set_option maxRecDepth 100000 in
set_option maxHeartbeats 4000000 in
theorem c_X8_termTold {l : Launch} {g : Gp} {X : va_W} (hE : E0 g) {F : Nat} {r' : Int32} {σ' : St} {σ : St} {x1 : Int32} {x2 : Int32} (h : f_X8_termTold F σ x1 x2 = some (r', σ')) : Ci l g yX8_termTold cX8_termTold 3 (some .int) 1 [.ref (ga g 40), .int x1, .int x2] (wM g σ ++ X) r' (wM g σ' ++ X) := by
  refine rHead hE (by decide +kernel) (Nat.le_of_ble_eq_true rfl) (fun p e s m below meth c C hr _ hd ls hl => ?_)
  have hx := C.1
  have hb := C.2.1
  have hl : lv_has ls 3 [(0, .ref (ga g 40)), (1, .int x1), (2, .int x2)] := hl
  generalize ([.ref (ga g 40), .int x1, .int x2] : List Value).toArray = args at C ⊢
  have C : Cx g p s m args meth c cX8_termTold 3 RX8 := C
  rw [f_X8_termTold] at h
  refine lv_iload_n hx hb dX8_termTold_0 rfl (lv_at hl 2 rfl) ?_
  refine lv_aload_n hx hb dX8_termTold_1 rfl (lv_at hl 0 rfl) ?_
  refine gX8_40 C hd dX8_termTold_2 ?_
  refine lv_iload_n hx hb dX8_termTold_5 rfl (lv_at hl 1 rfl) ?_
  obtain ⟨n1, h⟩ := chk h
  refine ld_wM_8 C hd (inb_i n1) dX8_termTold_6 ?_
  obtain ⟨r2, er2, h⟩ := cal_e h
  refine rCallSI C hd (c_X8_termsOf hE er2) kX8_198 rfl hl.1 rfl (Nat.le_of_ble_eq_true rfl) ⟨(Nat.le_of_ble_eq_true rfl), (Nat.le_of_ble_eq_true rfl)⟩ ⟨Nat.le_refl _, Nat.le_refl _⟩ dX8_termTold_7 (fun H locs hd => ?_)
  refine lv_icmp_ge (tgt := 42) hx hb dX8_termTold_10 (by decide) (fun c3 => ?_) (fun c3 => ?_)
  · replace h := iteT c3 h
    refine lv_iconst (v := 0) hx hb dX8_termTold_42 ic_0 ?_
    exact rIretS (w := wM g) C hr hd h dX8_termTold_43
  · replace h := iteF c3 h
    refine lv_aload_n hx hb dX8_termTold_13 rfl (lv_at hl 0 rfl) ?_
    refine lv_aload_n hx hb dX8_termTold_14 rfl (lv_at hl 0 rfl) ?_
    refine gX8_43 C hd dX8_termTold_15 ?_
    refine lv_iconst (v := 4) hx hb dX8_termTold_18 ic_4 ?_
    refine lv_iload_n hx hb dX8_termTold_19 rfl (lv_at hl 1 rfl) ?_
    refine lv_imul hx hb dX8_termTold_20 ?_
    refine lv_iload_n hx hb dX8_termTold_21 rfl (lv_at hl 2 rfl) ?_
    refine lv_iadd hx hb dX8_termTold_22 ?_
    obtain ⟨n4, h⟩ := chk h
    refine ld_wM_9 C hd (inb_i n4) dX8_termTold_23 ?_
    refine lv_aload_n hx hb dX8_termTold_24 rfl (lv_at hl 0 rfl) ?_
    refine gX8_43 C hd dX8_termTold_25 ?_
    refine lv_iconst (v := 4) hx hb dX8_termTold_28 ic_4 ?_
    refine lv_iload_n hx hb dX8_termTold_29 rfl (lv_at hl 1 rfl) ?_
    refine lv_imul hx hb dX8_termTold_30 ?_
    refine lv_iload_n hx hb dX8_termTold_31 rfl (lv_at hl 2 rfl) ?_
    refine lv_iadd hx hb dX8_termTold_32 ?_
    refine lv_iconst (v := 1) hx hb dX8_termTold_33 ic_1 ?_
    refine lv_iadd hx hb dX8_termTold_34 ?_
    obtain ⟨n5, h⟩ := chk h
    refine ld_wM_9 C hd (inb_i n5) dX8_termTold_35 ?_
    obtain ⟨r6, t7, et7, h⟩ := cal2_e h
    refine rCallI C hd (c_X8_termOf hE et7) kX8_226 0 rfl rfl rfl rfl hl.1 rfl (Nat.le_of_ble_eq_true rfl) ⟨(Nat.le_of_ble_eq_true rfl), (Nat.le_of_ble_eq_true rfl)⟩ ⟨Nat.le_refl _, Nat.le_refl _⟩ dX8_termTold_36 (fun H locs hd => ?_)
    refine lv_goto (tgt := 43) hx hb dX8_termTold_39 (by decide) ?_
    exact rIretS (w := wM g) C hr hd h dX8_termTold_43
noncomputable def f_X8_write (F : Nat) (σ : St) (x1 : Int32) (x2 : Int32) : Option (Int32 × St) :=
  cal (f_X8_isPage F σ x1) (fun r1 => if r1 = 0 then (some ((-1 : Int32), σ)) else (cal2 (f_X8_comes F σ 0 x1 x2) (fun r3 t4 => some (r3, t4))))
set_option maxRecDepth 100000 in
set_option maxHeartbeats 4000000 in
theorem c_X8_write {l : Launch} {g : Gp} {X : va_W} (hE : E0 g) {F : Nat} {r' : Int32} {σ' : St} {σ : St} {x1 : Int32} {x2 : Int32} (h : f_X8_write F σ x1 x2 = some (r', σ')) : Ci l g yX8_write cX8_write 3 (some .int) 3 [.ref (ga g 40), .int x1, .int x2] (wM g σ ++ X) r' (wM g σ' ++ X) := by
  refine rHead hE (by decide +kernel) (Nat.le_of_ble_eq_true rfl) (fun p e s m below meth c C hr _ hd ls hl => ?_)
  have hx := C.1
  have hb := C.2.1
  have hl : lv_has ls 3 [(0, .ref (ga g 40)), (1, .int x1), (2, .int x2)] := hl
  generalize ([.ref (ga g 40), .int x1, .int x2] : List Value).toArray = args at C ⊢
  have C : Cx g p s m args meth c cX8_write 3 RX8 := C
  rw [f_X8_write] at h
  refine lv_aload_n hx hb dX8_write_0 rfl (lv_at hl 0 rfl) ?_
  refine lv_iload_n hx hb dX8_write_1 rfl (lv_at hl 1 rfl) ?_
  obtain ⟨r1, er1, h⟩ := cal_e h
  refine rCallI C hd (c_X8_isPage hE er1) kX8_334 0 rfl rfl rfl rfl hl.1 rfl (Nat.le_of_ble_eq_true rfl) ⟨(Nat.le_of_ble_eq_true rfl), (Nat.le_of_ble_eq_true rfl)⟩ ⟨Nat.le_refl _, Nat.le_refl _⟩ dX8_write_2 (fun H locs hd => ?_)
  refine lv_if_eq (tgt := 18) hx hb dX8_write_5 (by decide) (fun c2 => ?_) (fun c2 => ?_)
  · replace h := iteT c2 h
    refine lv_iconst (v := (-1 : Int32)) hx hb dX8_write_18 ic_m1 ?_
    exact rIretS (w := wM g) C hr hd h dX8_write_19
  · replace h := iteF c2 h
    refine lv_aload_n hx hb dX8_write_8 rfl (lv_at hl 0 rfl) ?_
    refine lv_iconst (v := 0) hx hb dX8_write_9 ic_0 ?_
    refine lv_iload_n hx hb dX8_write_10 rfl (lv_at hl 1 rfl) ?_
    refine lv_iload_n hx hb dX8_write_11 rfl (lv_at hl 2 rfl) ?_
    obtain ⟨r3, t4, et4, h⟩ := cal2_e h
    refine rCallI C hd (c_X8_comes hE et4) kX8_337 0 rfl rfl rfl rfl hl.1 rfl (Nat.le_of_ble_eq_true rfl) ⟨(Nat.le_of_ble_eq_true rfl), (Nat.le_of_ble_eq_true rfl)⟩ ⟨Nat.le_refl _, Nat.le_refl _⟩ dX8_write_12 (fun H locs hd => ?_)
    refine lv_goto (tgt := 19) hx hb dX8_write_15 (by decide) ?_
    exact rIretS (w := wM g) C hr hd h dX8_write_19
noncomputable def f_X8_take (F : Nat) (σ : St) (x1 : Int32) (x2 : Int32) : Option (Int32 × St) :=
  cal (f_X8_isCopy F σ x1) (fun r1 => if r1 = 0 then (some (0, σ)) else (cal (f_X8_isPage F σ x2) (fun r3 => if r3 = 0 then (some (0, σ)) else (cal (f_X8_ofCopy F σ x1 2) (fun r5 => if r5 = 0 then (some (0, σ)) else (cal (f_X8_ofCopy F σ x1 0) (fun r7 => if r7 = (σ.2.1 19 3) then (cal (f_X8_placeOf F σ (σ.2.1 19 3)) (fun r9 => cal (f_X8_pageAt F σ x2 (σ.2.1 19 3) r9) (fun r10 => cal (f_X8_takes F σ x1 x2 (σ.2.1 19 3) r9 r10) (fun t11 => some (1, t11))))) else (some (0, σ)))))))))
set_option maxRecDepth 100000 in
set_option maxHeartbeats 4000000 in
theorem c_X8_take {l : Launch} {g : Gp} {X : va_W} (hE : E0 g) {F : Nat} {r' : Int32} {σ' : St} {σ : St} {x1 : Int32} {x2 : Int32} (h : f_X8_take F σ x1 x2 = some (r', σ')) : Ci l g yX8_take cX8_take 4 (some .boolean) 5 [.ref (ga g 40), .int x1, .int x2] (wM g σ ++ X) r' (wM g σ' ++ X) := by
  refine rHead hE (by decide +kernel) (Nat.le_of_ble_eq_true rfl) (fun p e s m below meth c C hr _ hd ls hl => ?_)
  have hx := C.1
  have hb := C.2.1
  have hl : lv_has ls 4 [(0, .ref (ga g 40)), (1, .int x1), (2, .int x2)] := hl
  generalize ([.ref (ga g 40), .int x1, .int x2] : List Value).toArray = args at C ⊢
  have C : Cx g p s m args meth c cX8_take 4 RX8 := C
  rw [f_X8_take] at h
  refine lv_aload_n hx hb dX8_take_0 rfl (lv_at hl 0 rfl) ?_
  refine lv_iload_n hx hb dX8_take_1 rfl (lv_at hl 1 rfl) ?_
  obtain ⟨r1, er1, h⟩ := cal_e h
  refine rCallI C hd (c_X8_isCopy hE er1) kX8_301 0 rfl rfl rfl rfl hl.1 rfl (Nat.le_of_ble_eq_true rfl) ⟨(Nat.le_of_ble_eq_true rfl), (Nat.le_of_ble_eq_true rfl)⟩ ⟨Nat.le_refl _, Nat.le_refl _⟩ dX8_take_2 (fun H locs hd => ?_)
  refine lv_if_eq (tgt := 40) hx hb dX8_take_5 (by decide) (fun c2 => ?_) (fun c2 => ?_)
  · replace h := iteT c2 h
    refine lv_iconst (v := 0) hx hb dX8_take_40 ic_0 ?_
    exact rZretS (w := wM g) C hr hd h (by decide) dX8_take_41
  · replace h := iteF c2 h
    refine lv_aload_n hx hb dX8_take_8 rfl (lv_at hl 0 rfl) ?_
    refine lv_iload_n hx hb dX8_take_9 rfl (lv_at hl 2 rfl) ?_
    obtain ⟨r3, er3, h⟩ := cal_e h
    refine rCallI C hd (c_X8_isPage hE er3) kX8_334 0 rfl rfl rfl rfl hl.1 rfl (Nat.le_of_ble_eq_true rfl) ⟨(Nat.le_of_ble_eq_true rfl), (Nat.le_of_ble_eq_true rfl)⟩ ⟨Nat.le_refl _, Nat.le_refl _⟩ dX8_take_10 (fun H locs hd => ?_)
    refine lv_if_eq (tgt := 40) hx hb dX8_take_13 (by decide) (fun c4 => ?_) (fun c4 => ?_)
    · replace h := iteT c4 h
      refine lv_iconst (v := 0) hx hb dX8_take_40 ic_0 ?_
      exact rZretS (w := wM g) C hr hd h (by decide) dX8_take_41
    · replace h := iteF c4 h
      refine lv_aload_n hx hb dX8_take_16 rfl (lv_at hl 0 rfl) ?_
      refine lv_iload_n hx hb dX8_take_17 rfl (lv_at hl 1 rfl) ?_
      refine lv_iconst (v := 2) hx hb dX8_take_18 ic_2 ?_
      obtain ⟨r5, er5, h⟩ := cal_e h
      refine rCallI C hd (c_X8_ofCopy hE er5) kX8_286 0 rfl rfl rfl rfl hl.1 rfl (Nat.le_of_ble_eq_true rfl) ⟨(Nat.le_of_ble_eq_true rfl), (Nat.le_of_ble_eq_true rfl)⟩ ⟨Nat.le_refl _, Nat.le_refl _⟩ dX8_take_19 (fun H locs hd => ?_)
      refine lv_if_eq (tgt := 40) hx hb dX8_take_22 (by decide) (fun c6 => ?_) (fun c6 => ?_)
      · replace h := iteT c6 h
        refine lv_iconst (v := 0) hx hb dX8_take_40 ic_0 ?_
        exact rZretS (w := wM g) C hr hd h (by decide) dX8_take_41
      · replace h := iteF c6 h
        refine lv_aload_n hx hb dX8_take_25 rfl (lv_at hl 0 rfl) ?_
        refine lv_iload_n hx hb dX8_take_26 rfl (lv_at hl 1 rfl) ?_
        refine lv_iconst (v := 0) hx hb dX8_take_27 ic_0 ?_
        obtain ⟨r7, er7, h⟩ := cal_e h
        refine rCallI C hd (c_X8_ofCopy hE er7) kX8_286 0 rfl rfl rfl rfl hl.1 rfl (Nat.le_of_ble_eq_true rfl) ⟨(Nat.le_of_ble_eq_true rfl), (Nat.le_of_ble_eq_true rfl)⟩ ⟨Nat.le_refl _, Nat.le_refl _⟩ dX8_take_28 (fun H locs hd => ?_)
        refine lv_aload_n hx hb dX8_take_31 rfl (lv_at hl 0 rfl) ?_
        refine gX8_73 C hd dX8_take_32 ?_
        refine lv_iconst (v := 3) hx hb dX8_take_35 ic_3 ?_
        refine ldc_wM_19 C hd cl_3 (inb_i (by decide +kernel)) dX8_take_36 ?_
        refine lv_icmp_eq (tgt := 42) hx hb dX8_take_37 (by decide) (fun c8 => ?_) (fun c8 => ?_)
        · replace h := iteT c8 h
          refine lv_aload_n hx hb dX8_take_42 rfl (lv_at hl 0 rfl) ?_
          refine lv_aload_n hx hb dX8_take_43 rfl (lv_at hl 0 rfl) ?_
          refine gX8_73 C hd dX8_take_44 ?_
          refine lv_iconst (v := 3) hx hb dX8_take_47 ic_3 ?_
          refine ldc_wM_19 C hd cl_3 (inb_i (by decide +kernel)) dX8_take_48 ?_
          obtain ⟨r9, er9, h⟩ := cal_e h
          refine rCallI C hd (c_X8_placeOf hE er9) kX8_217 0 rfl rfl rfl rfl hl.1 rfl (Nat.le_of_ble_eq_true rfl) ⟨(Nat.le_of_ble_eq_true rfl), (Nat.le_of_ble_eq_true rfl)⟩ ⟨Nat.le_refl _, Nat.le_refl _⟩ dX8_take_49 (fun H locs hd => ?_)
          refine lv_istore_n (lv' := [(3, .int r9), (0, .ref (ga g 40)), (1, .int x1), (2, .int x2)]) hx hb dX8_take_52 rfl hl (Nat.le_of_ble_eq_true rfl) rfl (fun ls hl => ?_)
          refine lv_aload_n hx hb dX8_take_53 rfl (lv_at hl 1 rfl) ?_
          refine lv_iload_n hx hb dX8_take_54 rfl (lv_at hl 2 rfl) ?_
          refine lv_iload_n hx hb dX8_take_55 rfl (lv_at hl 3 rfl) ?_
          refine lv_aload_n hx hb dX8_take_56 rfl (lv_at hl 1 rfl) ?_
          refine gX8_73 C hd dX8_take_57 ?_
          refine lv_iconst (v := 3) hx hb dX8_take_60 ic_3 ?_
          refine ldc_wM_19 C hd cl_3 (inb_i (by decide +kernel)) dX8_take_61 ?_
          refine lv_iload_n hx hb dX8_take_62 rfl (lv_at hl 0 rfl) ?_
          refine lv_aload_n hx hb dX8_take_63 rfl (lv_at hl 1 rfl) ?_
          refine lv_iload_n hx hb dX8_take_64 rfl (lv_at hl 3 rfl) ?_
          refine lv_aload_n hx hb dX8_take_65 rfl (lv_at hl 1 rfl) ?_
          refine gX8_73 C hd dX8_take_66 ?_
          refine lv_iconst (v := 3) hx hb dX8_take_69 ic_3 ?_
          refine ldc_wM_19 C hd cl_3 (inb_i (by decide +kernel)) dX8_take_70 ?_
          refine lv_iload_n hx hb dX8_take_71 rfl (lv_at hl 0 rfl) ?_
          obtain ⟨r10, er10, h⟩ := cal_e h
          refine rCallI C hd (c_X8_pageAt hE er10) kX8_343 0 rfl rfl rfl rfl hl.1 rfl (Nat.le_of_ble_eq_true rfl) ⟨(Nat.le_of_ble_eq_true rfl), (Nat.le_of_ble_eq_true rfl)⟩ ⟨Nat.le_refl _, Nat.le_refl _⟩ dX8_take_72 (fun H locs hd => ?_)
          obtain ⟨t11, et11, h⟩ := cal_e h
          refine rCallV C hd (c_X8_takes hE et11) kX8_346 0 rfl rfl rfl rfl hl.1 rfl (Nat.le_of_ble_eq_true rfl) ⟨(Nat.le_of_ble_eq_true rfl), (Nat.le_of_ble_eq_true rfl)⟩ ⟨Nat.le_refl _, Nat.le_refl _⟩ dX8_take_75 (fun H locs hd => ?_)
          refine lv_iconst (v := 1) hx hb dX8_take_78 ic_1 ?_
          exact rZretS (w := wM g) C hr hd h (by decide) dX8_take_79
        · replace h := iteF c8 h
          refine lv_iconst (v := 0) hx hb dX8_take_40 ic_0 ?_
          exact rZretS (w := wM g) C hr hd h (by decide) dX8_take_41
noncomputable def f_X8_restore (F : Nat) (σ : St) (x1 : Int32) (x2 : Int32) (x3 : Int32) : Option (Int32 × St) :=
  if (σ.2.1 19 2) = 8 then (some (1, σ)) else (cal2 (f_X8_comesOut_ F σ x1 x2 x3) (fun r2 t3 => if r2 = 0 then (cal (f_X8_newLine F t3 x2 x3 x3) (fun t5 => some (r2, t5))) else (some (r2, t3))))
set_option maxRecDepth 100000 in
set_option maxHeartbeats 4000000 in
theorem c_X8_restore {l : Launch} {g : Gp} {X : va_W} (hE : E0 g) {F : Nat} {r' : Int32} {σ' : St} {σ : St} {x1 : Int32} {x2 : Int32} {x3 : Int32} (h : f_X8_restore F σ x1 x2 x3 = some (r', σ')) : Ci l g yX8_restore cX8_restore 5 (some .int) 6 [.ref (ga g 40), .int x1, .int x2, .int x3] (wM g σ ++ X) r' (wM g σ' ++ X) := by
  refine rHead hE (by decide +kernel) (Nat.le_of_ble_eq_true rfl) (fun p e s m below meth c C hr _ hd ls hl => ?_)
  have hx := C.1
  have hb := C.2.1
  have hl : lv_has ls 5 [(0, .ref (ga g 40)), (1, .int x1), (2, .int x2), (3, .int x3)] := hl
  generalize ([.ref (ga g 40), .int x1, .int x2, .int x3] : List Value).toArray = args at C ⊢
  have C : Cx g p s m args meth c cX8_restore 5 RX8 := C
  rw [f_X8_restore] at h
  refine lv_aload_n hx hb dX8_restore_0 rfl (lv_at hl 0 rfl) ?_
  refine gX8_73 C hd dX8_restore_1 ?_
  refine lv_iconst (v := 2) hx hb dX8_restore_4 ic_2 ?_
  refine ldc_wM_19 C hd cl_2 (inb_i (by decide +kernel)) dX8_restore_5 ?_
  refine lv_bipush (v := 8) hx hb dX8_restore_6 bi_8 ?_
  refine lv_icmp_ne (tgt := 13) hx hb dX8_restore_8 (by decide) (fun c1 => ?_) (fun c1 => ?_)
  · replace h := iteF c1 h
    refine lv_aload_n hx hb dX8_restore_13 rfl (lv_at hl 0 rfl) ?_
    refine lv_iload_n hx hb dX8_restore_14 rfl (lv_at hl 1 rfl) ?_
    refine lv_iload_n hx hb dX8_restore_15 rfl (lv_at hl 2 rfl) ?_
    refine lv_iload_n hx hb dX8_restore_16 rfl (lv_at hl 3 rfl) ?_
    obtain ⟨r2, t3, et3, h⟩ := cal2_e h
    refine rCallI C hd (c_X8_comesOut_ hE et3) kX8_350 0 rfl rfl rfl rfl hl.1 rfl (Nat.le_of_ble_eq_true rfl) ⟨(Nat.le_of_ble_eq_true rfl), (Nat.le_of_ble_eq_true rfl)⟩ ⟨Nat.le_refl _, Nat.le_refl _⟩ dX8_restore_17 (fun H locs hd => ?_)
    refine lv_istore (lv' := [(4, .int r2), (0, .ref (ga g 40)), (1, .int x1), (2, .int x2), (3, .int x3)]) hx hb dX8_restore_20 hl (Nat.le_of_ble_eq_true rfl) rfl (fun ls hl => ?_)
    refine lv_iload hx hb dX8_restore_22 (lv_at hl 0 rfl) ?_
    refine lv_if_ne (tgt := 34) hx hb dX8_restore_24 (by decide) (fun c4 => ?_) (fun c4 => ?_)
    · replace h := iteF c4 h
      refine lv_iload hx hb dX8_restore_34 (lv_at hl 0 rfl) ?_
      exact rIretS (w := wM g) C hr hd h dX8_restore_36
    · replace h := iteT c4 h
      refine lv_aload_n hx hb dX8_restore_27 rfl (lv_at hl 1 rfl) ?_
      refine lv_iload_n hx hb dX8_restore_28 rfl (lv_at hl 3 rfl) ?_
      refine lv_iload_n hx hb dX8_restore_29 rfl (lv_at hl 4 rfl) ?_
      refine lv_iload_n hx hb dX8_restore_30 rfl (lv_at hl 4 rfl) ?_
      obtain ⟨t5, et5, h⟩ := cal_e h
      refine rCallV C hd (c_X8_newLine hE et5) kX8_258 0 rfl rfl rfl rfl hl.1 rfl (Nat.le_of_ble_eq_true rfl) ⟨(Nat.le_of_ble_eq_true rfl), (Nat.le_of_ble_eq_true rfl)⟩ ⟨Nat.le_refl _, Nat.le_refl _⟩ dX8_restore_31 (fun H locs hd => ?_)
      refine lv_iload hx hb dX8_restore_34 (lv_at hl 0 rfl) ?_
      exact rIretS (w := wM g) C hr hd h dX8_restore_36
  · replace h := iteT c1 h
    refine lv_iconst (v := 1) hx hb dX8_restore_11 ic_1 ?_
    exact rIretS (w := wM g) C hr hd h dX8_restore_12
noncomputable def f_X8_tellDone (F : Nat) (σ : St) (x1 : Int32) (x2 : Int32) (x3 : Int32) (x4 : Int32) : Option (Int32 × St) :=
  if x1 = 0 then (cal2 (f_X8_write F σ x2 x3) (fun r2 t3 => some (r2, t3))) else (if x1 = 1 then (cal2 (f_X8_add F σ x2 x3) (fun r5 t6 => some (r5, t6))) else (if x1 = 2 then (cal2 (f_X8_mark F σ x2) (fun r8 t9 => some (r8, t9))) else (if x1 = 3 then (cal2 (f_X8_fill F σ) (fun r11 t12 => some (r11, t12))) else (if x1 = 4 then (cal2 (f_X8_copy F σ (-1 : Int32)) (fun r14 t15 => some (r14, t15))) else (if x1 = 5 then (cal2 (f_X8_copy F σ x2) (fun r17 t18 => some (r17, t18))) else (if x1 = 6 then (cal2 (f_X8_take F σ x2 x3) (fun r20 t21 => if r20 = 0 then (some (0, t21)) else (some (1, t21)))) else (if x1 = 7 then (cal2 (f_X8_close F σ x2) (fun r24 t25 => if r24 = 0 then (some (0, t25)) else (some (1, t25)))) else (if x1 = 8 then (cal2 (f_X8_restore F σ x2 x3 x4) (fun r28 t29 => some (r28, t29))) else (cal2 (f_X8_lose F σ x2 x3) (fun r30 t31 => if r30 = 0 then (some (0, t31)) else (some (1, t31))))))))))))
set_option maxRecDepth 100000 in
set_option maxHeartbeats 4000000 in
theorem c_X8_tellDone {l : Launch} {g : Gp} {X : va_W} (hE : E0 g) {F : Nat} {r' : Int32} {σ' : St} {σ : St} {x1 : Int32} {x2 : Int32} {x3 : Int32} {x4 : Int32} (h : f_X8_tellDone F σ x1 x2 x3 x4 = some (r', σ')) : Ci l g yX8_tellDone cX8_tellDone 5 (some .int) 7 [.ref (ga g 40), .int x1, .int x2, .int x3, .int x4] (wM g σ ++ X) r' (wM g σ' ++ X) := by
  refine rHead hE (by decide +kernel) (Nat.le_of_ble_eq_true rfl) (fun p e s m below meth c C hr _ hd ls hl => ?_)
  have hx := C.1
  have hb := C.2.1
  have hl : lv_has ls 5 [(0, .ref (ga g 40)), (1, .int x1), (2, .int x2), (3, .int x3), (4, .int x4)] := hl
  generalize ([.ref (ga g 40), .int x1, .int x2, .int x3, .int x4] : List Value).toArray = args at C ⊢
  have C : Cx g p s m args meth c cX8_tellDone 5 RX8 := C
  rw [f_X8_tellDone] at h
  refine lv_iload_n hx hb dX8_tellDone_0 rfl (lv_at hl 1 rfl) ?_
  by_cases c1 : x1 = 0
  · replace h := iteT c1 h
    refine rTop c1.symm ?_
    refine lv_tableIn (off := 51) (tgt := 52) hx hb dX8_tellDone_1 (by decide) (by decide) (by decide) (by decide) ?_
    refine lv_aload_n hx hb dX8_tellDone_52 rfl (lv_at hl 0 rfl) ?_
    refine lv_iload_n hx hb dX8_tellDone_53 rfl (lv_at hl 2 rfl) ?_
    refine lv_iload_n hx hb dX8_tellDone_54 rfl (lv_at hl 3 rfl) ?_
    obtain ⟨r2, t3, et3, h⟩ := cal2_e h
    refine rCallI C hd (c_X8_write hE et3) kX8_229 0 rfl rfl rfl rfl hl.1 rfl (Nat.le_of_ble_eq_true rfl) ⟨(Nat.le_of_ble_eq_true rfl), (Nat.le_of_ble_eq_true rfl)⟩ ⟨Nat.le_refl _, Nat.le_refl _⟩ dX8_tellDone_55 (fun H locs hd => ?_)
    exact rIretS (w := wM g) C hr hd h dX8_tellDone_58
  · replace h := iteF c1 h
    by_cases c4 : x1 = 1
    · replace h := iteT c4 h
      refine rTop c4.symm ?_
      refine lv_tableIn (off := 58) (tgt := 59) hx hb dX8_tellDone_1 (by decide) (by decide) (by decide) (by decide) ?_
      refine lv_aload_n hx hb dX8_tellDone_59 rfl (lv_at hl 0 rfl) ?_
      refine lv_iload_n hx hb dX8_tellDone_60 rfl (lv_at hl 2 rfl) ?_
      refine lv_iload_n hx hb dX8_tellDone_61 rfl (lv_at hl 3 rfl) ?_
      obtain ⟨r5, t6, et6, h⟩ := cal2_e h
      refine rCallI C hd (c_X8_add hE et6) kX8_232 0 rfl rfl rfl rfl hl.1 rfl (Nat.le_of_ble_eq_true rfl) ⟨(Nat.le_of_ble_eq_true rfl), (Nat.le_of_ble_eq_true rfl)⟩ ⟨Nat.le_refl _, Nat.le_refl _⟩ dX8_tellDone_62 (fun H locs hd => ?_)
      exact rIretS (w := wM g) C hr hd h dX8_tellDone_65
    · replace h := iteF c4 h
      by_cases c7 : x1 = 2
      · replace h := iteT c7 h
        refine rTop c7.symm ?_
        refine lv_tableIn (off := 65) (tgt := 66) hx hb dX8_tellDone_1 (by decide) (by decide) (by decide) (by decide) ?_
        refine lv_aload_n hx hb dX8_tellDone_66 rfl (lv_at hl 0 rfl) ?_
        refine lv_iload_n hx hb dX8_tellDone_67 rfl (lv_at hl 2 rfl) ?_
        obtain ⟨r8, t9, et9, h⟩ := cal2_e h
        refine rCallI C hd (c_X8_mark hE et9) kX8_235 0 rfl rfl rfl rfl hl.1 rfl (Nat.le_of_ble_eq_true rfl) ⟨(Nat.le_of_ble_eq_true rfl), (Nat.le_of_ble_eq_true rfl)⟩ ⟨Nat.le_refl _, Nat.le_refl _⟩ dX8_tellDone_68 (fun H locs hd => ?_)
        exact rIretS (w := wM g) C hr hd h dX8_tellDone_71
      · replace h := iteF c7 h
        by_cases c10 : x1 = 3
        · replace h := iteT c10 h
          refine rTop c10.symm ?_
          refine lv_tableIn (off := 71) (tgt := 72) hx hb dX8_tellDone_1 (by decide) (by decide) (by decide) (by decide) ?_
          refine lv_aload_n hx hb dX8_tellDone_72 rfl (lv_at hl 0 rfl) ?_
          obtain ⟨r11, t12, et12, h⟩ := cal2_e h
          refine rCallI C hd (c_X8_fill hE et12) kX8_238 0 rfl rfl rfl rfl hl.1 rfl (Nat.le_of_ble_eq_true rfl) ⟨(Nat.le_of_ble_eq_true rfl), (Nat.le_of_ble_eq_true rfl)⟩ ⟨Nat.le_refl _, Nat.le_refl _⟩ dX8_tellDone_73 (fun H locs hd => ?_)
          exact rIretS (w := wM g) C hr hd h dX8_tellDone_76
        · replace h := iteF c10 h
          by_cases c13 : x1 = 4
          · replace h := iteT c13 h
            refine rTop c13.symm ?_
            refine lv_tableIn (off := 76) (tgt := 77) hx hb dX8_tellDone_1 (by decide) (by decide) (by decide) (by decide) ?_
            refine lv_aload_n hx hb dX8_tellDone_77 rfl (lv_at hl 0 rfl) ?_
            refine lv_iconst (v := (-1 : Int32)) hx hb dX8_tellDone_78 ic_m1 ?_
            obtain ⟨r14, t15, et15, h⟩ := cal2_e h
            refine rCallI C hd (c_X8_copy hE et15) kX8_242 0 rfl rfl rfl rfl hl.1 rfl (Nat.le_of_ble_eq_true rfl) ⟨(Nat.le_of_ble_eq_true rfl), (Nat.le_of_ble_eq_true rfl)⟩ ⟨Nat.le_refl _, Nat.le_refl _⟩ dX8_tellDone_79 (fun H locs hd => ?_)
            exact rIretS (w := wM g) C hr hd h dX8_tellDone_82
          · replace h := iteF c13 h
            by_cases c16 : x1 = 5
            · replace h := iteT c16 h
              refine rTop c16.symm ?_
              refine lv_tableIn (off := 82) (tgt := 83) hx hb dX8_tellDone_1 (by decide) (by decide) (by decide) (by decide) ?_
              refine lv_aload_n hx hb dX8_tellDone_83 rfl (lv_at hl 0 rfl) ?_
              refine lv_iload_n hx hb dX8_tellDone_84 rfl (lv_at hl 2 rfl) ?_
              obtain ⟨r17, t18, et18, h⟩ := cal2_e h
              refine rCallI C hd (c_X8_copy hE et18) kX8_242 0 rfl rfl rfl rfl hl.1 rfl (Nat.le_of_ble_eq_true rfl) ⟨(Nat.le_of_ble_eq_true rfl), (Nat.le_of_ble_eq_true rfl)⟩ ⟨Nat.le_refl _, Nat.le_refl _⟩ dX8_tellDone_85 (fun H locs hd => ?_)
              exact rIretS (w := wM g) C hr hd h dX8_tellDone_88
            · replace h := iteF c16 h
              by_cases c19 : x1 = 6
              · replace h := iteT c19 h
                refine rTop c19.symm ?_
                refine lv_tableIn (off := 88) (tgt := 89) hx hb dX8_tellDone_1 (by decide) (by decide) (by decide) (by decide) ?_
                refine lv_aload_n hx hb dX8_tellDone_89 rfl (lv_at hl 0 rfl) ?_
                refine lv_iload_n hx hb dX8_tellDone_90 rfl (lv_at hl 2 rfl) ?_
                refine lv_iload_n hx hb dX8_tellDone_91 rfl (lv_at hl 3 rfl) ?_
                obtain ⟨r20, t21, et21, h⟩ := cal2_e h
                refine rCallI C hd (c_X8_take hE et21) kX8_245 0 rfl rfl rfl rfl hl.1 rfl (Nat.le_of_ble_eq_true rfl) ⟨(Nat.le_of_ble_eq_true rfl), (Nat.le_of_ble_eq_true rfl)⟩ ⟨Nat.le_refl _, Nat.le_refl _⟩ dX8_tellDone_92 (fun H locs hd => ?_)
                refine lv_if_eq (tgt := 102) hx hb dX8_tellDone_95 (by decide) (fun c22 => ?_) (fun c22 => ?_)
                · replace h := iteT c22 h
                  refine lv_iconst (v := 0) hx hb dX8_tellDone_102 ic_0 ?_
                  exact rIretS (w := wM g) C hr hd h dX8_tellDone_103
                · replace h := iteF c22 h
                  refine lv_iconst (v := 1) hx hb dX8_tellDone_98 ic_1 ?_
                  refine lv_goto (tgt := 103) hx hb dX8_tellDone_99 (by decide) ?_
                  exact rIretS (w := wM g) C hr hd h dX8_tellDone_103
              · replace h := iteF c19 h
                by_cases c23 : x1 = 7
                · replace h := iteT c23 h
                  refine rTop c23.symm ?_
                  refine lv_tableIn (off := 103) (tgt := 104) hx hb dX8_tellDone_1 (by decide) (by decide) (by decide) (by decide) ?_
                  refine lv_aload_n hx hb dX8_tellDone_104 rfl (lv_at hl 0 rfl) ?_
                  refine lv_iload_n hx hb dX8_tellDone_105 rfl (lv_at hl 2 rfl) ?_
                  obtain ⟨r24, t25, et25, h⟩ := cal2_e h
                  refine rCallI C hd (c_X8_close hE et25) kX8_249 0 rfl rfl rfl rfl hl.1 rfl (Nat.le_of_ble_eq_true rfl) ⟨(Nat.le_of_ble_eq_true rfl), (Nat.le_of_ble_eq_true rfl)⟩ ⟨Nat.le_refl _, Nat.le_refl _⟩ dX8_tellDone_106 (fun H locs hd => ?_)
                  refine lv_if_eq (tgt := 116) hx hb dX8_tellDone_109 (by decide) (fun c26 => ?_) (fun c26 => ?_)
                  · replace h := iteT c26 h
                    refine lv_iconst (v := 0) hx hb dX8_tellDone_116 ic_0 ?_
                    exact rIretS (w := wM g) C hr hd h dX8_tellDone_117
                  · replace h := iteF c26 h
                    refine lv_iconst (v := 1) hx hb dX8_tellDone_112 ic_1 ?_
                    refine lv_goto (tgt := 117) hx hb dX8_tellDone_113 (by decide) ?_
                    exact rIretS (w := wM g) C hr hd h dX8_tellDone_117
                · replace h := iteF c23 h
                  by_cases c27 : x1 = 8
                  · replace h := iteT c27 h
                    refine rTop c27.symm ?_
                    refine lv_tableIn (off := 117) (tgt := 118) hx hb dX8_tellDone_1 (by decide) (by decide) (by decide) (by decide) ?_
                    refine lv_aload_n hx hb dX8_tellDone_118 rfl (lv_at hl 0 rfl) ?_
                    refine lv_iload_n hx hb dX8_tellDone_119 rfl (lv_at hl 2 rfl) ?_
                    refine lv_iload_n hx hb dX8_tellDone_120 rfl (lv_at hl 3 rfl) ?_
                    refine lv_iload hx hb dX8_tellDone_121 (lv_at hl 4 rfl) ?_
                    obtain ⟨r28, t29, et29, h⟩ := cal2_e h
                    refine rCallI C hd (c_X8_restore hE et29) kX8_252 0 rfl rfl rfl rfl hl.1 rfl (Nat.le_of_ble_eq_true rfl) ⟨(Nat.le_of_ble_eq_true rfl), (Nat.le_of_ble_eq_true rfl)⟩ ⟨Nat.le_refl _, Nat.le_refl _⟩ dX8_tellDone_123 (fun H locs hd => ?_)
                    exact rIretS (w := wM g) C hr hd h dX8_tellDone_126
                  · replace h := iteF c27 h
                    refine lv_tableOut (tgt := 127) hx hb dX8_tellDone_1 (sw_out (lo := 0) (hi := 8) (fun z z1 z2 e => ?_)) (by decide) ?_
                    · have hz : z = 0 ∨ z = 1 ∨ z = 2 ∨ z = 3 ∨ z = 4 ∨ z = 5 ∨ z = 6 ∨ z = 7 ∨ z = 8 := by omega
                      rcases hz with rfl | rfl | rfl | rfl | rfl | rfl | rfl | rfl | rfl
                      · exact c1 (Int32.toInt_inj.mp (e.trans (by decide)))
                      · exact c4 (Int32.toInt_inj.mp (e.trans (by decide)))
                      · exact c7 (Int32.toInt_inj.mp (e.trans (by decide)))
                      · exact c10 (Int32.toInt_inj.mp (e.trans (by decide)))
                      · exact c13 (Int32.toInt_inj.mp (e.trans (by decide)))
                      · exact c16 (Int32.toInt_inj.mp (e.trans (by decide)))
                      · exact c19 (Int32.toInt_inj.mp (e.trans (by decide)))
                      · exact c23 (Int32.toInt_inj.mp (e.trans (by decide)))
                      · exact c27 (Int32.toInt_inj.mp (e.trans (by decide)))
                    refine lv_aload_n hx hb dX8_tellDone_127 rfl (lv_at hl 0 rfl) ?_
                    refine lv_iload_n hx hb dX8_tellDone_128 rfl (lv_at hl 2 rfl) ?_
                    refine lv_iload_n hx hb dX8_tellDone_129 rfl (lv_at hl 3 rfl) ?_
                    obtain ⟨r30, t31, et31, h⟩ := cal2_e h
                    refine rCallI C hd (c_X8_lose hE et31) kX8_255 0 rfl rfl rfl rfl hl.1 rfl (Nat.le_of_ble_eq_true rfl) ⟨(Nat.le_of_ble_eq_true rfl), (Nat.le_of_ble_eq_true rfl)⟩ ⟨Nat.le_refl _, Nat.le_refl _⟩ dX8_tellDone_130 (fun H locs hd => ?_)
                    refine lv_if_eq (tgt := 140) hx hb dX8_tellDone_133 (by decide) (fun c32 => ?_) (fun c32 => ?_)
                    · replace h := iteT c32 h
                      refine lv_iconst (v := 0) hx hb dX8_tellDone_140 ic_0 ?_
                      exact rIretS (w := wM g) C hr hd h dX8_tellDone_141
                    · replace h := iteF c32 h
                      refine lv_iconst (v := 1) hx hb dX8_tellDone_136 ic_1 ?_
                      refine lv_goto (tgt := 141) hx hb dX8_tellDone_137 (by decide) ?_
                      exact rIretS (w := wM g) C hr hd h dX8_tellDone_141
noncomputable def f_X8_runs_259 (F : Nat) (k_6 : St → Int32 → Int32 → Int32 → Option St) (σ : St) (x1 : Int32) (x2 : Int32) (x3 : Int32) : Option St :=
  bnd (x1 + 1) (fun v1 => k_6 σ v1 x2 x3)
set_option maxRecDepth 100000 in
set_option maxHeartbeats 4000000 in
theorem w_X8_runs_259 {F : Nat} {σ' : St}  (C : Cx g p s m args meth c cX8_runs 5 RX8) (hr : meth.sig.returnType = none)
    {k_6 : St → Int32 → Int32 → Int32 → Option St} (hk_6 : (∀ (σ : St) (x1 : Int32) (x2 : Int32) (x3 : Int32), k_6 σ x1 x2 x3 = some σ' → ∀ (H : Heap) (locs : List Loc) (ls : Array Slot), Dy g (wM g σ ++ X) s H locs → lv_has ls 5 [(0, .ref (ga g 40)), (1, .int x1), (2, .int x2), (3, .int x3)] → W p l e (rmD 8) s m args below meth c H locs 0 0 (QV g below args s (wM g σ' ++ X)) (F0 m 6 ls []))) :
    (∀ (σ : St) (x1 : Int32) (x2 : Int32) (x3 : Int32), f_X8_runs_259 F k_6 σ x1 x2 x3 = some σ' → ∀ (H : Heap) (locs : List Loc) (ls : Array Slot), Dy g (wM g σ ++ X) s H locs → lv_has ls 5 [(0, .ref (ga g 40)), (1, .int x1), (2, .int x2), (3, .int x3)] → W p l e (rmD 8) s m args below meth c H locs 0 0 (QV g below args s (wM g σ' ++ X)) (F0 m 259 ls [])) := by
  have hx := C.1
  have hb := C.2.1
  have hE := C.2.2.2.2.2.2.2.2
  intro σ x1 x2 x3 h H locs ls hd hl
  rw [f_X8_runs_259] at h
  obtain ⟨v1, ev1, h⟩ := bnd_e h
  refine lv_iinc (v := v1) (lv' := [(1, .int v1), (0, .ref (ga g 40)), (2, .int x2), (3, .int x3)]) hx hb dX8_runs_259 hl (k := 1) rfl ((ii_1 _).trans ev1.symm) (Nat.le_of_ble_eq_true rfl) rfl (fun ls hl => ?_)
  refine lv_goto (tgt := 6) hx hb dX8_runs_262 (by decide) ?_
  exact hk_6 σ v1 x2 x3 h _ _ _ hd (lv_sub hl [1, 0, 2, 3] rfl)
noncomputable def f_X8_runs_186 (F : Nat) (k_6 : St → Int32 → Int32 → Int32 → Option St) (σ : St) (x1 : Int32) (x2 : Int32) (x3 : Int32) (x4 : Int32) (y0 : Int32) (y1 : Int32) : Option St :=
  if inb y1 6 = true then bnd (sr σ 16 y1.toNatClampNeg y0) (fun t2 => cal (f_X8_placeOf F t2 (t2.2.1 19 3)) (fun r3 => bnd (sr t2 16 2 r3) (fun t4 => bnd (sr t4 16 3 (t4.2.1 19 3)) (fun t5 => bnd (sr t5 16 4 (t5.2.1 19 5)) (fun t6 => bnd (sr t6 16 5 x3) (fun t7 => cal2 (f_X8_termTold F t7 x1 0) (fun r8 t9 => cal2 (f_X8_termTold F t9 x1 1) (fun r10 t11 => cal2 (f_X8_termTold F t11 x1 2) (fun r12 t13 => cal2 (f_X8_tellDone F t13 x4 r8 r10 r12) (fun r14 t15 => f_X8_runs_259 F k_6 t15 x1 x2 r14)))))))))) else none
set_option maxRecDepth 100000 in
set_option maxHeartbeats 4000000 in
theorem w_X8_runs_186 {F : Nat} {σ' : St}  (C : Cx g p s m args meth c cX8_runs 5 RX8) (hr : meth.sig.returnType = none)
    {k_6 : St → Int32 → Int32 → Int32 → Option St} (hk_6 : (∀ (σ : St) (x1 : Int32) (x2 : Int32) (x3 : Int32), k_6 σ x1 x2 x3 = some σ' → ∀ (H : Heap) (locs : List Loc) (ls : Array Slot), Dy g (wM g σ ++ X) s H locs → lv_has ls 5 [(0, .ref (ga g 40)), (1, .int x1), (2, .int x2), (3, .int x3)] → W p l e (rmD 8) s m args below meth c H locs 0 0 (QV g below args s (wM g σ' ++ X)) (F0 m 6 ls []))) :
    (∀ (σ : St) (x1 : Int32) (x2 : Int32) (x3 : Int32) (x4 : Int32) (y0 : Int32) (y1 : Int32), f_X8_runs_186 F k_6 σ x1 x2 x3 x4 y0 y1 = some σ' → ∀ (H : Heap) (locs : List Loc) (ls : Array Slot), Dy g (wM g σ ++ X) s H locs → lv_has ls 5 [(0, .ref (ga g 40)), (1, .int x1), (2, .int x2), (3, .int x3), (4, .int x4)] → W p l e (rmD 8) s m args below meth c H locs 0 0 (QV g below args s (wM g σ' ++ X)) (F0 m 186 ls [.int y0, .int y1, .ref (ga g 56)])) := by
  have hx := C.1
  have hb := C.2.1
  have hE := C.2.2.2.2.2.2.2.2
  intro σ x1 x2 x3 x4 y0 y1 h H locs ls hd hl
  rw [f_X8_runs_186] at h
  obtain ⟨n1, h⟩ := chk h
  obtain ⟨t2, et2, h⟩ := bnd_e h
  refine st_wM_16 C hd (inb_i n1) et2 dX8_runs_186 (fun H locs hd => ?_)
  refine lv_aload_n hx hb dX8_runs_187 rfl (lv_at hl 0 rfl) ?_
  refine gX8_64 C hd dX8_runs_188 ?_
  refine lv_iconst (v := 2) hx hb dX8_runs_191 ic_2 ?_
  refine lv_aload_n hx hb dX8_runs_192 rfl (lv_at hl 0 rfl) ?_
  refine lv_aload_n hx hb dX8_runs_193 rfl (lv_at hl 0 rfl) ?_
  refine gX8_73 C hd dX8_runs_194 ?_
  refine lv_iconst (v := 3) hx hb dX8_runs_197 ic_3 ?_
  refine ldc_wM_19 C hd cl_3 (inb_i (by decide +kernel)) dX8_runs_198 ?_
  obtain ⟨r3, er3, h⟩ := cal_e h
  refine rCallI C hd (c_X8_placeOf hE er3) kX8_217 0 rfl rfl rfl rfl hl.1 rfl (Nat.le_of_ble_eq_true rfl) ⟨(Nat.le_of_ble_eq_true rfl), (Nat.le_of_ble_eq_true rfl)⟩ ⟨Nat.le_refl _, Nat.le_refl _⟩ dX8_runs_199 (fun H locs hd => ?_)
  obtain ⟨t4, et4, h⟩ := bnd_e h
  refine stc_wM_16 C hd cl_2 (inb_i (by decide +kernel)) et4 dX8_runs_202 (fun H locs hd => ?_)
  refine lv_aload_n hx hb dX8_runs_203 rfl (lv_at hl 0 rfl) ?_
  refine gX8_64 C hd dX8_runs_204 ?_
  refine lv_iconst (v := 3) hx hb dX8_runs_207 ic_3 ?_
  refine lv_aload_n hx hb dX8_runs_208 rfl (lv_at hl 0 rfl) ?_
  refine gX8_73 C hd dX8_runs_209 ?_
  refine lv_iconst (v := 3) hx hb dX8_runs_212 ic_3 ?_
  refine ldc_wM_19 C hd cl_3 (inb_i (by decide +kernel)) dX8_runs_213 ?_
  obtain ⟨t5, et5, h⟩ := bnd_e h
  refine stc_wM_16 C hd cl_3 (inb_i (by decide +kernel)) et5 dX8_runs_214 (fun H locs hd => ?_)
  refine lv_aload_n hx hb dX8_runs_215 rfl (lv_at hl 0 rfl) ?_
  refine gX8_64 C hd dX8_runs_216 ?_
  refine lv_iconst (v := 4) hx hb dX8_runs_219 ic_4 ?_
  refine lv_aload_n hx hb dX8_runs_220 rfl (lv_at hl 0 rfl) ?_
  refine gX8_73 C hd dX8_runs_221 ?_
  refine lv_iconst (v := 5) hx hb dX8_runs_224 ic_5 ?_
  refine ldc_wM_19 C hd cl_5 (inb_i (by decide +kernel)) dX8_runs_225 ?_
  obtain ⟨t6, et6, h⟩ := bnd_e h
  refine stc_wM_16 C hd cl_4 (inb_i (by decide +kernel)) et6 dX8_runs_226 (fun H locs hd => ?_)
  refine lv_aload_n hx hb dX8_runs_227 rfl (lv_at hl 0 rfl) ?_
  refine gX8_64 C hd dX8_runs_228 ?_
  refine lv_iconst (v := 5) hx hb dX8_runs_231 ic_5 ?_
  refine lv_iload_n hx hb dX8_runs_232 rfl (lv_at hl 3 rfl) ?_
  obtain ⟨t7, et7, h⟩ := bnd_e h
  refine stc_wM_16 C hd cl_5 (inb_i (by decide +kernel)) et7 dX8_runs_233 (fun H locs hd => ?_)
  refine lv_aload_n hx hb dX8_runs_234 rfl (lv_at hl 0 rfl) ?_
  refine lv_iload hx hb dX8_runs_235 (lv_at hl 4 rfl) ?_
  refine lv_aload_n hx hb dX8_runs_237 rfl (lv_at hl 0 rfl) ?_
  refine lv_iload_n hx hb dX8_runs_238 rfl (lv_at hl 1 rfl) ?_
  refine lv_iconst (v := 0) hx hb dX8_runs_239 ic_0 ?_
  obtain ⟨r8, t9, et9, h⟩ := cal2_e h
  refine rCallI C hd (c_X8_termTold hE et9) kX8_220 0 rfl rfl rfl rfl hl.1 rfl (Nat.le_of_ble_eq_true rfl) ⟨(Nat.le_of_ble_eq_true rfl), (Nat.le_of_ble_eq_true rfl)⟩ ⟨Nat.le_refl _, Nat.le_refl _⟩ dX8_runs_240 (fun H locs hd => ?_)
  refine lv_aload_n hx hb dX8_runs_243 rfl (lv_at hl 0 rfl) ?_
  refine lv_iload_n hx hb dX8_runs_244 rfl (lv_at hl 1 rfl) ?_
  refine lv_iconst (v := 1) hx hb dX8_runs_245 ic_1 ?_
  obtain ⟨r10, t11, et11, h⟩ := cal2_e h
  refine rCallI C hd (c_X8_termTold hE et11) kX8_220 0 rfl rfl rfl rfl hl.1 rfl (Nat.le_of_ble_eq_true rfl) ⟨(Nat.le_of_ble_eq_true rfl), (Nat.le_of_ble_eq_true rfl)⟩ ⟨Nat.le_refl _, Nat.le_refl _⟩ dX8_runs_246 (fun H locs hd => ?_)
  refine lv_aload_n hx hb dX8_runs_249 rfl (lv_at hl 0 rfl) ?_
  refine lv_iload_n hx hb dX8_runs_250 rfl (lv_at hl 1 rfl) ?_
  refine lv_iconst (v := 2) hx hb dX8_runs_251 ic_2 ?_
  obtain ⟨r12, t13, et13, h⟩ := cal2_e h
  refine rCallI C hd (c_X8_termTold hE et13) kX8_220 0 rfl rfl rfl rfl hl.1 rfl (Nat.le_of_ble_eq_true rfl) ⟨(Nat.le_of_ble_eq_true rfl), (Nat.le_of_ble_eq_true rfl)⟩ ⟨Nat.le_refl _, Nat.le_refl _⟩ dX8_runs_252 (fun H locs hd => ?_)
  obtain ⟨r14, t15, et15, h⟩ := cal2_e h
  refine rCallI C hd (c_X8_tellDone hE et15) kX8_223 0 rfl rfl rfl rfl hl.1 rfl (Nat.le_of_ble_eq_true rfl) ⟨(Nat.le_of_ble_eq_true rfl), (Nat.le_of_ble_eq_true rfl)⟩ ⟨Nat.le_refl _, Nat.le_refl _⟩ dX8_runs_255 (fun H locs hd => ?_)
  refine lv_istore_n (lv' := [(3, .int r14), (0, .ref (ga g 40)), (1, .int x1), (2, .int x2), (4, .int x4)]) hx hb dX8_runs_258 rfl hl (Nat.le_of_ble_eq_true rfl) rfl (fun ls hl => ?_)
  exact w_X8_runs_259 C hr hk_6 t15 x1 x2 r14 h _ _ _ hd (lv_sub hl [1, 2, 3, 0] rfl)
noncomputable def f_X8_runs_163 (F : Nat) (k_6 : St → Int32 → Int32 → Int32 → Option St) (σ : St) (x1 : Int32) (x2 : Int32) (x3 : Int32) (x4 : Int32) (y0 : Int32) (y1 : Int32) : Option St :=
  if inb y1 6 = true then bnd (sr σ 16 y1.toNatClampNeg y0) (fun t2 => if x2 ≤ 1 then (f_X8_runs_186 F k_6 t2 x1 x2 x3 x4 0 1) else (if inb (x2 - 2) 3 = true then f_X8_runs_186 F k_6 t2 x1 x2 x3 x4 (t2.2.1 18 (x2 - 2).toNatClampNeg) 1 else none)) else none
set_option maxRecDepth 100000 in
set_option maxHeartbeats 4000000 in
theorem w_X8_runs_163 {F : Nat} {σ' : St}  (C : Cx g p s m args meth c cX8_runs 5 RX8) (hr : meth.sig.returnType = none)
    {k_6 : St → Int32 → Int32 → Int32 → Option St} (hk_6 : (∀ (σ : St) (x1 : Int32) (x2 : Int32) (x3 : Int32), k_6 σ x1 x2 x3 = some σ' → ∀ (H : Heap) (locs : List Loc) (ls : Array Slot), Dy g (wM g σ ++ X) s H locs → lv_has ls 5 [(0, .ref (ga g 40)), (1, .int x1), (2, .int x2), (3, .int x3)] → W p l e (rmD 8) s m args below meth c H locs 0 0 (QV g below args s (wM g σ' ++ X)) (F0 m 6 ls []))) :
    (∀ (σ : St) (x1 : Int32) (x2 : Int32) (x3 : Int32) (x4 : Int32) (y0 : Int32) (y1 : Int32), f_X8_runs_163 F k_6 σ x1 x2 x3 x4 y0 y1 = some σ' → ∀ (H : Heap) (locs : List Loc) (ls : Array Slot), Dy g (wM g σ ++ X) s H locs → lv_has ls 5 [(0, .ref (ga g 40)), (1, .int x1), (2, .int x2), (3, .int x3), (4, .int x4)] → W p l e (rmD 8) s m args below meth c H locs 0 0 (QV g below args s (wM g σ' ++ X)) (F0 m 163 ls [.int y0, .int y1, .ref (ga g 56)])) := by
  have hx := C.1
  have hb := C.2.1
  have hE := C.2.2.2.2.2.2.2.2
  intro σ x1 x2 x3 x4 y0 y1 h H locs ls hd hl
  rw [f_X8_runs_163] at h
  obtain ⟨n1, h⟩ := chk h
  obtain ⟨t2, et2, h⟩ := bnd_e h
  refine st_wM_16 C hd (inb_i n1) et2 dX8_runs_163 (fun H locs hd => ?_)
  refine lv_aload_n hx hb dX8_runs_164 rfl (lv_at hl 0 rfl) ?_
  refine gX8_64 C hd dX8_runs_165 ?_
  refine lv_iconst (v := 1) hx hb dX8_runs_168 ic_1 ?_
  refine lv_iload_n hx hb dX8_runs_169 rfl (lv_at hl 2 rfl) ?_
  refine lv_iconst (v := 1) hx hb dX8_runs_170 ic_1 ?_
  refine lv_icmp_le (tgt := 185) hx hb dX8_runs_171 (by decide) (fun c3 => ?_) (fun c3 => ?_)
  · replace h := iteT c3 h
    refine lv_iconst (v := 0) hx hb dX8_runs_185 ic_0 ?_
    exact w_X8_runs_186 C hr hk_6 t2 x1 x2 x3 x4 0 1 h _ _ _ hd (lv_sub hl [0, 1, 2, 3, 4] rfl)
  · replace h := iteF c3 h
    refine lv_aload_n hx hb dX8_runs_174 rfl (lv_at hl 0 rfl) ?_
    refine gX8_70 C hd dX8_runs_175 ?_
    refine lv_iload_n hx hb dX8_runs_178 rfl (lv_at hl 2 rfl) ?_
    refine lv_iconst (v := 2) hx hb dX8_runs_179 ic_2 ?_
    refine lv_isub hx hb dX8_runs_180 ?_
    obtain ⟨n4, h⟩ := chk h
    refine ld_wM_18 C hd (inb_i n4) dX8_runs_181 ?_
    refine lv_goto (tgt := 186) hx hb dX8_runs_182 (by decide) ?_
    exact w_X8_runs_186 C hr hk_6 t2 x1 x2 x3 x4 (t2.2.1 18 (x2 - 2).toNatClampNeg) 1 h _ _ _ hd (lv_sub hl [0, 1, 2, 3, 4] rfl)
noncomputable def f_X8_runs_6 (F : Nat) : Nat → St → Int32 → Int32 → Int32 → Option St
  | 0, _, _, _, _ => none
  | n + 1, σ, x1, x2, x3 => if (σ.1 11) ≤ x1 then (some σ) else (if 300 ≤ (σ.2.1 19 6) then (some σ) else (if inb x1 210 = true then bnd (σ.2.1 8 x1.toNatClampNeg) (fun v4 => if v4 = 10 then (if inb x1 210 = true then if (σ.2.1 10 x1.toNatClampNeg) = 0 then (if inb x1 210 = true then bnd (σ.2.1 11 x1.toNatClampNeg) (fun v26 => f_X8_runs_259 F (f_X8_runs_6 F n) σ v26 x2 x3) else none) else (if inb x2 3 = true then bnd (sr σ 18 x2.toNatClampNeg 0) (fun t23 => bnd (x2 + 1) (fun v24 => f_X8_runs_259 F (f_X8_runs_6 F n) t23 x1 v24 x3)) else none) else none) else (if v4 = 11 then (if inb (x2 - 1) 3 = true then if inb (x2 - 1) 3 = true then bnd (sr σ 18 (x2 - 1).toNatClampNeg ((σ.2.1 18 (x2 - 1).toNatClampNeg) + 1)) (fun t12 => if inb (x2 - 1) 3 = true then if inb x1 210 = true then if inb (t12.2.1 11 x1.toNatClampNeg) 210 = true then if (t12.2.1 10 (t12.2.1 11 x1.toNatClampNeg).toNatClampNeg) ≤ (t12.2.1 18 (x2 - 1).toNatClampNeg) then (bnd (x2 + (-1 : Int32)) (fun v17 => f_X8_runs_259 F (f_X8_runs_6 F n) t12 x1 v17 x3)) else (if inb x1 210 = true then bnd (t12.2.1 11 x1.toNatClampNeg) (fun v19 => f_X8_runs_259 F (f_X8_runs_6 F n) t12 v19 x2 x3) else none) else none else none else none) else none else none) else (bnd (sr σ 19 6 ((σ.2.1 19 6) + 1)) (fun t7 => if x2 ≤ 0 then (f_X8_runs_163 F (f_X8_runs_6 F n) t7 x1 x2 x3 v4 0 0) else (if inb (x2 - 1) 3 = true then f_X8_runs_163 F (f_X8_runs_6 F n) t7 x1 x2 x3 v4 (t7.2.1 18 (x2 - 1).toNatClampNeg) 0 else none))))) else none))
set_option maxRecDepth 100000 in
set_option maxHeartbeats 4000000 in
theorem w_X8_runs_6 {F : Nat} {σ' : St}  (C : Cx g p s m args meth c cX8_runs 5 RX8) (hr : meth.sig.returnType = none) :
    (∀ (n : Nat) (σ : St) (x1 : Int32) (x2 : Int32) (x3 : Int32), f_X8_runs_6 F n σ x1 x2 x3 = some σ' → ∀ (H : Heap) (locs : List Loc) (ls : Array Slot), Dy g (wM g σ ++ X) s H locs → lv_has ls 5 [(0, .ref (ga g 40)), (1, .int x1), (2, .int x2), (3, .int x3)] → W p l e (rmD 8) s m args below meth c H locs 0 0 (QV g below args s (wM g σ' ++ X)) (F0 m 6 ls [])) := by
  have hx := C.1
  have hb := C.2.1
  have hE := C.2.2.2.2.2.2.2.2
  intro n
  induction n with
  | zero =>
    intro σ x1 x2 x3 h
    cases h
  | succ n ih =>
    intro σ x1 x2 x3 h H locs ls hd hl
    rw [f_X8_runs_6] at h
    refine lv_iload_n hx hb dX8_runs_6 rfl (lv_at hl 1 rfl) ?_
    refine lv_aload_n hx hb dX8_runs_7 rfl (lv_at hl 0 rfl) ?_
    refine gX8_165 C hd dX8_runs_8 ?_
    refine lv_icmp_ge (tgt := 265) hx hb dX8_runs_11 (by decide) (fun c1 => ?_) (fun c1 => ?_)
    · replace h := iteT c1 h
      exact rVretS (w := wM g) C hr hd h dX8_runs_265
    · replace h := iteF c1 h
      refine lv_aload_n hx hb dX8_runs_14 rfl (lv_at hl 0 rfl) ?_
      refine gX8_73 C hd dX8_runs_15 ?_
      refine lv_bipush (v := 6) hx hb dX8_runs_18 bi_6 ?_
      refine ldc_wM_19 C hd cl_6 (inb_i (by decide +kernel)) dX8_runs_20 ?_
      refine lv_sipush (v := 300) hx hb dX8_runs_21 si_300 ?_
      refine lv_icmp_ge (tgt := 265) hx hb dX8_runs_24 (by decide) (fun c2 => ?_) (fun c2 => ?_)
      · replace h := iteT c2 h
        exact rVretS (w := wM g) C hr hd h dX8_runs_265
      · replace h := iteF c2 h
        refine lv_aload_n hx hb dX8_runs_27 rfl (lv_at hl 0 rfl) ?_
        refine gX8_40 C hd dX8_runs_28 ?_
        refine lv_iload_n hx hb dX8_runs_31 rfl (lv_at hl 1 rfl) ?_
        obtain ⟨n3, h⟩ := chk h
        refine ld_wM_8 C hd (inb_i n3) dX8_runs_32 ?_
        obtain ⟨v4, ev4, h⟩ := bnd_e h
        refine rTop ev4 ?_
        refine lv_istore (lv' := [(4, .int v4), (0, .ref (ga g 40)), (1, .int x1), (2, .int x2), (3, .int x3)]) hx hb dX8_runs_33 hl (Nat.le_of_ble_eq_true rfl) rfl (fun ls hl => ?_)
        refine lv_iload hx hb dX8_runs_35 (lv_at hl 0 rfl) ?_
        refine lv_bipush (v := 10) hx hb dX8_runs_37 bi_10 ?_
        refine lv_icmp_ne (tgt := 74) hx hb dX8_runs_39 (by decide) (fun c5 => ?_) (fun c5 => ?_)
        · replace h := iteF c5 h
          refine lv_iload hx hb dX8_runs_74 (lv_at hl 0 rfl) ?_
          refine lv_bipush (v := 11) hx hb dX8_runs_76 bi_11 ?_
          refine lv_icmp_ne (tgt := 131) hx hb dX8_runs_78 (by decide) (fun c6 => ?_) (fun c6 => ?_)
          · replace h := iteF c6 h
            refine lv_aload_n hx hb dX8_runs_131 rfl (lv_at hl 1 rfl) ?_
            refine gX8_73 C hd dX8_runs_132 ?_
            refine lv_bipush (v := 6) hx hb dX8_runs_135 bi_6 ?_
            refine lv_dup2_11 hx hb dX8_runs_137 rfl rfl ?_
            refine ldc_wM_19 C hd cl_6 (inb_i (by decide +kernel)) dX8_runs_138 ?_
            refine lv_iconst (v := 1) hx hb dX8_runs_139 ic_1 ?_
            refine lv_iadd hx hb dX8_runs_140 ?_
            obtain ⟨t7, et7, h⟩ := bnd_e h
            refine stc_wM_19 C hd cl_6 (inb_i (by decide +kernel)) et7 dX8_runs_141 (fun H locs hd => ?_)
            refine lv_aload_n hx hb dX8_runs_142 rfl (lv_at hl 1 rfl) ?_
            refine gX8_64 C hd dX8_runs_143 ?_
            refine lv_iconst (v := 0) hx hb dX8_runs_146 ic_0 ?_
            refine lv_iload_n hx hb dX8_runs_147 rfl (lv_at hl 3 rfl) ?_
            refine lv_if_le (tgt := 162) hx hb dX8_runs_148 (by decide) (fun c8 => ?_) (fun c8 => ?_)
            · replace h := iteT c8 h
              refine lv_iconst (v := 0) hx hb dX8_runs_162 ic_0 ?_
              exact w_X8_runs_163 C hr ih t7 x1 x2 x3 v4 0 0 h _ _ _ hd (lv_sub hl [1, 2, 3, 4, 0] rfl)
            · replace h := iteF c8 h
              refine lv_aload_n hx hb dX8_runs_151 rfl (lv_at hl 1 rfl) ?_
              refine gX8_70 C hd dX8_runs_152 ?_
              refine lv_iload_n hx hb dX8_runs_155 rfl (lv_at hl 3 rfl) ?_
              refine lv_iconst (v := 1) hx hb dX8_runs_156 ic_1 ?_
              refine lv_isub hx hb dX8_runs_157 ?_
              obtain ⟨n9, h⟩ := chk h
              refine ld_wM_18 C hd (inb_i n9) dX8_runs_158 ?_
              refine lv_goto (tgt := 163) hx hb dX8_runs_159 (by decide) ?_
              exact w_X8_runs_163 C hr ih t7 x1 x2 x3 v4 (t7.2.1 18 (x2 - 1).toNatClampNeg) 0 h _ _ _ hd (lv_sub hl [1, 2, 3, 4, 0] rfl)
          · replace h := iteT c6 h
            refine lv_aload_n hx hb dX8_runs_81 rfl (lv_at hl 1 rfl) ?_
            refine gX8_70 C hd dX8_runs_82 ?_
            refine lv_iload_n hx hb dX8_runs_85 rfl (lv_at hl 3 rfl) ?_
            refine lv_iconst (v := 1) hx hb dX8_runs_86 ic_1 ?_
            refine lv_isub hx hb dX8_runs_87 ?_
            refine lv_dup2_11 hx hb dX8_runs_88 rfl rfl ?_
            obtain ⟨n10, h⟩ := chk h
            refine ld_wM_18 C hd (inb_i n10) dX8_runs_89 ?_
            refine lv_iconst (v := 1) hx hb dX8_runs_90 ic_1 ?_
            refine lv_iadd hx hb dX8_runs_91 ?_
            obtain ⟨n11, h⟩ := chk h
            obtain ⟨t12, et12, h⟩ := bnd_e h
            refine st_wM_18 C hd (inb_i n11) et12 dX8_runs_92 (fun H locs hd => ?_)
            refine lv_aload_n hx hb dX8_runs_93 rfl (lv_at hl 1 rfl) ?_
            refine gX8_70 C hd dX8_runs_94 ?_
            refine lv_iload_n hx hb dX8_runs_97 rfl (lv_at hl 3 rfl) ?_
            refine lv_iconst (v := 1) hx hb dX8_runs_98 ic_1 ?_
            refine lv_isub hx hb dX8_runs_99 ?_
            obtain ⟨n13, h⟩ := chk h
            refine ld_wM_18 C hd (inb_i n13) dX8_runs_100 ?_
            refine lv_aload_n hx hb dX8_runs_101 rfl (lv_at hl 1 rfl) ?_
            refine gX8_46 C hd dX8_runs_102 ?_
            refine lv_aload_n hx hb dX8_runs_105 rfl (lv_at hl 1 rfl) ?_
            refine gX8_49 C hd dX8_runs_106 ?_
            refine lv_iload_n hx hb dX8_runs_109 rfl (lv_at hl 2 rfl) ?_
            obtain ⟨n14, h⟩ := chk h
            refine ld_wM_11 C hd (inb_i n14) dX8_runs_110 ?_
            obtain ⟨n15, h⟩ := chk h
            refine ld_wM_10 C hd (inb_i n15) dX8_runs_111 ?_
            refine lv_icmp_ge (tgt := 125) hx hb dX8_runs_112 (by decide) (fun c16 => ?_) (fun c16 => ?_)
            · replace h := iteT c16 h
              obtain ⟨v17, ev17, h⟩ := bnd_e h
              refine lv_iinc (v := v17) (lv' := [(2, .int v17), (4, .int v4), (0, .ref (ga g 40)), (1, .int x1), (3, .int x3)]) hx hb dX8_runs_125 hl (k := 3) rfl ((ii_m1 _).trans ev17.symm) (Nat.le_of_ble_eq_true rfl) rfl (fun ls hl => ?_)
              refine lv_goto (tgt := 259) hx hb dX8_runs_128 (by decide) ?_
              exact w_X8_runs_259 C hr ih t12 x1 v17 x3 h _ _ _ hd (lv_sub hl [2, 3, 0, 4] rfl)
            · replace h := iteF c16 h
              refine lv_aload_n hx hb dX8_runs_115 rfl (lv_at hl 1 rfl) ?_
              refine gX8_49 C hd dX8_runs_116 ?_
              refine lv_iload_n hx hb dX8_runs_119 rfl (lv_at hl 2 rfl) ?_
              obtain ⟨n18, h⟩ := chk h
              refine ld_wM_11 C hd (inb_i n18) dX8_runs_120 ?_
              obtain ⟨v19, ev19, h⟩ := bnd_e h
              refine rTop ev19 ?_
              refine lv_istore_n (lv' := [(1, .int v19), (4, .int v4), (0, .ref (ga g 40)), (2, .int x2), (3, .int x3)]) hx hb dX8_runs_121 rfl hl (Nat.le_of_ble_eq_true rfl) rfl (fun ls hl => ?_)
              refine lv_goto (tgt := 259) hx hb dX8_runs_122 (by decide) ?_
              exact w_X8_runs_259 C hr ih t12 v19 x2 x3 h _ _ _ hd (lv_sub hl [2, 0, 3, 4] rfl)
        · replace h := iteT c5 h
          refine lv_aload_n hx hb dX8_runs_42 rfl (lv_at hl 1 rfl) ?_
          refine gX8_46 C hd dX8_runs_43 ?_
          refine lv_iload_n hx hb dX8_runs_46 rfl (lv_at hl 2 rfl) ?_
          obtain ⟨n20, h⟩ := chk h
          refine ld_wM_10 C hd (inb_i n20) dX8_runs_47 ?_
          refine lv_if_ne (tgt := 61) hx hb dX8_runs_48 (by decide) (fun c21 => ?_) (fun c21 => ?_)
          · replace h := iteF c21 h
            refine lv_aload_n hx hb dX8_runs_61 rfl (lv_at hl 1 rfl) ?_
            refine gX8_70 C hd dX8_runs_62 ?_
            refine lv_iload_n hx hb dX8_runs_65 rfl (lv_at hl 3 rfl) ?_
            refine lv_iconst (v := 0) hx hb dX8_runs_66 ic_0 ?_
            obtain ⟨n22, h⟩ := chk h
            obtain ⟨t23, et23, h⟩ := bnd_e h
            refine st_wM_18 C hd (inb_i n22) et23 dX8_runs_67 (fun H locs hd => ?_)
            obtain ⟨v24, ev24, h⟩ := bnd_e h
            refine lv_iinc (v := v24) (lv' := [(2, .int v24), (4, .int v4), (0, .ref (ga g 40)), (1, .int x1), (3, .int x3)]) hx hb dX8_runs_68 hl (k := 3) rfl ((ii_1 _).trans ev24.symm) (Nat.le_of_ble_eq_true rfl) rfl (fun ls hl => ?_)
            refine lv_goto (tgt := 259) hx hb dX8_runs_71 (by decide) ?_
            exact w_X8_runs_259 C hr ih t23 x1 v24 x3 h _ _ _ hd (lv_sub hl [2, 3, 0, 4] rfl)
          · replace h := iteT c21 h
            refine lv_aload_n hx hb dX8_runs_51 rfl (lv_at hl 1 rfl) ?_
            refine gX8_49 C hd dX8_runs_52 ?_
            refine lv_iload_n hx hb dX8_runs_55 rfl (lv_at hl 2 rfl) ?_
            obtain ⟨n25, h⟩ := chk h
            refine ld_wM_11 C hd (inb_i n25) dX8_runs_56 ?_
            obtain ⟨v26, ev26, h⟩ := bnd_e h
            refine rTop ev26 ?_
            refine lv_istore_n (lv' := [(1, .int v26), (4, .int v4), (0, .ref (ga g 40)), (2, .int x2), (3, .int x3)]) hx hb dX8_runs_57 rfl hl (Nat.le_of_ble_eq_true rfl) rfl (fun ls hl => ?_)
            refine lv_goto (tgt := 259) hx hb dX8_runs_58 (by decide) ?_
            exact w_X8_runs_259 C hr ih σ v26 x2 x3 h _ _ _ hd (lv_sub hl [2, 0, 3, 4] rfl)
noncomputable def f_X8_runs (F : Nat) (σ : St) : Option St :=
  f_X8_runs_6 F F σ 0 0 0
set_option maxRecDepth 100000 in
set_option maxHeartbeats 4000000 in
theorem c_X8_runs {l : Launch} {g : Gp} {X : va_W} (hE : E0 g) {F : Nat} {σ' : St} {σ : St} (h : f_X8_runs F σ = some σ') : Cv l g yX8_runs cX8_runs 5 8 [.ref (ga g 40)] (wM g σ ++ X) (wM g σ' ++ X) := by
  refine rHead hE (by decide +kernel) (Nat.le_of_ble_eq_true rfl) (fun p e s m below meth c C hr _ hd ls hl => ?_)
  have hx := C.1
  have hb := C.2.1
  have hl : lv_has ls 5 [(0, .ref (ga g 40))] := hl
  generalize ([.ref (ga g 40)] : List Value).toArray = args at C ⊢
  have C : Cx g p s m args meth c cX8_runs 5 RX8 := C
  rw [f_X8_runs] at h
  refine lv_iconst (v := 0) hx hb dX8_runs_0 ic_0 ?_
  refine lv_istore_n (lv' := [(1, .int 0), (0, .ref (ga g 40))]) hx hb dX8_runs_1 rfl hl (Nat.le_of_ble_eq_true rfl) rfl (fun ls hl => ?_)
  refine lv_iconst (v := 0) hx hb dX8_runs_2 ic_0 ?_
  refine lv_istore_n (lv' := [(2, .int 0), (1, .int 0), (0, .ref (ga g 40))]) hx hb dX8_runs_3 rfl hl (Nat.le_of_ble_eq_true rfl) rfl (fun ls hl => ?_)
  refine lv_iconst (v := 0) hx hb dX8_runs_4 ic_0 ?_
  refine lv_istore_n (lv' := [(3, .int 0), (2, .int 0), (1, .int 0), (0, .ref (ga g 40))]) hx hb dX8_runs_5 rfl hl (Nat.le_of_ble_eq_true rfl) rfl (fun ls hl => ?_)
  exact w_X8_runs_6 C hr _ σ 0 0 0 h _ _ _ hd (lv_sub hl [3, 2, 1, 0] rfl)
noncomputable def f_X8_read_208 (F : Nat) : Nat → St → Int32 → Option (Int32 × St)
  | 0, _, _ => none
  | n + 1, σ, x3 => if 3 ≤ x3 then (cal (f_X8_runs F σ) (fun t2 => some (0, t2))) else (if inb x3 3 = true then bnd (sr σ 22 x3.toNatClampNeg (vp_nar .boolean 0)) (fun t4 => bnd (x3 + 1) (fun v5 => f_X8_read_208 F n t4 v5)) else none)
set_option maxRecDepth 100000 in
set_option maxHeartbeats 4000000 in
theorem w_X8_read_208 {F : Nat} {r' : Int32} {σ' : St}  (C : Cx g p s m args meth c cX8_read 4 RX8) (hr : meth.sig.returnType = some .int) :
    (∀ (n : Nat) (σ : St) (x3 : Int32), f_X8_read_208 F n σ x3 = some (r', σ') → ∀ (H : Heap) (locs : List Loc) (ls : Array Slot), Dy g (wM g σ ++ X) s H locs → lv_has ls 4 [(0, .ref (ga g 40)), (3, .int x3)] → W p l e (rmD 9) s m args below meth c H locs 0 0 (QI g below args s (wM g σ' ++ X) r') (F0 m 208 ls [])) := by
  have hx := C.1
  have hb := C.2.1
  have hE := C.2.2.2.2.2.2.2.2
  intro n
  induction n with
  | zero =>
    intro σ x3 h
    cases h
  | succ n ih =>
    intro σ x3 h H locs ls hd hl
    rw [f_X8_read_208] at h
    refine lv_iload_n hx hb dX8_read_208 rfl (lv_at hl 1 rfl) ?_
    refine lv_iconst (v := 3) hx hb dX8_read_209 ic_3 ?_
    refine lv_icmp_ge (tgt := 226) hx hb dX8_read_210 (by decide) (fun c1 => ?_) (fun c1 => ?_)
    · replace h := iteT c1 h
      refine lv_aload_n hx hb dX8_read_226 rfl (lv_at hl 0 rfl) ?_
      obtain ⟨t2, et2, h⟩ := cal_e h
      refine rCallV C hd (c_X8_runs hE et2) kX8_181 0 rfl rfl rfl rfl hl.1 rfl (Nat.le_of_ble_eq_true rfl) ⟨(Nat.le_of_ble_eq_true rfl), (Nat.le_of_ble_eq_true rfl)⟩ ⟨Nat.le_refl _, Nat.le_refl _⟩ dX8_read_227 (fun H locs hd => ?_)
      refine lv_iconst (v := 0) hx hb dX8_read_230 ic_0 ?_
      exact rIretS (w := wM g) C hr hd h dX8_read_231
    · replace h := iteF c1 h
      refine lv_aload_n hx hb dX8_read_213 rfl (lv_at hl 0 rfl) ?_
      refine gX8_82 C hd dX8_read_214 ?_
      refine lv_iload_n hx hb dX8_read_217 rfl (lv_at hl 1 rfl) ?_
      refine lv_iconst (v := 0) hx hb dX8_read_218 ic_0 ?_
      obtain ⟨n3, h⟩ := chk h
      obtain ⟨t4, et4, h⟩ := bnd_e h
      refine st_wM_22 C hd (inb_i n3) et4 dX8_read_219 (fun H locs hd => ?_)
      obtain ⟨v5, ev5, h⟩ := bnd_e h
      refine lv_iinc (v := v5) (lv' := [(3, .int v5), (0, .ref (ga g 40))]) hx hb dX8_read_220 hl (k := 1) rfl ((ii_1 _).trans ev5.symm) (Nat.le_of_ble_eq_true rfl) rfl (fun ls hl => ?_)
      refine lv_goto (tgt := 208) hx hb dX8_read_223 (by decide) ?_
      exact ih t4 v5 h _ _ _ hd (lv_sub hl [1, 0] rfl)
noncomputable def f_X8_read_173 (F : Nat) (σ : St) (x1 : Int32) (x2 : Int32) (y0 : Int32) : Option (Int32 × St) :=
  bnd (ss σ 10 y0) (fun t1 => if (t1.1 6) ≤ 0 then (if (t1.1 8) ≤ 0 then (cal (f_X8_begins F t1 x1 x2) (fun t4 => f_X8_read_208 F F t4 0)) else (some ((t1.1 8), t1))) else (some ((t1.1 6), t1)))
set_option maxRecDepth 100000 in
set_option maxHeartbeats 4000000 in
theorem w_X8_read_173 {F : Nat} {r' : Int32} {σ' : St}  (C : Cx g p s m args meth c cX8_read 4 RX8) (hr : meth.sig.returnType = some .int) :
    (∀ (σ : St) (x1 : Int32) (x2 : Int32) (y0 : Int32), f_X8_read_173 F σ x1 x2 y0 = some (r', σ') → ∀ (H : Heap) (locs : List Loc) (ls : Array Slot), Dy g (wM g σ ++ X) s H locs → lv_has ls 4 [(0, .ref (ga g 40)), (1, .int x1), (2, .int x2)] → W p l e (rmD 9) s m args below meth c H locs 0 0 (QI g below args s (wM g σ' ++ X) r') (F0 m 173 ls [.int y0, .ref (ga g 40)])) := by
  have hx := C.1
  have hb := C.2.1
  have hE := C.2.2.2.2.2.2.2.2
  intro σ x1 x2 y0 h H locs ls hd hl
  rw [f_X8_read_173] at h
  obtain ⟨t1, et1, h⟩ := bnd_e h
  refine pX8_37 C hd et1 dX8_read_173 (fun H locs hd => ?_)
  refine lv_aload_n hx hb dX8_read_176 rfl (lv_at hl 0 rfl) ?_
  refine gX8_135 C hd dX8_read_177 ?_
  refine lv_if_le (tgt := 188) hx hb dX8_read_180 (by decide) (fun c2 => ?_) (fun c2 => ?_)
  · replace h := iteT c2 h
    refine lv_aload_n hx hb dX8_read_188 rfl (lv_at hl 0 rfl) ?_
    refine gX8_144 C hd dX8_read_189 ?_
    refine lv_if_le (tgt := 200) hx hb dX8_read_192 (by decide) (fun c3 => ?_) (fun c3 => ?_)
    · replace h := iteT c3 h
      refine lv_aload_n hx hb dX8_read_200 rfl (lv_at hl 0 rfl) ?_
      refine lv_iload_n hx hb dX8_read_201 rfl (lv_at hl 1 rfl) ?_
      refine lv_iload_n hx hb dX8_read_202 rfl (lv_at hl 2 rfl) ?_
      obtain ⟨t4, et4, h⟩ := cal_e h
      refine rCallV C hd (c_X8_begins hE et4) kX8_93 0 rfl rfl rfl rfl hl.1 rfl (Nat.le_of_ble_eq_true rfl) ⟨(Nat.le_of_ble_eq_true rfl), (Nat.le_of_ble_eq_true rfl)⟩ ⟨Nat.le_refl _, Nat.le_refl _⟩ dX8_read_203 (fun H locs hd => ?_)
      refine lv_iconst (v := 0) hx hb dX8_read_206 ic_0 ?_
      refine lv_istore_n (lv' := [(3, .int 0), (0, .ref (ga g 40)), (1, .int x1), (2, .int x2)]) hx hb dX8_read_207 rfl hl (Nat.le_of_ble_eq_true rfl) rfl (fun ls hl => ?_)
      exact w_X8_read_208 C hr _ t4 0 h _ _ _ hd (lv_sub hl [1, 0] rfl)
    · replace h := iteF c3 h
      refine lv_aload_n hx hb dX8_read_195 rfl (lv_at hl 0 rfl) ?_
      refine gX8_144 C hd dX8_read_196 ?_
      exact rIretS (w := wM g) C hr hd h dX8_read_199
  · replace h := iteF c2 h
    refine lv_aload_n hx hb dX8_read_183 rfl (lv_at hl 0 rfl) ?_
    refine gX8_135 C hd dX8_read_184 ?_
    exact rIretS (w := wM g) C hr hd h dX8_read_187
noncomputable def f_X8_read_143 (F : Nat) (σ : St) (x1 : Int32) (x2 : Int32) : Option (Int32 × St) :=
  if (σ.1 6) ≤ 0 then (if (σ.1 8) ≤ 0 then (f_X8_read_173 F σ x1 x2 (-1 : Int32)) else (f_X8_read_173 F σ x1 x2 (σ.1 9))) else (f_X8_read_173 F σ x1 x2 (σ.1 7))
set_option maxRecDepth 100000 in
set_option maxHeartbeats 4000000 in
theorem w_X8_read_143 {F : Nat} {r' : Int32} {σ' : St}  (C : Cx g p s m args meth c cX8_read 4 RX8) (hr : meth.sig.returnType = some .int) :
    (∀ (σ : St) (x1 : Int32) (x2 : Int32), f_X8_read_143 F σ x1 x2 = some (r', σ') → ∀ (H : Heap) (locs : List Loc) (ls : Array Slot), Dy g (wM g σ ++ X) s H locs → lv_has ls 4 [(0, .ref (ga g 40)), (1, .int x1), (2, .int x2)] → W p l e (rmD 9) s m args below meth c H locs 0 0 (QI g below args s (wM g σ' ++ X) r') (F0 m 143 ls [])) := by
  have hx := C.1
  have hb := C.2.1
  have hE := C.2.2.2.2.2.2.2.2
  intro σ x1 x2 h H locs ls hd hl
  rw [f_X8_read_143] at h
  refine lv_aload_n hx hb dX8_read_143 rfl (lv_at hl 0 rfl) ?_
  refine lv_aload_n hx hb dX8_read_144 rfl (lv_at hl 0 rfl) ?_
  refine gX8_135 C hd dX8_read_145 ?_
  refine lv_if_le (tgt := 158) hx hb dX8_read_148 (by decide) (fun c1 => ?_) (fun c1 => ?_)
  · replace h := iteT c1 h
    refine lv_aload_n hx hb dX8_read_158 rfl (lv_at hl 0 rfl) ?_
    refine gX8_144 C hd dX8_read_159 ?_
    refine lv_if_le (tgt := 172) hx hb dX8_read_162 (by decide) (fun c2 => ?_) (fun c2 => ?_)
    · replace h := iteT c2 h
      refine lv_iconst (v := (-1 : Int32)) hx hb dX8_read_172 ic_m1 ?_
      exact w_X8_read_173 C hr σ x1 x2 (-1 : Int32) h _ _ _ hd (lv_sub hl [0, 1, 2] rfl)
    · replace h := iteF c2 h
      refine lv_aload_n hx hb dX8_read_165 rfl (lv_at hl 0 rfl) ?_
      refine gX8_147 C hd dX8_read_166 ?_
      refine lv_goto (tgt := 173) hx hb dX8_read_169 (by decide) ?_
      exact w_X8_read_173 C hr σ x1 x2 (σ.1 9) h _ _ _ hd (lv_sub hl [0, 1, 2] rfl)
  · replace h := iteF c1 h
    refine lv_aload_n hx hb dX8_read_151 rfl (lv_at hl 0 rfl) ?_
    refine gX8_141 C hd dX8_read_152 ?_
    refine lv_goto (tgt := 173) hx hb dX8_read_155 (by decide) ?_
    exact w_X8_read_173 C hr σ x1 x2 (σ.1 7) h _ _ _ hd (lv_sub hl [0, 1, 2] rfl)
noncomputable def f_X8_read_124 (F : Nat) (σ : St) (x1 : Int32) (x2 : Int32) : Option (Int32 × St) :=
  if (σ.1 6) = 0 then (if (σ.1 12) ≤ 0 then (f_X8_read_143 F σ x1 x2) else (cal (f_X8_fail F σ 1) (fun t3 => f_X8_read_143 F t3 x1 x2))) else (f_X8_read_143 F σ x1 x2)
set_option maxRecDepth 100000 in
set_option maxHeartbeats 4000000 in
theorem w_X8_read_124 {F : Nat} {r' : Int32} {σ' : St}  (C : Cx g p s m args meth c cX8_read 4 RX8) (hr : meth.sig.returnType = some .int) :
    (∀ (σ : St) (x1 : Int32) (x2 : Int32), f_X8_read_124 F σ x1 x2 = some (r', σ') → ∀ (H : Heap) (locs : List Loc) (ls : Array Slot), Dy g (wM g σ ++ X) s H locs → lv_has ls 4 [(0, .ref (ga g 40)), (1, .int x1), (2, .int x2)] → W p l e (rmD 9) s m args below meth c H locs 0 0 (QI g below args s (wM g σ' ++ X) r') (F0 m 124 ls [])) := by
  have hx := C.1
  have hb := C.2.1
  have hE := C.2.2.2.2.2.2.2.2
  intro σ x1 x2 h H locs ls hd hl
  rw [f_X8_read_124] at h
  refine lv_aload_n hx hb dX8_read_124 rfl (lv_at hl 0 rfl) ?_
  refine gX8_135 C hd dX8_read_125 ?_
  refine lv_if_ne (tgt := 143) hx hb dX8_read_128 (by decide) (fun c1 => ?_) (fun c1 => ?_)
  · replace h := iteF c1 h
    exact w_X8_read_143 C hr σ x1 x2 h _ _ _ hd (lv_sub hl [0, 1, 2] rfl)
  · replace h := iteT c1 h
    refine lv_aload_n hx hb dX8_read_131 rfl (lv_at hl 0 rfl) ?_
    refine gX8_168 C hd dX8_read_132 ?_
    refine lv_if_le (tgt := 143) hx hb dX8_read_135 (by decide) (fun c2 => ?_) (fun c2 => ?_)
    · replace h := iteT c2 h
      exact w_X8_read_143 C hr σ x1 x2 h _ _ _ hd (lv_sub hl [0, 1, 2] rfl)
    · replace h := iteF c2 h
      refine lv_aload_n hx hb dX8_read_138 rfl (lv_at hl 0 rfl) ?_
      refine lv_iconst (v := 1) hx hb dX8_read_139 ic_1 ?_
      obtain ⟨t3, et3, h⟩ := cal_e h
      refine rCallV C hd (c_X8_fail hE et3) kX8_150 0 rfl rfl rfl rfl hl.1 rfl (Nat.le_of_ble_eq_true rfl) ⟨(Nat.le_of_ble_eq_true rfl), (Nat.le_of_ble_eq_true rfl)⟩ ⟨Nat.le_refl _, Nat.le_refl _⟩ dX8_read_140 (fun H locs hd => ?_)
      exact w_X8_read_143 C hr t3 x1 x2 h _ _ _ hd (lv_sub hl [0, 1, 2] rfl)
noncomputable def f_X8_read_102 (F : Nat) : Nat → St → Int32 → Int32 → Option (Int32 × St)
  | 0, _, _, _ => none
  | n + 1, σ, x1, x2 => if (σ.1 6) = 0 then (cal (f_X8_is F σ 0) (fun r2 => if r2 = 0 then (cal (f_X8_tellOne F σ) (fun t4 => f_X8_read_102 F n t4 x1 x2)) else (f_X8_read_124 F σ x1 x2))) else (f_X8_read_124 F σ x1 x2)
set_option maxRecDepth 100000 in
set_option maxHeartbeats 4000000 in
theorem w_X8_read_102 {F : Nat} {r' : Int32} {σ' : St}  (C : Cx g p s m args meth c cX8_read 4 RX8) (hr : meth.sig.returnType = some .int) :
    (∀ (n : Nat) (σ : St) (x1 : Int32) (x2 : Int32), f_X8_read_102 F n σ x1 x2 = some (r', σ') → ∀ (H : Heap) (locs : List Loc) (ls : Array Slot), Dy g (wM g σ ++ X) s H locs → lv_has ls 4 [(0, .ref (ga g 40)), (1, .int x1), (2, .int x2)] → W p l e (rmD 9) s m args below meth c H locs 0 0 (QI g below args s (wM g σ' ++ X) r') (F0 m 102 ls [])) := by
  have hx := C.1
  have hb := C.2.1
  have hE := C.2.2.2.2.2.2.2.2
  intro n
  induction n with
  | zero =>
    intro σ x1 x2 h
    cases h
  | succ n ih =>
    intro σ x1 x2 h H locs ls hd hl
    rw [f_X8_read_102] at h
    refine lv_aload_n hx hb dX8_read_102 rfl (lv_at hl 0 rfl) ?_
    refine gX8_135 C hd dX8_read_103 ?_
    refine lv_if_ne (tgt := 124) hx hb dX8_read_106 (by decide) (fun c1 => ?_) (fun c1 => ?_)
    · replace h := iteF c1 h
      exact w_X8_read_124 C hr σ x1 x2 h _ _ _ hd (lv_sub hl [0, 1, 2] rfl)
    · replace h := iteT c1 h
      refine lv_aload_n hx hb dX8_read_109 rfl (lv_at hl 0 rfl) ?_
      refine lv_iconst (v := 0) hx hb dX8_read_110 ic_0 ?_
      obtain ⟨r2, er2, h⟩ := cal_e h
      refine rCallI C hd (c_X8_is hE er2) kX8_153 0 rfl rfl rfl rfl hl.1 rfl (Nat.le_of_ble_eq_true rfl) ⟨(Nat.le_of_ble_eq_true rfl), (Nat.le_of_ble_eq_true rfl)⟩ ⟨Nat.le_refl _, Nat.le_refl _⟩ dX8_read_111 (fun H locs hd => ?_)
      refine lv_if_ne (tgt := 124) hx hb dX8_read_114 (by decide) (fun c3 => ?_) (fun c3 => ?_)
      · replace h := iteF c3 h
        exact w_X8_read_124 C hr σ x1 x2 h _ _ _ hd (lv_sub hl [0, 1, 2] rfl)
      · replace h := iteT c3 h
        refine lv_aload_n hx hb dX8_read_117 rfl (lv_at hl 0 rfl) ?_
        obtain ⟨t4, et4, h⟩ := cal_e h
        refine rCallV C hd (c_X8_tellOne hE et4) kX8_178 0 rfl rfl rfl rfl hl.1 rfl (Nat.le_of_ble_eq_true rfl) ⟨(Nat.le_of_ble_eq_true rfl), (Nat.le_of_ble_eq_true rfl)⟩ ⟨Nat.le_refl _, Nat.le_refl _⟩ dX8_read_118 (fun H locs hd => ?_)
        refine lv_goto (tgt := 102) hx hb dX8_read_121 (by decide) ?_
        exact ih t4 x1 x2 h _ _ _ hd (lv_sub hl [0, 1, 2] rfl)
noncomputable def f_X8_read_10 (F : Nat) : Nat → St → Int32 → Option (Int32 × St)
  | 0, _, _ => none
  | n + 1, σ, x1 => if (σ.1 2) ≤ x1 then (bnd (ss σ 1 0) (fun t2 => cal (f_X8_cutsUp F t2) (fun t3 => bnd (ss t3 4 0) (fun t4 => bnd (ss t4 5 0) (fun t5 => bnd (ss t5 6 0) (fun t6 => bnd (ss t6 8 0) (fun t7 => bnd (ss t7 11 0) (fun t8 => bnd (ss t8 12 0) (fun t9 => bnd (ss t9 13 0) (fun t10 => cal2 (f_X8_toldOr F t10 20 1 8 4) (fun r11 t12 => cal2 (f_X8_toldOr F t12 21 2 8 4) (fun r13 t14 => f_X8_read_102 F F t14 r11 r13)))))))))))) else (if inb x1 2000 = true then if inb x1 2000 = true then bnd (sr σ 2 x1.toNatClampNeg (vp_nar .byte (σ.2.1 1 x1.toNatClampNeg))) (fun t17 => bnd (x1 + 1) (fun v18 => f_X8_read_10 F n t17 v18)) else none else none)
set_option maxRecDepth 100000 in
set_option maxHeartbeats 4000000 in
theorem w_X8_read_10 {F : Nat} {r' : Int32} {σ' : St}  (C : Cx g p s m args meth c cX8_read 4 RX8) (hr : meth.sig.returnType = some .int) :
    (∀ (n : Nat) (σ : St) (x1 : Int32), f_X8_read_10 F n σ x1 = some (r', σ') → ∀ (H : Heap) (locs : List Loc) (ls : Array Slot), Dy g (wM g σ ++ X) s H locs → lv_has ls 4 [(0, .ref (ga g 40)), (1, .int x1)] → W p l e (rmD 9) s m args below meth c H locs 0 0 (QI g below args s (wM g σ' ++ X) r') (F0 m 10 ls [])) := by
  have hx := C.1
  have hb := C.2.1
  have hE := C.2.2.2.2.2.2.2.2
  intro n
  induction n with
  | zero =>
    intro σ x1 h
    cases h
  | succ n ih =>
    intro σ x1 h H locs ls hd hl
    rw [f_X8_read_10] at h
    refine lv_iload_n hx hb dX8_read_10 rfl (lv_at hl 1 rfl) ?_
    refine lv_aload_n hx hb dX8_read_11 rfl (lv_at hl 0 rfl) ?_
    refine gX8_104 C hd dX8_read_12 ?_
    refine lv_icmp_ge (tgt := 36) hx hb dX8_read_15 (by decide) (fun c1 => ?_) (fun c1 => ?_)
    · replace h := iteT c1 h
      refine lv_aload_n hx hb dX8_read_36 rfl (lv_at hl 0 rfl) ?_
      refine lv_iconst (v := 0) hx hb dX8_read_37 ic_0 ?_
      obtain ⟨t2, et2, h⟩ := bnd_e h
      refine pX8_97 C hd et2 dX8_read_38 (fun H locs hd => ?_)
      refine lv_aload_n hx hb dX8_read_41 rfl (lv_at hl 0 rfl) ?_
      obtain ⟨t3, et3, h⟩ := cal_e h
      refine rCallV C hd (c_X8_cutsUp hE et3) kX8_159 0 rfl rfl rfl rfl hl.1 rfl (Nat.le_of_ble_eq_true rfl) ⟨(Nat.le_of_ble_eq_true rfl), (Nat.le_of_ble_eq_true rfl)⟩ ⟨Nat.le_refl _, Nat.le_refl _⟩ dX8_read_42 (fun H locs hd => ?_)
      refine lv_aload_n hx hb dX8_read_45 rfl (lv_at hl 0 rfl) ?_
      refine lv_iconst (v := 0) hx hb dX8_read_46 ic_0 ?_
      obtain ⟨t4, et4, h⟩ := bnd_e h
      refine pX8_138 C hd et4 dX8_read_47 (fun H locs hd => ?_)
      refine lv_aload_n hx hb dX8_read_50 rfl (lv_at hl 0 rfl) ?_
      refine lv_iconst (v := 0) hx hb dX8_read_51 ic_0 ?_
      obtain ⟨t5, et5, h⟩ := bnd_e h
      refine pX8_162 C hd et5 dX8_read_52 (fun H locs hd => ?_)
      refine lv_aload_n hx hb dX8_read_55 rfl (lv_at hl 0 rfl) ?_
      refine lv_iconst (v := 0) hx hb dX8_read_56 ic_0 ?_
      obtain ⟨t6, et6, h⟩ := bnd_e h
      refine pX8_135 C hd et6 dX8_read_57 (fun H locs hd => ?_)
      refine lv_aload_n hx hb dX8_read_60 rfl (lv_at hl 0 rfl) ?_
      refine lv_iconst (v := 0) hx hb dX8_read_61 ic_0 ?_
      obtain ⟨t7, et7, h⟩ := bnd_e h
      refine pX8_144 C hd et7 dX8_read_62 (fun H locs hd => ?_)
      refine lv_aload_n hx hb dX8_read_65 rfl (lv_at hl 0 rfl) ?_
      refine lv_iconst (v := 0) hx hb dX8_read_66 ic_0 ?_
      obtain ⟨t8, et8, h⟩ := bnd_e h
      refine pX8_165 C hd et8 dX8_read_67 (fun H locs hd => ?_)
      refine lv_aload_n hx hb dX8_read_70 rfl (lv_at hl 0 rfl) ?_
      refine lv_iconst (v := 0) hx hb dX8_read_71 ic_0 ?_
      obtain ⟨t9, et9, h⟩ := bnd_e h
      refine pX8_168 C hd et9 dX8_read_72 (fun H locs hd => ?_)
      refine lv_aload_n hx hb dX8_read_75 rfl (lv_at hl 0 rfl) ?_
      refine lv_iconst (v := 0) hx hb dX8_read_76 ic_0 ?_
      obtain ⟨t10, et10, h⟩ := bnd_e h
      refine pX8_171 C hd et10 dX8_read_77 (fun H locs hd => ?_)
      refine lv_aload_n hx hb dX8_read_80 rfl (lv_at hl 0 rfl) ?_
      refine lv_bipush (v := 20) hx hb dX8_read_81 bi_20 ?_
      refine lv_iconst (v := 1) hx hb dX8_read_83 ic_1 ?_
      refine lv_bipush (v := 8) hx hb dX8_read_84 bi_8 ?_
      refine lv_iconst (v := 4) hx hb dX8_read_86 ic_4 ?_
      obtain ⟨r11, t12, et12, h⟩ := cal2_e h
      refine rCallI C hd (c_X8_toldOr hE et12) kX8_174 0 rfl rfl rfl rfl hl.1 rfl (Nat.le_of_ble_eq_true rfl) ⟨(Nat.le_of_ble_eq_true rfl), (Nat.le_of_ble_eq_true rfl)⟩ ⟨Nat.le_refl _, Nat.le_refl _⟩ dX8_read_87 (fun H locs hd => ?_)
      refine lv_istore_n (lv' := [(1, .int r11), (0, .ref (ga g 40))]) hx hb dX8_read_90 rfl hl (Nat.le_of_ble_eq_true rfl) rfl (fun ls hl => ?_)
      refine lv_aload_n hx hb dX8_read_91 rfl (lv_at hl 1 rfl) ?_
      refine lv_bipush (v := 21) hx hb dX8_read_92 bi_21 ?_
      refine lv_iconst (v := 2) hx hb dX8_read_94 ic_2 ?_
      refine lv_bipush (v := 8) hx hb dX8_read_95 bi_8 ?_
      refine lv_iconst (v := 4) hx hb dX8_read_97 ic_4 ?_
      obtain ⟨r13, t14, et14, h⟩ := cal2_e h
      refine rCallI C hd (c_X8_toldOr hE et14) kX8_174 0 rfl rfl rfl rfl hl.1 rfl (Nat.le_of_ble_eq_true rfl) ⟨(Nat.le_of_ble_eq_true rfl), (Nat.le_of_ble_eq_true rfl)⟩ ⟨Nat.le_refl _, Nat.le_refl _⟩ dX8_read_98 (fun H locs hd => ?_)
      refine lv_istore_n (lv' := [(2, .int r13), (1, .int r11), (0, .ref (ga g 40))]) hx hb dX8_read_101 rfl hl (Nat.le_of_ble_eq_true rfl) rfl (fun ls hl => ?_)
      exact w_X8_read_102 C hr _ t14 r11 r13 h _ _ _ hd (lv_sub hl [2, 1, 0] rfl)
    · replace h := iteF c1 h
      refine lv_aload_n hx hb dX8_read_18 rfl (lv_at hl 0 rfl) ?_
      refine gX8_17 C hd dX8_read_19 ?_
      refine lv_iload_n hx hb dX8_read_22 rfl (lv_at hl 1 rfl) ?_
      refine lv_aload_n hx hb dX8_read_23 rfl (lv_at hl 0 rfl) ?_
      refine gX8_13 C hd dX8_read_24 ?_
      refine lv_iload_n hx hb dX8_read_27 rfl (lv_at hl 1 rfl) ?_
      obtain ⟨n15, h⟩ := chk h
      refine ld_wM_1 C hd (inb_i n15) dX8_read_28 ?_
      obtain ⟨n16, h⟩ := chk h
      obtain ⟨t17, et17, h⟩ := bnd_e h
      refine st_wM_2 C hd (inb_i n16) et17 dX8_read_29 (fun H locs hd => ?_)
      obtain ⟨v18, ev18, h⟩ := bnd_e h
      refine lv_iinc (v := v18) (lv' := [(1, .int v18), (0, .ref (ga g 40))]) hx hb dX8_read_30 hl (k := 1) rfl ((ii_1 _).trans ev18.symm) (Nat.le_of_ble_eq_true rfl) rfl (fun ls hl => ?_)
      refine lv_goto (tgt := 10) hx hb dX8_read_33 (by decide) ?_
      exact ih t17 v18 h _ _ _ hd (lv_sub hl [1, 0] rfl)
noncomputable def f_X8_read (F : Nat) (σ : St) : Option (Int32 × St) :=
  bnd (ss σ 2 (σ.1 1)) (fun t1 => f_X8_read_10 F F t1 0)
set_option maxRecDepth 100000 in
set_option maxHeartbeats 4000000 in
theorem c_X8_read {l : Launch} {g : Gp} {X : va_W} (hE : E0 g) {F : Nat} {r' : Int32} {σ' : St} {σ : St} (h : f_X8_read F σ = some (r', σ')) : Ci l g yX8_read cX8_read 4 (some .int) 9 [.ref (ga g 40)] (wM g σ ++ X) r' (wM g σ' ++ X) := by
  refine rHead hE (by decide +kernel) (Nat.le_of_ble_eq_true rfl) (fun p e s m below meth c C hr _ hd ls hl => ?_)
  have hx := C.1
  have hb := C.2.1
  have hl : lv_has ls 4 [(0, .ref (ga g 40))] := hl
  generalize ([.ref (ga g 40)] : List Value).toArray = args at C ⊢
  have C : Cx g p s m args meth c cX8_read 4 RX8 := C
  rw [f_X8_read] at h
  refine lv_aload_n hx hb dX8_read_0 rfl (lv_at hl 0 rfl) ?_
  refine lv_aload_n hx hb dX8_read_1 rfl (lv_at hl 0 rfl) ?_
  refine gX8_97 C hd dX8_read_2 ?_
  obtain ⟨t1, et1, h⟩ := bnd_e h
  refine pX8_104 C hd et1 dX8_read_5 (fun H locs hd => ?_)
  refine lv_iconst (v := 0) hx hb dX8_read_8 ic_0 ?_
  refine lv_istore_n (lv' := [(1, .int 0), (0, .ref (ga g 40))]) hx hb dX8_read_9 rfl hl (Nat.le_of_ble_eq_true rfl) rfl (fun ls hl => ?_)
  exact w_X8_read_10 C hr _ t1 0 h _ _ _ hd (lv_sub hl [1, 0] rfl)
noncomputable def f_X8_record (F : Nat) (σ : St) (x1 : Int32) (x2 : Int32) (x3 : Int32) : Option Int32 :=
  cal (f_X8_isRecord F σ x1 x2) (fun r1 => if r1 = 0 then (some (-1000000000 : Int32)) else (cal (f_X8_in F σ x3 0 2) (fun r3 => if r3 = 0 then (some (-1000000000 : Int32)) else (if x3 = 2 then (cal (f_X8_ownerOf F σ x1 x2) (fun r8 => some r8)) else (cal (f_X8_recordAt F σ x1 x2) (fun r6 => if inb (r6 + x3) 7164 = true then some (σ.2.1 19 (r6 + x3).toNatClampNeg) else none))))))
set_option maxRecDepth 100000 in
set_option maxHeartbeats 4000000 in
theorem c_X8_record {l : Launch} {g : Gp} {X : va_W} (hE : E0 g) {F : Nat} {r' : Int32} {σ : St} {x1 : Int32} {x2 : Int32} {x3 : Int32} (h : f_X8_record F σ x1 x2 x3 = some r') : Ci l g yX8_record cX8_record 4 (some .int) 4 [.ref (ga g 40), .int x1, .int x2, .int x3] (wM g σ ++ X) r' (wM g σ ++ X) := by
  refine rHead hE (by decide +kernel) (Nat.le_of_ble_eq_true rfl) (fun p e s m below meth c C hr _ hd ls hl => ?_)
  have hx := C.1
  have hb := C.2.1
  have hl : lv_has ls 4 [(0, .ref (ga g 40)), (1, .int x1), (2, .int x2), (3, .int x3)] := hl
  generalize ([.ref (ga g 40), .int x1, .int x2, .int x3] : List Value).toArray = args at C ⊢
  have C : Cx g p s m args meth c cX8_record 4 RX8 := C
  rw [f_X8_record] at h
  refine lv_aload_n hx hb dX8_record_0 rfl (lv_at hl 0 rfl) ?_
  refine lv_iload_n hx hb dX8_record_1 rfl (lv_at hl 1 rfl) ?_
  refine lv_iload_n hx hb dX8_record_2 rfl (lv_at hl 2 rfl) ?_
  obtain ⟨r1, er1, h⟩ := cal_e h
  refine rCallI C hd (c_X8_isRecord hE er1) kX8_355 0 rfl rfl rfl rfl hl.1 rfl (Nat.le_of_ble_eq_true rfl) ⟨(Nat.le_of_ble_eq_true rfl), (Nat.le_of_ble_eq_true rfl)⟩ ⟨Nat.le_refl _, Nat.le_refl _⟩ dX8_record_3 (fun H locs hd => ?_)
  refine lv_if_eq (tgt := 18) hx hb dX8_record_6 (by decide) (fun c2 => ?_) (fun c2 => ?_)
  · replace h := iteT c2 h
    refine rLdcw C (v := (-1000000000 : Int32)) (mT 1758 (by decide +kernel)) dX8_record_18 ?_
    exact rIretP C hr hd h dX8_record_21
  · replace h := iteF c2 h
    refine lv_iload_n hx hb dX8_record_9 rfl (lv_at hl 3 rfl) ?_
    refine lv_iconst (v := 0) hx hb dX8_record_10 ic_0 ?_
    refine lv_iconst (v := 2) hx hb dX8_record_11 ic_2 ?_
    obtain ⟨r3, er3, h⟩ := cal_e h
    refine rCallSI C hd (c_X8_in hE er3) kX8_194 rfl hl.1 rfl (Nat.le_of_ble_eq_true rfl) ⟨(Nat.le_of_ble_eq_true rfl), (Nat.le_of_ble_eq_true rfl)⟩ ⟨Nat.le_refl _, Nat.le_refl _⟩ dX8_record_12 (fun H locs hd => ?_)
    refine lv_if_ne (tgt := 22) hx hb dX8_record_15 (by decide) (fun c4 => ?_) (fun c4 => ?_)
    · replace h := iteF c4 h
      refine lv_iload_n hx hb dX8_record_22 rfl (lv_at hl 3 rfl) ?_
      refine lv_iconst (v := 2) hx hb dX8_record_23 ic_2 ?_
      refine lv_icmp_ne (tgt := 36) hx hb dX8_record_24 (by decide) (fun c5 => ?_) (fun c5 => ?_)
      · replace h := iteF c5 h
        refine lv_aload_n hx hb dX8_record_36 rfl (lv_at hl 0 rfl) ?_
        refine gX8_73 C hd dX8_record_37 ?_
        refine lv_aload_n hx hb dX8_record_40 rfl (lv_at hl 0 rfl) ?_
        refine lv_iload_n hx hb dX8_record_41 rfl (lv_at hl 1 rfl) ?_
        refine lv_iload_n hx hb dX8_record_42 rfl (lv_at hl 2 rfl) ?_
        obtain ⟨r6, er6, h⟩ := cal_e h
        refine rCallI C hd (c_X8_recordAt hE er6) kX8_280 0 rfl rfl rfl rfl hl.1 rfl (Nat.le_of_ble_eq_true rfl) ⟨(Nat.le_of_ble_eq_true rfl), (Nat.le_of_ble_eq_true rfl)⟩ ⟨Nat.le_refl _, Nat.le_refl _⟩ dX8_record_43 (fun H locs hd => ?_)
        refine lv_iload_n hx hb dX8_record_46 rfl (lv_at hl 3 rfl) ?_
        refine lv_iadd hx hb dX8_record_47 ?_
        obtain ⟨n7, h⟩ := chk h
        refine ld_wM_19 C hd (inb_i n7) dX8_record_48 ?_
        exact rIretP C hr hd h dX8_record_49
      · replace h := iteT c5 h
        refine lv_aload_n hx hb dX8_record_27 rfl (lv_at hl 0 rfl) ?_
        refine lv_iload_n hx hb dX8_record_28 rfl (lv_at hl 1 rfl) ?_
        refine lv_iload_n hx hb dX8_record_29 rfl (lv_at hl 2 rfl) ?_
        obtain ⟨r8, er8, h⟩ := cal_e h
        refine rCallI C hd (c_X8_ownerOf hE er8) kX8_271 0 rfl rfl rfl rfl hl.1 rfl (Nat.le_of_ble_eq_true rfl) ⟨(Nat.le_of_ble_eq_true rfl), (Nat.le_of_ble_eq_true rfl)⟩ ⟨Nat.le_refl _, Nat.le_refl _⟩ dX8_record_30 (fun H locs hd => ?_)
        refine lv_goto (tgt := 49) hx hb dX8_record_33 (by decide) ?_
        exact rIretP C hr hd h dX8_record_49
    · replace h := iteT c4 h
      refine rLdcw C (v := (-1000000000 : Int32)) (mT 1758 (by decide +kernel)) dX8_record_18 ?_
      exact rIretP C hr hd h dX8_record_21
noncomputable def f_X8_source (F : Nat) (σ : St) (x1 : Int32) (x2 : Int32) : Option Int32 :=
  cal (f_X8_isCopy F σ x1) (fun r1 => if r1 = 0 then (some (-1 : Int32)) else (cal (f_X8_isPage F σ x2) (fun r3 => if r3 = 0 then (some (-1 : Int32)) else (cal (f_X8_ofTaken F σ x1 x2 1) (fun r5 => some r5)))))
set_option maxRecDepth 100000 in
set_option maxHeartbeats 4000000 in
theorem c_X8_source {l : Launch} {g : Gp} {X : va_W} (hE : E0 g) {F : Nat} {r' : Int32} {σ : St} {x1 : Int32} {x2 : Int32} (h : f_X8_source F σ x1 x2 = some r') : Ci l g yX8_source cX8_source 3 (some .int) 3 [.ref (ga g 40), .int x1, .int x2] (wM g σ ++ X) r' (wM g σ ++ X) := by
  refine rHead hE (by decide +kernel) (Nat.le_of_ble_eq_true rfl) (fun p e s m below meth c C hr _ hd ls hl => ?_)
  have hx := C.1
  have hb := C.2.1
  have hl : lv_has ls 3 [(0, .ref (ga g 40)), (1, .int x1), (2, .int x2)] := hl
  generalize ([.ref (ga g 40), .int x1, .int x2] : List Value).toArray = args at C ⊢
  have C : Cx g p s m args meth c cX8_source 3 RX8 := C
  rw [f_X8_source] at h
  refine lv_aload_n hx hb dX8_source_0 rfl (lv_at hl 0 rfl) ?_
  refine lv_iload_n hx hb dX8_source_1 rfl (lv_at hl 1 rfl) ?_
  obtain ⟨r1, er1, h⟩ := cal_e h
  refine rCallI C hd (c_X8_isCopy hE er1) kX8_301 0 rfl rfl rfl rfl hl.1 rfl (Nat.le_of_ble_eq_true rfl) ⟨(Nat.le_of_ble_eq_true rfl), (Nat.le_of_ble_eq_true rfl)⟩ ⟨Nat.le_refl _, Nat.le_refl _⟩ dX8_source_2 (fun H locs hd => ?_)
  refine lv_if_eq (tgt := 26) hx hb dX8_source_5 (by decide) (fun c2 => ?_) (fun c2 => ?_)
  · replace h := iteT c2 h
    refine lv_iconst (v := (-1 : Int32)) hx hb dX8_source_26 ic_m1 ?_
    exact rIretP C hr hd h dX8_source_27
  · replace h := iteF c2 h
    refine lv_aload_n hx hb dX8_source_8 rfl (lv_at hl 0 rfl) ?_
    refine lv_iload_n hx hb dX8_source_9 rfl (lv_at hl 2 rfl) ?_
    obtain ⟨r3, er3, h⟩ := cal_e h
    refine rCallI C hd (c_X8_isPage hE er3) kX8_334 0 rfl rfl rfl rfl hl.1 rfl (Nat.le_of_ble_eq_true rfl) ⟨(Nat.le_of_ble_eq_true rfl), (Nat.le_of_ble_eq_true rfl)⟩ ⟨Nat.le_refl _, Nat.le_refl _⟩ dX8_source_10 (fun H locs hd => ?_)
    refine lv_if_eq (tgt := 26) hx hb dX8_source_13 (by decide) (fun c4 => ?_) (fun c4 => ?_)
    · replace h := iteT c4 h
      refine lv_iconst (v := (-1 : Int32)) hx hb dX8_source_26 ic_m1 ?_
      exact rIretP C hr hd h dX8_source_27
    · replace h := iteF c4 h
      refine lv_aload_n hx hb dX8_source_16 rfl (lv_at hl 0 rfl) ?_
      refine lv_iload_n hx hb dX8_source_17 rfl (lv_at hl 1 rfl) ?_
      refine lv_iload_n hx hb dX8_source_18 rfl (lv_at hl 2 rfl) ?_
      refine lv_iconst (v := 1) hx hb dX8_source_19 ic_1 ?_
      obtain ⟨r5, er5, h⟩ := cal_e h
      refine rCallI C hd (c_X8_ofTaken hE er5) kX8_375 0 rfl rfl rfl rfl hl.1 rfl (Nat.le_of_ble_eq_true rfl) ⟨(Nat.le_of_ble_eq_true rfl), (Nat.le_of_ble_eq_true rfl)⟩ ⟨Nat.le_refl _, Nat.le_refl _⟩ dX8_source_20 (fun H locs hd => ?_)
      refine lv_goto (tgt := 27) hx hb dX8_source_23 (by decide) ?_
      exact rIretP C hr hd h dX8_source_27
noncomputable def f_X8_spare_43 (F : Nat) (k_16 : St → Int32 → Int32 → Int32 → Option (Int32 × St)) (σ : St) (x1 : Int32) (x2 : Int32) (x3 : Int32) : Option (Int32 × St) :=
  bnd (x3 + 1) (fun v1 => k_16 σ x1 x2 v1)
set_option maxRecDepth 100000 in
set_option maxHeartbeats 4000000 in
theorem w_X8_spare_43 {F : Nat} {r' : Int32} {σ' : St}  (C : Cx g p s m args meth c cX8_spare 4 RX8) (hr : meth.sig.returnType = some .int)
    {k_16 : St → Int32 → Int32 → Int32 → Option (Int32 × St)} (hk_16 : (∀ (σ : St) (x1 : Int32) (x2 : Int32) (x3 : Int32), k_16 σ x1 x2 x3 = some (r', σ') → ∀ (H : Heap) (locs : List Loc) (ls : Array Slot), Dy g (wM g σ ++ X) s H locs → lv_has ls 4 [(0, .ref (ga g 40)), (1, .int x1), (2, .int x2), (3, .int x3)] → W p l e (rmD 7) s m args below meth c H locs 0 0 (QI g below args s (wM g σ' ++ X) r') (F0 m 16 ls []))) :
    (∀ (σ : St) (x1 : Int32) (x2 : Int32) (x3 : Int32), f_X8_spare_43 F k_16 σ x1 x2 x3 = some (r', σ') → ∀ (H : Heap) (locs : List Loc) (ls : Array Slot), Dy g (wM g σ ++ X) s H locs → lv_has ls 4 [(0, .ref (ga g 40)), (1, .int x1), (2, .int x2), (3, .int x3)] → W p l e (rmD 7) s m args below meth c H locs 0 0 (QI g below args s (wM g σ' ++ X) r') (F0 m 43 ls [])) := by
  have hx := C.1
  have hb := C.2.1
  have hE := C.2.2.2.2.2.2.2.2
  intro σ x1 x2 x3 h H locs ls hd hl
  rw [f_X8_spare_43] at h
  obtain ⟨v1, ev1, h⟩ := bnd_e h
  refine lv_iinc (v := v1) (lv' := [(3, .int v1), (0, .ref (ga g 40)), (1, .int x1), (2, .int x2)]) hx hb dX8_spare_43 hl (k := 3) rfl ((ii_1 _).trans ev1.symm) (Nat.le_of_ble_eq_true rfl) rfl (fun ls hl => ?_)
  refine lv_goto (tgt := 16) hx hb dX8_spare_46 (by decide) ?_
  exact hk_16 σ x1 x2 v1 h _ _ _ hd (lv_sub hl [1, 2, 3, 0] rfl)
noncomputable def f_X8_spare_16 (F : Nat) (k_4 : St → Int32 → Int32 → Option (Int32 × St)) : Nat → St → Int32 → Int32 → Int32 → Option (Int32 × St)
  | 0, _, _, _, _ => none
  | n + 1, σ, x1, x2, x3 => if 120 ≤ x3 then (bnd (x2 + 1) (fun v2 => k_4 σ x1 v2)) else (cal (f_X8_keptOf F σ x2 x3) (fun r3 => if r3 ≤ 0 then (f_X8_spare_43 F (f_X8_spare_16 F k_4 n) σ x1 x2 x3) else (cal2 (f_X8_pinnedBy F σ x2 x3) (fun r5 t6 => if r5 = 0 then (bnd (x1 + 1) (fun v8 => f_X8_spare_43 F (f_X8_spare_16 F k_4 n) t6 v8 x2 x3)) else (f_X8_spare_43 F (f_X8_spare_16 F k_4 n) t6 x1 x2 x3)))))
set_option maxRecDepth 100000 in
set_option maxHeartbeats 4000000 in
theorem w_X8_spare_16 {F : Nat} {r' : Int32} {σ' : St}  (C : Cx g p s m args meth c cX8_spare 4 RX8) (hr : meth.sig.returnType = some .int)
    {k_4 : St → Int32 → Int32 → Option (Int32 × St)} (hk_4 : (∀ (σ : St) (x1 : Int32) (x2 : Int32), k_4 σ x1 x2 = some (r', σ') → ∀ (H : Heap) (locs : List Loc) (ls : Array Slot), Dy g (wM g σ ++ X) s H locs → lv_has ls 4 [(0, .ref (ga g 40)), (1, .int x1), (2, .int x2)] → W p l e (rmD 7) s m args below meth c H locs 0 0 (QI g below args s (wM g σ' ++ X) r') (F0 m 4 ls []))) :
    (∀ (n : Nat) (σ : St) (x1 : Int32) (x2 : Int32) (x3 : Int32), f_X8_spare_16 F k_4 n σ x1 x2 x3 = some (r', σ') → ∀ (H : Heap) (locs : List Loc) (ls : Array Slot), Dy g (wM g σ ++ X) s H locs → lv_has ls 4 [(0, .ref (ga g 40)), (1, .int x1), (2, .int x2), (3, .int x3)] → W p l e (rmD 7) s m args below meth c H locs 0 0 (QI g below args s (wM g σ' ++ X) r') (F0 m 16 ls [])) := by
  have hx := C.1
  have hb := C.2.1
  have hE := C.2.2.2.2.2.2.2.2
  intro n
  induction n with
  | zero =>
    intro σ x1 x2 x3 h
    cases h
  | succ n ih =>
    intro σ x1 x2 x3 h H locs ls hd hl
    rw [f_X8_spare_16] at h
    refine lv_iload_n hx hb dX8_spare_16 rfl (lv_at hl 3 rfl) ?_
    refine lv_bipush (v := 120) hx hb dX8_spare_17 bi_120 ?_
    refine lv_icmp_ge (tgt := 49) hx hb dX8_spare_19 (by decide) (fun c1 => ?_) (fun c1 => ?_)
    · replace h := iteT c1 h
      obtain ⟨v2, ev2, h⟩ := bnd_e h
      refine lv_iinc (v := v2) (lv' := [(2, .int v2), (0, .ref (ga g 40)), (1, .int x1), (3, .int x3)]) hx hb dX8_spare_49 hl (k := 2) rfl ((ii_1 _).trans ev2.symm) (Nat.le_of_ble_eq_true rfl) rfl (fun ls hl => ?_)
      refine lv_goto (tgt := 4) hx hb dX8_spare_52 (by decide) ?_
      exact hk_4 σ x1 v2 h _ _ _ hd (lv_sub hl [1, 2, 0] rfl)
    · replace h := iteF c1 h
      refine lv_aload_n hx hb dX8_spare_22 rfl (lv_at hl 0 rfl) ?_
      refine lv_iload_n hx hb dX8_spare_23 rfl (lv_at hl 2 rfl) ?_
      refine lv_iload_n hx hb dX8_spare_24 rfl (lv_at hl 3 rfl) ?_
      obtain ⟨r3, er3, h⟩ := cal_e h
      refine rCallI C hd (c_X8_keptOf hE er3) kX8_295 0 rfl rfl rfl rfl hl.1 rfl (Nat.le_of_ble_eq_true rfl) ⟨(Nat.le_of_ble_eq_true rfl), (Nat.le_of_ble_eq_true rfl)⟩ ⟨Nat.le_refl _, Nat.le_refl _⟩ dX8_spare_25 (fun H locs hd => ?_)
      refine lv_if_le (tgt := 43) hx hb dX8_spare_28 (by decide) (fun c4 => ?_) (fun c4 => ?_)
      · replace h := iteT c4 h
        exact w_X8_spare_43 C hr ih σ x1 x2 x3 h _ _ _ hd (lv_sub hl [0, 1, 2, 3] rfl)
      · replace h := iteF c4 h
        refine lv_aload_n hx hb dX8_spare_31 rfl (lv_at hl 0 rfl) ?_
        refine lv_iload_n hx hb dX8_spare_32 rfl (lv_at hl 2 rfl) ?_
        refine lv_iload_n hx hb dX8_spare_33 rfl (lv_at hl 3 rfl) ?_
        obtain ⟨r5, t6, et6, h⟩ := cal2_e h
        refine rCallI C hd (c_X8_pinnedBy hE et6) kX8_393 0 rfl rfl rfl rfl hl.1 rfl (Nat.le_of_ble_eq_true rfl) ⟨(Nat.le_of_ble_eq_true rfl), (Nat.le_of_ble_eq_true rfl)⟩ ⟨Nat.le_refl _, Nat.le_refl _⟩ dX8_spare_34 (fun H locs hd => ?_)
        refine lv_if_ne (tgt := 43) hx hb dX8_spare_37 (by decide) (fun c7 => ?_) (fun c7 => ?_)
        · replace h := iteF c7 h
          exact w_X8_spare_43 C hr ih t6 x1 x2 x3 h _ _ _ hd (lv_sub hl [0, 1, 2, 3] rfl)
        · replace h := iteT c7 h
          obtain ⟨v8, ev8, h⟩ := bnd_e h
          refine lv_iinc (v := v8) (lv' := [(1, .int v8), (0, .ref (ga g 40)), (2, .int x2), (3, .int x3)]) hx hb dX8_spare_40 hl (k := 1) rfl ((ii_1 _).trans ev8.symm) (Nat.le_of_ble_eq_true rfl) rfl (fun ls hl => ?_)
          exact w_X8_spare_43 C hr ih t6 v8 x2 x3 h _ _ _ hd (lv_sub hl [1, 0, 2, 3] rfl)
noncomputable def f_X8_spare_4 (F : Nat) : Nat → St → Int32 → Int32 → Option (Int32 × St)
  | 0, _, _, _ => none
  | n + 1, σ, x1, x2 => if (σ.2.1 19 2) ≤ x2 then (some (x1, σ)) else (f_X8_spare_16 F (f_X8_spare_4 F n) F σ x1 x2 0)
set_option maxRecDepth 100000 in
set_option maxHeartbeats 4000000 in
theorem w_X8_spare_4 {F : Nat} {r' : Int32} {σ' : St}  (C : Cx g p s m args meth c cX8_spare 4 RX8) (hr : meth.sig.returnType = some .int) :
    (∀ (n : Nat) (σ : St) (x1 : Int32) (x2 : Int32), f_X8_spare_4 F n σ x1 x2 = some (r', σ') → ∀ (H : Heap) (locs : List Loc) (ls : Array Slot), Dy g (wM g σ ++ X) s H locs → lv_has ls 4 [(0, .ref (ga g 40)), (1, .int x1), (2, .int x2)] → W p l e (rmD 7) s m args below meth c H locs 0 0 (QI g below args s (wM g σ' ++ X) r') (F0 m 4 ls [])) := by
  have hx := C.1
  have hb := C.2.1
  have hE := C.2.2.2.2.2.2.2.2
  intro n
  induction n with
  | zero =>
    intro σ x1 x2 h
    cases h
  | succ n ih =>
    intro σ x1 x2 h H locs ls hd hl
    rw [f_X8_spare_4] at h
    refine lv_iload_n hx hb dX8_spare_4 rfl (lv_at hl 2 rfl) ?_
    refine lv_aload_n hx hb dX8_spare_5 rfl (lv_at hl 0 rfl) ?_
    refine gX8_73 C hd dX8_spare_6 ?_
    refine lv_iconst (v := 2) hx hb dX8_spare_9 ic_2 ?_
    refine ldc_wM_19 C hd cl_2 (inb_i (by decide +kernel)) dX8_spare_10 ?_
    refine lv_icmp_ge (tgt := 55) hx hb dX8_spare_11 (by decide) (fun c1 => ?_) (fun c1 => ?_)
    · replace h := iteT c1 h
      refine lv_iload_n hx hb dX8_spare_55 rfl (lv_at hl 1 rfl) ?_
      exact rIretS (w := wM g) C hr hd h dX8_spare_56
    · replace h := iteF c1 h
      refine lv_iconst (v := 0) hx hb dX8_spare_14 ic_0 ?_
      refine lv_istore_n (lv' := [(3, .int 0), (0, .ref (ga g 40)), (1, .int x1), (2, .int x2)]) hx hb dX8_spare_15 rfl hl (Nat.le_of_ble_eq_true rfl) rfl (fun ls hl => ?_)
      exact w_X8_spare_16 C hr ih _ σ x1 x2 0 h _ _ _ hd (lv_sub hl [1, 2, 3, 0] rfl)
noncomputable def f_X8_spare (F : Nat) (σ : St) : Option (Int32 × St) :=
  f_X8_spare_4 F F σ 0 0
set_option maxRecDepth 100000 in
set_option maxHeartbeats 4000000 in
theorem c_X8_spare {l : Launch} {g : Gp} {X : va_W} (hE : E0 g) {F : Nat} {r' : Int32} {σ' : St} {σ : St} (h : f_X8_spare F σ = some (r', σ')) : Ci l g yX8_spare cX8_spare 4 (some .int) 7 [.ref (ga g 40)] (wM g σ ++ X) r' (wM g σ' ++ X) := by
  refine rHead hE (by decide +kernel) (Nat.le_of_ble_eq_true rfl) (fun p e s m below meth c C hr _ hd ls hl => ?_)
  have hx := C.1
  have hb := C.2.1
  have hl : lv_has ls 4 [(0, .ref (ga g 40))] := hl
  generalize ([.ref (ga g 40)] : List Value).toArray = args at C ⊢
  have C : Cx g p s m args meth c cX8_spare 4 RX8 := C
  rw [f_X8_spare] at h
  refine lv_iconst (v := 0) hx hb dX8_spare_0 ic_0 ?_
  refine lv_istore_n (lv' := [(1, .int 0), (0, .ref (ga g 40))]) hx hb dX8_spare_1 rfl hl (Nat.le_of_ble_eq_true rfl) rfl (fun ls hl => ?_)
  refine lv_iconst (v := 0) hx hb dX8_spare_2 ic_0 ?_
  refine lv_istore_n (lv' := [(2, .int 0), (1, .int 0), (0, .ref (ga g 40))]) hx hb dX8_spare_3 rfl hl (Nat.le_of_ble_eq_true rfl) rfl (fun ls hl => ?_)
  exact w_X8_spare_4 C hr _ σ 0 0 h _ _ _ hd (lv_sub hl [2, 1, 0] rfl)
noncomputable def f_X8_stop_53 (F : Nat) (k_17 : St → Int32 → Int32 → Int32 → Int32 → Int32 → Option Int32) (σ : St) (x1 : Int32) (x2 : Int32) (x3 : Int32) (x4 : Int32) (x5 : Int32) : Option Int32 :=
  bnd (x5 + 1) (fun v1 => k_17 σ x1 x2 x3 x4 v1)
set_option maxRecDepth 100000 in
set_option maxHeartbeats 4000000 in
theorem w_X8_stop_53 {F : Nat} {r' : Int32}  (C : Cx g p s m args meth c cX8_stop 6 RX8) (hr : meth.sig.returnType = some .int)
    {k_17 : St → Int32 → Int32 → Int32 → Int32 → Int32 → Option Int32} (hk_17 : (∀ (σ : St) (x1 : Int32) (x2 : Int32) (x3 : Int32) (x4 : Int32) (x5 : Int32), k_17 σ x1 x2 x3 x4 x5 = some r' → ∀ (H : Heap) (locs : List Loc) (ls : Array Slot), Dy g (wM g σ ++ X) s H locs → lv_has ls 6 [(0, .ref (ga g 40)), (1, .int x1), (2, .int x2), (3, .int x3), (4, .int x4), (5, .int x5)] → W p l e (rmD 4) s m args below meth c H locs 0 0 (QI g below args s (wM g σ ++ X) r') (F0 m 17 ls []))) :
    (∀ (σ : St) (x1 : Int32) (x2 : Int32) (x3 : Int32) (x4 : Int32) (x5 : Int32), f_X8_stop_53 F k_17 σ x1 x2 x3 x4 x5 = some r' → ∀ (H : Heap) (locs : List Loc) (ls : Array Slot), Dy g (wM g σ ++ X) s H locs → lv_has ls 6 [(0, .ref (ga g 40)), (1, .int x1), (2, .int x2), (3, .int x3), (4, .int x4), (5, .int x5)] → W p l e (rmD 4) s m args below meth c H locs 0 0 (QI g below args s (wM g σ ++ X) r') (F0 m 53 ls [])) := by
  have hx := C.1
  have hb := C.2.1
  have hE := C.2.2.2.2.2.2.2.2
  intro σ x1 x2 x3 x4 x5 h H locs ls hd hl
  rw [f_X8_stop_53] at h
  obtain ⟨v1, ev1, h⟩ := bnd_e h
  refine lv_iinc (v := v1) (lv' := [(5, .int v1), (0, .ref (ga g 40)), (1, .int x1), (2, .int x2), (3, .int x3), (4, .int x4)]) hx hb dX8_stop_53 hl (k := 5) rfl ((ii_1 _).trans ev1.symm) (Nat.le_of_ble_eq_true rfl) rfl (fun ls hl => ?_)
  refine lv_goto (tgt := 17) hx hb dX8_stop_56 (by decide) ?_
  exact hk_17 σ x1 x2 x3 x4 v1 h _ _ _ hd (lv_sub hl [1, 2, 3, 4, 5, 0] rfl)
noncomputable def f_X8_stop_51 (F : Nat) (k_17 : St → Int32 → Int32 → Int32 → Int32 → Int32 → Option Int32) (σ : St) (x1 : Int32) (x2 : Int32) (x3 : Int32) (x5 : Int32) (y0 : Int32) : Option Int32 :=
  f_X8_stop_53 F k_17 σ x1 x2 x3 y0 x5
set_option maxRecDepth 100000 in
set_option maxHeartbeats 4000000 in
theorem w_X8_stop_51 {F : Nat} {r' : Int32}  (C : Cx g p s m args meth c cX8_stop 6 RX8) (hr : meth.sig.returnType = some .int)
    {k_17 : St → Int32 → Int32 → Int32 → Int32 → Int32 → Option Int32} (hk_17 : (∀ (σ : St) (x1 : Int32) (x2 : Int32) (x3 : Int32) (x4 : Int32) (x5 : Int32), k_17 σ x1 x2 x3 x4 x5 = some r' → ∀ (H : Heap) (locs : List Loc) (ls : Array Slot), Dy g (wM g σ ++ X) s H locs → lv_has ls 6 [(0, .ref (ga g 40)), (1, .int x1), (2, .int x2), (3, .int x3), (4, .int x4), (5, .int x5)] → W p l e (rmD 4) s m args below meth c H locs 0 0 (QI g below args s (wM g σ ++ X) r') (F0 m 17 ls []))) :
    (∀ (σ : St) (x1 : Int32) (x2 : Int32) (x3 : Int32) (x5 : Int32) (y0 : Int32), f_X8_stop_51 F k_17 σ x1 x2 x3 x5 y0 = some r' → ∀ (H : Heap) (locs : List Loc) (ls : Array Slot), Dy g (wM g σ ++ X) s H locs → lv_has ls 6 [(0, .ref (ga g 40)), (1, .int x1), (2, .int x2), (3, .int x3), (5, .int x5)] → W p l e (rmD 4) s m args below meth c H locs 0 0 (QI g below args s (wM g σ ++ X) r') (F0 m 51 ls [.int y0])) := by
  have hx := C.1
  have hb := C.2.1
  have hE := C.2.2.2.2.2.2.2.2
  intro σ x1 x2 x3 x5 y0 h H locs ls hd hl
  rw [f_X8_stop_51] at h
  refine lv_istore (lv' := [(4, .int y0), (0, .ref (ga g 40)), (1, .int x1), (2, .int x2), (3, .int x3), (5, .int x5)]) hx hb dX8_stop_51 hl (Nat.le_of_ble_eq_true rfl) rfl (fun ls hl => ?_)
  exact w_X8_stop_53 C hr hk_17 σ x1 x2 x3 y0 x5 h _ _ _ hd (lv_sub hl [1, 2, 3, 4, 0, 5] rfl)
noncomputable def f_X8_stop_17 (F : Nat) : Nat → St → Int32 → Int32 → Int32 → Int32 → Int32 → Option Int32
  | 0, _, _, _, _, _, _ => none
  | n + 1, σ, x1, x2, x3, x4, x5 => cal (f_X8_placeOf F σ x1) (fun r1 => if r1 < x5 then (some x4) else (cal (f_X8_isMark F σ x1 x5 x2) (fun r3 => if r3 = 0 then (f_X8_stop_53 F (f_X8_stop_17 F n) σ x1 x2 x3 x4 x5) else (if x3 = 0 then (f_X8_stop_51 F (f_X8_stop_17 F n) σ x1 x2 x3 x5 (x5 - 1)) else (f_X8_stop_51 F (f_X8_stop_17 F n) σ x1 x2 x3 x5 x5)))))
set_option maxRecDepth 100000 in
set_option maxHeartbeats 4000000 in
theorem w_X8_stop_17 {F : Nat} {r' : Int32}  (C : Cx g p s m args meth c cX8_stop 6 RX8) (hr : meth.sig.returnType = some .int) :
    (∀ (n : Nat) (σ : St) (x1 : Int32) (x2 : Int32) (x3 : Int32) (x4 : Int32) (x5 : Int32), f_X8_stop_17 F n σ x1 x2 x3 x4 x5 = some r' → ∀ (H : Heap) (locs : List Loc) (ls : Array Slot), Dy g (wM g σ ++ X) s H locs → lv_has ls 6 [(0, .ref (ga g 40)), (1, .int x1), (2, .int x2), (3, .int x3), (4, .int x4), (5, .int x5)] → W p l e (rmD 4) s m args below meth c H locs 0 0 (QI g below args s (wM g σ ++ X) r') (F0 m 17 ls [])) := by
  have hx := C.1
  have hb := C.2.1
  have hE := C.2.2.2.2.2.2.2.2
  intro n
  induction n with
  | zero =>
    intro σ x1 x2 x3 x4 x5 h
    cases h
  | succ n ih =>
    intro σ x1 x2 x3 x4 x5 h H locs ls hd hl
    rw [f_X8_stop_17] at h
    refine lv_iload hx hb dX8_stop_17 (lv_at hl 5 rfl) ?_
    refine lv_aload_n hx hb dX8_stop_19 rfl (lv_at hl 0 rfl) ?_
    refine lv_iload_n hx hb dX8_stop_20 rfl (lv_at hl 1 rfl) ?_
    obtain ⟨r1, er1, h⟩ := cal_e h
    refine rCallI C hd (c_X8_placeOf hE er1) kX8_217 0 rfl rfl rfl rfl hl.1 rfl (Nat.le_of_ble_eq_true rfl) ⟨(Nat.le_of_ble_eq_true rfl), (Nat.le_of_ble_eq_true rfl)⟩ ⟨Nat.le_refl _, Nat.le_refl _⟩ dX8_stop_21 (fun H locs hd => ?_)
    refine lv_icmp_gt (tgt := 59) hx hb dX8_stop_24 (by decide) (fun c2 => ?_) (fun c2 => ?_)
    · replace h := iteT c2 h
      refine lv_iload hx hb dX8_stop_59 (lv_at hl 4 rfl) ?_
      exact rIretP C hr hd h dX8_stop_61
    · replace h := iteF c2 h
      refine lv_aload_n hx hb dX8_stop_27 rfl (lv_at hl 0 rfl) ?_
      refine lv_iload_n hx hb dX8_stop_28 rfl (lv_at hl 1 rfl) ?_
      refine lv_iload hx hb dX8_stop_29 (lv_at hl 5 rfl) ?_
      refine lv_iload_n hx hb dX8_stop_31 rfl (lv_at hl 2 rfl) ?_
      obtain ⟨r3, er3, h⟩ := cal_e h
      refine rCallI C hd (c_X8_isMark hE er3) kX8_365 0 rfl rfl rfl rfl hl.1 rfl (Nat.le_of_ble_eq_true rfl) ⟨(Nat.le_of_ble_eq_true rfl), (Nat.le_of_ble_eq_true rfl)⟩ ⟨Nat.le_refl _, Nat.le_refl _⟩ dX8_stop_32 (fun H locs hd => ?_)
      refine lv_if_eq (tgt := 53) hx hb dX8_stop_35 (by decide) (fun c4 => ?_) (fun c4 => ?_)
      · replace h := iteT c4 h
        exact w_X8_stop_53 C hr ih σ x1 x2 x3 x4 x5 h _ _ _ hd (lv_sub hl [0, 1, 2, 3, 4, 5] rfl)
      · replace h := iteF c4 h
        refine lv_iload_n hx hb dX8_stop_38 rfl (lv_at hl 3 rfl) ?_
        refine lv_if_eq (tgt := 47) hx hb dX8_stop_39 (by decide) (fun c5 => ?_) (fun c5 => ?_)
        · replace h := iteT c5 h
          refine lv_iload hx hb dX8_stop_47 (lv_at hl 5 rfl) ?_
          refine lv_iconst (v := 1) hx hb dX8_stop_49 ic_1 ?_
          refine lv_isub hx hb dX8_stop_50 ?_
          exact w_X8_stop_51 C hr ih σ x1 x2 x3 x5 (x5 - 1) h _ _ _ hd (lv_sub hl [0, 1, 2, 3, 5] rfl)
        · replace h := iteF c5 h
          refine lv_iload hx hb dX8_stop_42 (lv_at hl 5 rfl) ?_
          refine lv_goto (tgt := 51) hx hb dX8_stop_44 (by decide) ?_
          exact w_X8_stop_51 C hr ih σ x1 x2 x3 x5 x5 h _ _ _ hd (lv_sub hl [0, 1, 2, 3, 5] rfl)
noncomputable def f_X8_stop (F : Nat) (σ : St) (x1 : Int32) (x2 : Int32) (x3 : Int32) : Option Int32 :=
  cal (f_X8_isLine F σ x1) (fun r1 => if r1 = 0 then (some (-1 : Int32)) else (f_X8_stop_17 F F σ x1 x2 x3 (-2 : Int32) 1))
set_option maxRecDepth 100000 in
set_option maxHeartbeats 4000000 in
theorem c_X8_stop {l : Launch} {g : Gp} {X : va_W} (hE : E0 g) {F : Nat} {r' : Int32} {σ : St} {x1 : Int32} {x2 : Int32} {x3 : Int32} (h : f_X8_stop F σ x1 x2 x3 = some r') : Ci l g yX8_stop cX8_stop 6 (some .int) 4 [.ref (ga g 40), .int x1, .int x2, .int x3] (wM g σ ++ X) r' (wM g σ ++ X) := by
  refine rHead hE (by decide +kernel) (Nat.le_of_ble_eq_true rfl) (fun p e s m below meth c C hr _ hd ls hl => ?_)
  have hx := C.1
  have hb := C.2.1
  have hl : lv_has ls 6 [(0, .ref (ga g 40)), (1, .int x1), (2, .int x2), (3, .int x3)] := hl
  generalize ([.ref (ga g 40), .int x1, .int x2, .int x3] : List Value).toArray = args at C ⊢
  have C : Cx g p s m args meth c cX8_stop 6 RX8 := C
  rw [f_X8_stop] at h
  refine lv_aload_n hx hb dX8_stop_0 rfl (lv_at hl 0 rfl) ?_
  refine lv_iload_n hx hb dX8_stop_1 rfl (lv_at hl 1 rfl) ?_
  obtain ⟨r1, er1, h⟩ := cal_e h
  refine rCallI C hd (c_X8_isLine hE er1) kX8_262 0 rfl rfl rfl rfl hl.1 rfl (Nat.le_of_ble_eq_true rfl) ⟨(Nat.le_of_ble_eq_true rfl), (Nat.le_of_ble_eq_true rfl)⟩ ⟨Nat.le_refl _, Nat.le_refl _⟩ dX8_stop_2 (fun H locs hd => ?_)
  refine lv_if_ne (tgt := 10) hx hb dX8_stop_5 (by decide) (fun c2 => ?_) (fun c2 => ?_)
  · replace h := iteF c2 h
    refine lv_bipush (v := (-2 : Int32)) hx hb dX8_stop_10 bi_m2 ?_
    refine lv_istore (lv' := [(4, .int (-2 : Int32)), (0, .ref (ga g 40)), (1, .int x1), (2, .int x2), (3, .int x3)]) hx hb dX8_stop_12 hl (Nat.le_of_ble_eq_true rfl) rfl (fun ls hl => ?_)
    refine lv_iconst (v := 1) hx hb dX8_stop_14 ic_1 ?_
    refine lv_istore (lv' := [(5, .int 1), (4, .int (-2 : Int32)), (0, .ref (ga g 40)), (1, .int x1), (2, .int x2), (3, .int x3)]) hx hb dX8_stop_15 hl (Nat.le_of_ble_eq_true rfl) rfl (fun ls hl => ?_)
    exact w_X8_stop_17 C hr _ σ x1 x2 x3 (-2 : Int32) 1 h _ _ _ hd (lv_sub hl [2, 3, 4, 5, 1, 0] rfl)
  · replace h := iteT c2 h
    refine lv_iconst (v := (-1 : Int32)) hx hb dX8_stop_8 ic_m1 ?_
    exact rIretP C hr hd h dX8_stop_9
noncomputable def f_X8_taken (F : Nat) (σ : St) (x1 : Int32) (x2 : Int32) : Option Int32 :=
  cal (f_X8_isCopy F σ x1) (fun r1 => if r1 = 0 then (some (-1 : Int32)) else (cal (f_X8_isPage F σ x2) (fun r3 => if r3 = 0 then (some (-1 : Int32)) else (cal (f_X8_ofTaken F σ x1 x2 2) (fun r5 => some r5)))))
set_option maxRecDepth 100000 in
set_option maxHeartbeats 4000000 in
theorem c_X8_taken {l : Launch} {g : Gp} {X : va_W} (hE : E0 g) {F : Nat} {r' : Int32} {σ : St} {x1 : Int32} {x2 : Int32} (h : f_X8_taken F σ x1 x2 = some r') : Ci l g yX8_taken cX8_taken 3 (some .int) 3 [.ref (ga g 40), .int x1, .int x2] (wM g σ ++ X) r' (wM g σ ++ X) := by
  refine rHead hE (by decide +kernel) (Nat.le_of_ble_eq_true rfl) (fun p e s m below meth c C hr _ hd ls hl => ?_)
  have hx := C.1
  have hb := C.2.1
  have hl : lv_has ls 3 [(0, .ref (ga g 40)), (1, .int x1), (2, .int x2)] := hl
  generalize ([.ref (ga g 40), .int x1, .int x2] : List Value).toArray = args at C ⊢
  have C : Cx g p s m args meth c cX8_taken 3 RX8 := C
  rw [f_X8_taken] at h
  refine lv_aload_n hx hb dX8_taken_0 rfl (lv_at hl 0 rfl) ?_
  refine lv_iload_n hx hb dX8_taken_1 rfl (lv_at hl 1 rfl) ?_
  obtain ⟨r1, er1, h⟩ := cal_e h
  refine rCallI C hd (c_X8_isCopy hE er1) kX8_301 0 rfl rfl rfl rfl hl.1 rfl (Nat.le_of_ble_eq_true rfl) ⟨(Nat.le_of_ble_eq_true rfl), (Nat.le_of_ble_eq_true rfl)⟩ ⟨Nat.le_refl _, Nat.le_refl _⟩ dX8_taken_2 (fun H locs hd => ?_)
  refine lv_if_eq (tgt := 26) hx hb dX8_taken_5 (by decide) (fun c2 => ?_) (fun c2 => ?_)
  · replace h := iteT c2 h
    refine lv_iconst (v := (-1 : Int32)) hx hb dX8_taken_26 ic_m1 ?_
    exact rIretP C hr hd h dX8_taken_27
  · replace h := iteF c2 h
    refine lv_aload_n hx hb dX8_taken_8 rfl (lv_at hl 0 rfl) ?_
    refine lv_iload_n hx hb dX8_taken_9 rfl (lv_at hl 2 rfl) ?_
    obtain ⟨r3, er3, h⟩ := cal_e h
    refine rCallI C hd (c_X8_isPage hE er3) kX8_334 0 rfl rfl rfl rfl hl.1 rfl (Nat.le_of_ble_eq_true rfl) ⟨(Nat.le_of_ble_eq_true rfl), (Nat.le_of_ble_eq_true rfl)⟩ ⟨Nat.le_refl _, Nat.le_refl _⟩ dX8_taken_10 (fun H locs hd => ?_)
    refine lv_if_eq (tgt := 26) hx hb dX8_taken_13 (by decide) (fun c4 => ?_) (fun c4 => ?_)
    · replace h := iteT c4 h
      refine lv_iconst (v := (-1 : Int32)) hx hb dX8_taken_26 ic_m1 ?_
      exact rIretP C hr hd h dX8_taken_27
    · replace h := iteF c4 h
      refine lv_aload_n hx hb dX8_taken_16 rfl (lv_at hl 0 rfl) ?_
      refine lv_iload_n hx hb dX8_taken_17 rfl (lv_at hl 1 rfl) ?_
      refine lv_iload_n hx hb dX8_taken_18 rfl (lv_at hl 2 rfl) ?_
      refine lv_iconst (v := 2) hx hb dX8_taken_19 ic_2 ?_
      obtain ⟨r5, er5, h⟩ := cal_e h
      refine rCallI C hd (c_X8_ofTaken hE er5) kX8_375 0 rfl rfl rfl rfl hl.1 rfl (Nat.le_of_ble_eq_true rfl) ⟨(Nat.le_of_ble_eq_true rfl), (Nat.le_of_ble_eq_true rfl)⟩ ⟨Nat.le_refl _, Nat.le_refl _⟩ dX8_taken_20 (fun H locs hd => ?_)
      refine lv_goto (tgt := 27) hx hb dX8_taken_23 (by decide) ?_
      exact rIretP C hr hd h dX8_taken_27
noncomputable def f_X8_twice_9 (F : Nat) (σ : St) (x1 : Int32) (x2 : Int32) (y0 : Int32) : Option (Int32 × St) :=
  cal (f_X8_hasPiece F σ x1 x2) (fun r1 => if r1 = 0 then (some (0, σ)) else (cal (f_X8_keptOf F σ x1 x2) (fun r3 => if r3 = 0 then (some (0, σ)) else (cal (f_X8_keptOf F σ x1 x2) (fun r5 => if r5 = y0 then (some (0, σ)) else (if inb ((420 + (120 * x1)) + x2) 7164 = true then bnd (sr σ 19 ((420 + (120 * x1)) + x2).toNatClampNeg y0) (fun t8 => some (1, t8)) else none))))))
set_option maxRecDepth 100000 in
set_option maxHeartbeats 4000000 in
theorem w_X8_twice_9 {F : Nat} {r' : Int32} {σ' : St}  (C : Cx g p s m args meth c cX8_twice 5 RX8) (hr : meth.sig.returnType = some .boolean) :
    (∀ (σ : St) (x1 : Int32) (x2 : Int32) (y0 : Int32), f_X8_twice_9 F σ x1 x2 y0 = some (r', σ') → ∀ (H : Heap) (locs : List Loc) (ls : Array Slot), Dy g (wM g σ ++ X) s H locs → lv_has ls 5 [(0, .ref (ga g 40)), (1, .int x1), (2, .int x2)] → W p l e (rmD 3) s m args below meth c H locs 0 0 (QI g below args s (wM g σ' ++ X) r') (F0 m 9 ls [.int y0])) := by
  have hx := C.1
  have hb := C.2.1
  have hE := C.2.2.2.2.2.2.2.2
  intro σ x1 x2 y0 h H locs ls hd hl
  rw [f_X8_twice_9] at h
  refine lv_istore (lv' := [(4, .int y0), (0, .ref (ga g 40)), (1, .int x1), (2, .int x2)]) hx hb dX8_twice_9 hl (Nat.le_of_ble_eq_true rfl) rfl (fun ls hl => ?_)
  refine lv_aload_n hx hb dX8_twice_11 rfl (lv_at hl 1 rfl) ?_
  refine lv_iload_n hx hb dX8_twice_12 rfl (lv_at hl 2 rfl) ?_
  refine lv_iload_n hx hb dX8_twice_13 rfl (lv_at hl 3 rfl) ?_
  obtain ⟨r1, er1, h⟩ := cal_e h
  refine rCallI C hd (c_X8_hasPiece hE er1) kX8_352 0 rfl rfl rfl rfl hl.1 rfl (Nat.le_of_ble_eq_true rfl) ⟨(Nat.le_of_ble_eq_true rfl), (Nat.le_of_ble_eq_true rfl)⟩ ⟨Nat.le_refl _, Nat.le_refl _⟩ dX8_twice_14 (fun H locs hd => ?_)
  refine lv_if_eq (tgt := 40) hx hb dX8_twice_17 (by decide) (fun c2 => ?_) (fun c2 => ?_)
  · replace h := iteT c2 h
    refine lv_iconst (v := 0) hx hb dX8_twice_40 ic_0 ?_
    exact rZretS (w := wM g) C hr hd h (by decide) dX8_twice_41
  · replace h := iteF c2 h
    refine lv_aload_n hx hb dX8_twice_20 rfl (lv_at hl 1 rfl) ?_
    refine lv_iload_n hx hb dX8_twice_21 rfl (lv_at hl 2 rfl) ?_
    refine lv_iload_n hx hb dX8_twice_22 rfl (lv_at hl 3 rfl) ?_
    obtain ⟨r3, er3, h⟩ := cal_e h
    refine rCallI C hd (c_X8_keptOf hE er3) kX8_295 0 rfl rfl rfl rfl hl.1 rfl (Nat.le_of_ble_eq_true rfl) ⟨(Nat.le_of_ble_eq_true rfl), (Nat.le_of_ble_eq_true rfl)⟩ ⟨Nat.le_refl _, Nat.le_refl _⟩ dX8_twice_23 (fun H locs hd => ?_)
    refine lv_if_eq (tgt := 40) hx hb dX8_twice_26 (by decide) (fun c4 => ?_) (fun c4 => ?_)
    · replace h := iteT c4 h
      refine lv_iconst (v := 0) hx hb dX8_twice_40 ic_0 ?_
      exact rZretS (w := wM g) C hr hd h (by decide) dX8_twice_41
    · replace h := iteF c4 h
      refine lv_aload_n hx hb dX8_twice_29 rfl (lv_at hl 1 rfl) ?_
      refine lv_iload_n hx hb dX8_twice_30 rfl (lv_at hl 2 rfl) ?_
      refine lv_iload_n hx hb dX8_twice_31 rfl (lv_at hl 3 rfl) ?_
      obtain ⟨r5, er5, h⟩ := cal_e h
      refine rCallI C hd (c_X8_keptOf hE er5) kX8_295 0 rfl rfl rfl rfl hl.1 rfl (Nat.le_of_ble_eq_true rfl) ⟨(Nat.le_of_ble_eq_true rfl), (Nat.le_of_ble_eq_true rfl)⟩ ⟨Nat.le_refl _, Nat.le_refl _⟩ dX8_twice_32 (fun H locs hd => ?_)
      refine lv_iload hx hb dX8_twice_35 (lv_at hl 0 rfl) ?_
      refine lv_icmp_ne (tgt := 42) hx hb dX8_twice_37 (by decide) (fun c6 => ?_) (fun c6 => ?_)
      · replace h := iteF c6 h
        refine lv_aload_n hx hb dX8_twice_42 rfl (lv_at hl 1 rfl) ?_
        refine gX8_73 C hd dX8_twice_43 ?_
        refine lv_sipush (v := 420) hx hb dX8_twice_46 si_420 ?_
        refine lv_bipush (v := 120) hx hb dX8_twice_49 bi_120 ?_
        refine lv_iload_n hx hb dX8_twice_51 rfl (lv_at hl 2 rfl) ?_
        refine lv_imul hx hb dX8_twice_52 ?_
        refine lv_iadd hx hb dX8_twice_53 ?_
        refine lv_iload_n hx hb dX8_twice_54 rfl (lv_at hl 3 rfl) ?_
        refine lv_iadd hx hb dX8_twice_55 ?_
        refine lv_iload hx hb dX8_twice_56 (lv_at hl 0 rfl) ?_
        obtain ⟨n7, h⟩ := chk h
        obtain ⟨t8, et8, h⟩ := bnd_e h
        refine st_wM_19 C hd (inb_i n7) et8 dX8_twice_58 (fun H locs hd => ?_)
        refine lv_iconst (v := 1) hx hb dX8_twice_59 ic_1 ?_
        exact rZretS (w := wM g) C hr hd h (by decide) dX8_twice_60
      · replace h := iteT c6 h
        refine lv_iconst (v := 0) hx hb dX8_twice_40 ic_0 ?_
        exact rZretS (w := wM g) C hr hd h (by decide) dX8_twice_41
noncomputable def f_X8_twice (F : Nat) (σ : St) (x1 : Int32) (x2 : Int32) (x3 : Int32) : Option (Int32 × St) :=
  if x3 = 0 then (f_X8_twice_9 F σ x1 x2 3) else (f_X8_twice_9 F σ x1 x2 2)
set_option maxRecDepth 100000 in
set_option maxHeartbeats 4000000 in
theorem c_X8_twice {l : Launch} {g : Gp} {X : va_W} (hE : E0 g) {F : Nat} {r' : Int32} {σ' : St} {σ : St} {x1 : Int32} {x2 : Int32} {x3 : Int32} (h : f_X8_twice F σ x1 x2 x3 = some (r', σ')) : Ci l g yX8_twice cX8_twice 5 (some .boolean) 3 [.ref (ga g 40), .int x1, .int x2, .int x3] (wM g σ ++ X) r' (wM g σ' ++ X) := by
  refine rHead hE (by decide +kernel) (Nat.le_of_ble_eq_true rfl) (fun p e s m below meth c C hr _ hd ls hl => ?_)
  have hx := C.1
  have hb := C.2.1
  have hl : lv_has ls 5 [(0, .ref (ga g 40)), (1, .int x1), (2, .int x2), (3, .int x3)] := hl
  generalize ([.ref (ga g 40), .int x1, .int x2, .int x3] : List Value).toArray = args at C ⊢
  have C : Cx g p s m args meth c cX8_twice 5 RX8 := C
  rw [f_X8_twice] at h
  refine lv_iload_n hx hb dX8_twice_0 rfl (lv_at hl 3 rfl) ?_
  refine lv_if_eq (tgt := 8) hx hb dX8_twice_1 (by decide) (fun c1 => ?_) (fun c1 => ?_)
  · replace h := iteT c1 h
    refine lv_iconst (v := 3) hx hb dX8_twice_8 ic_3 ?_
    exact w_X8_twice_9 C hr σ x1 x2 3 h _ _ _ hd (lv_sub hl [0, 1, 2] rfl)
  · replace h := iteF c1 h
    refine lv_iconst (v := 2) hx hb dX8_twice_4 ic_2 ?_
    refine lv_goto (tgt := 9) hx hb dX8_twice_5 (by decide) ?_
    exact w_X8_twice_9 C hr σ x1 x2 2 h _ _ _ hd (lv_sub hl [0, 1, 2] rfl)
noncomputable def f_X8_value (F : Nat) (σ : St) (x1 : Int32) (x2 : Int32) : Option Int32 :=
  cal (f_X8_isRecord F σ x1 x2) (fun r1 => if r1 = 0 then (some 0) else (cal (f_X8_recordAt F σ x1 x2) (fun r3 => if inb (r3 + 2) 7164 = true then some (σ.2.1 19 (r3 + 2).toNatClampNeg) else none)))
set_option maxRecDepth 100000 in
set_option maxHeartbeats 4000000 in
theorem c_X8_value {l : Launch} {g : Gp} {X : va_W} (hE : E0 g) {F : Nat} {r' : Int32} {σ : St} {x1 : Int32} {x2 : Int32} (h : f_X8_value F σ x1 x2 = some r') : Ci l g yX8_value cX8_value 3 (some .int) 4 [.ref (ga g 40), .int x1, .int x2] (wM g σ ++ X) r' (wM g σ ++ X) := by
  refine rHead hE (by decide +kernel) (Nat.le_of_ble_eq_true rfl) (fun p e s m below meth c C hr _ hd ls hl => ?_)
  have hx := C.1
  have hb := C.2.1
  have hl : lv_has ls 3 [(0, .ref (ga g 40)), (1, .int x1), (2, .int x2)] := hl
  generalize ([.ref (ga g 40), .int x1, .int x2] : List Value).toArray = args at C ⊢
  have C : Cx g p s m args meth c cX8_value 3 RX8 := C
  rw [f_X8_value] at h
  refine lv_aload_n hx hb dX8_value_0 rfl (lv_at hl 0 rfl) ?_
  refine lv_iload_n hx hb dX8_value_1 rfl (lv_at hl 1 rfl) ?_
  refine lv_iload_n hx hb dX8_value_2 rfl (lv_at hl 2 rfl) ?_
  obtain ⟨r1, er1, h⟩ := cal_e h
  refine rCallI C hd (c_X8_isRecord hE er1) kX8_355 0 rfl rfl rfl rfl hl.1 rfl (Nat.le_of_ble_eq_true rfl) ⟨(Nat.le_of_ble_eq_true rfl), (Nat.le_of_ble_eq_true rfl)⟩ ⟨Nat.le_refl _, Nat.le_refl _⟩ dX8_value_3 (fun H locs hd => ?_)
  refine lv_if_eq (tgt := 25) hx hb dX8_value_6 (by decide) (fun c2 => ?_) (fun c2 => ?_)
  · replace h := iteT c2 h
    refine lv_iconst (v := 0) hx hb dX8_value_25 ic_0 ?_
    exact rIretP C hr hd h dX8_value_26
  · replace h := iteF c2 h
    refine lv_aload_n hx hb dX8_value_9 rfl (lv_at hl 0 rfl) ?_
    refine gX8_73 C hd dX8_value_10 ?_
    refine lv_aload_n hx hb dX8_value_13 rfl (lv_at hl 0 rfl) ?_
    refine lv_iload_n hx hb dX8_value_14 rfl (lv_at hl 1 rfl) ?_
    refine lv_iload_n hx hb dX8_value_15 rfl (lv_at hl 2 rfl) ?_
    obtain ⟨r3, er3, h⟩ := cal_e h
    refine rCallI C hd (c_X8_recordAt hE er3) kX8_280 0 rfl rfl rfl rfl hl.1 rfl (Nat.le_of_ble_eq_true rfl) ⟨(Nat.le_of_ble_eq_true rfl), (Nat.le_of_ble_eq_true rfl)⟩ ⟨Nat.le_refl _, Nat.le_refl _⟩ dX8_value_16 (fun H locs hd => ?_)
    refine lv_iconst (v := 2) hx hb dX8_value_19 ic_2 ?_
    refine lv_iadd hx hb dX8_value_20 ?_
    obtain ⟨n4, h⟩ := chk h
    refine ld_wM_19 C hd (inb_i n4) dX8_value_21 ?_
    refine lv_goto (tgt := 26) hx hb dX8_value_22 (by decide) ?_
    exact rIretP C hr hd h dX8_value_26
noncomputable def f_X8_way_30 (F : Nat) : Nat → St → Int32 → Int32 → Int32 → Option Int32
  | 0, _, _, _, _ => none
  | n + 1, σ, x2, x3, x4 => if x2 ≤ x4 then (some x3) else (cal (f_X8_parentOf F σ x3) (fun r2 => bnd (x4 + 1) (fun v3 => f_X8_way_30 F n σ x2 r2 v3)))
set_option maxRecDepth 100000 in
set_option maxHeartbeats 4000000 in
theorem w_X8_way_30 {F : Nat} {r' : Int32}  (C : Cx g p s m args meth c cX8_way 5 RX8) (hr : meth.sig.returnType = some .int) :
    (∀ (n : Nat) (σ : St) (x2 : Int32) (x3 : Int32) (x4 : Int32), f_X8_way_30 F n σ x2 x3 x4 = some r' → ∀ (H : Heap) (locs : List Loc) (ls : Array Slot), Dy g (wM g σ ++ X) s H locs → lv_has ls 5 [(0, .ref (ga g 40)), (2, .int x2), (3, .int x3), (4, .int x4)] → W p l e (rmD 2) s m args below meth c H locs 0 0 (QI g below args s (wM g σ ++ X) r') (F0 m 30 ls [])) := by
  have hx := C.1
  have hb := C.2.1
  have hE := C.2.2.2.2.2.2.2.2
  intro n
  induction n with
  | zero =>
    intro σ x2 x3 x4 h
    cases h
  | succ n ih =>
    intro σ x2 x3 x4 h H locs ls hd hl
    rw [f_X8_way_30] at h
    refine lv_iload hx hb dX8_way_30 (lv_at hl 3 rfl) ?_
    refine lv_iload_n hx hb dX8_way_32 rfl (lv_at hl 1 rfl) ?_
    refine lv_icmp_ge (tgt := 48) hx hb dX8_way_33 (by decide) (fun c1 => ?_) (fun c1 => ?_)
    · replace h := iteT c1 h
      refine lv_iload_n hx hb dX8_way_48 rfl (lv_at hl 2 rfl) ?_
      exact rIretP C hr hd h dX8_way_49
    · replace h := iteF c1 h
      refine lv_aload_n hx hb dX8_way_36 rfl (lv_at hl 0 rfl) ?_
      refine lv_iload_n hx hb dX8_way_37 rfl (lv_at hl 2 rfl) ?_
      obtain ⟨r2, er2, h⟩ := cal_e h
      refine rCallI C hd (c_X8_parentOf hE er2) kX8_268 0 rfl rfl rfl rfl hl.1 rfl (Nat.le_of_ble_eq_true rfl) ⟨(Nat.le_of_ble_eq_true rfl), (Nat.le_of_ble_eq_true rfl)⟩ ⟨Nat.le_refl _, Nat.le_refl _⟩ dX8_way_38 (fun H locs hd => ?_)
      refine lv_istore_n (lv' := [(3, .int r2), (0, .ref (ga g 40)), (2, .int x2), (4, .int x4)]) hx hb dX8_way_41 rfl hl (Nat.le_of_ble_eq_true rfl) rfl (fun ls hl => ?_)
      obtain ⟨v3, ev3, h⟩ := bnd_e h
      refine lv_iinc (v := v3) (lv' := [(4, .int v3), (3, .int r2), (0, .ref (ga g 40)), (2, .int x2)]) hx hb dX8_way_42 hl (k := 3) rfl ((ii_1 _).trans ev3.symm) (Nat.le_of_ble_eq_true rfl) rfl (fun ls hl => ?_)
      refine lv_goto (tgt := 30) hx hb dX8_way_45 (by decide) ?_
      exact ih σ x2 r2 v3 h _ _ _ hd (lv_sub hl [2, 3, 1, 0] rfl)
noncomputable def f_X8_way (F : Nat) (σ : St) (x1 : Int32) (x2 : Int32) : Option Int32 :=
  cal (f_X8_isLine F σ x1) (fun r1 => if r1 = 0 then (some (-1 : Int32)) else (cal (f_X8_linesOf F σ x1) (fun r3 => cal (f_X8_in F σ x2 0 (r3 - 1)) (fun r4 => if r4 = 0 then (some (-1 : Int32)) else (f_X8_way_30 F F σ x2 x1 0)))))
set_option maxRecDepth 100000 in
set_option maxHeartbeats 4000000 in
theorem c_X8_way {l : Launch} {g : Gp} {X : va_W} (hE : E0 g) {F : Nat} {r' : Int32} {σ : St} {x1 : Int32} {x2 : Int32} (h : f_X8_way F σ x1 x2 = some r') : Ci l g yX8_way cX8_way 5 (some .int) 2 [.ref (ga g 40), .int x1, .int x2] (wM g σ ++ X) r' (wM g σ ++ X) := by
  refine rHead hE (by decide +kernel) (Nat.le_of_ble_eq_true rfl) (fun p e s m below meth c C hr _ hd ls hl => ?_)
  have hx := C.1
  have hb := C.2.1
  have hl : lv_has ls 5 [(0, .ref (ga g 40)), (1, .int x1), (2, .int x2)] := hl
  generalize ([.ref (ga g 40), .int x1, .int x2] : List Value).toArray = args at C ⊢
  have C : Cx g p s m args meth c cX8_way 5 RX8 := C
  rw [f_X8_way] at h
  refine lv_aload_n hx hb dX8_way_0 rfl (lv_at hl 0 rfl) ?_
  refine lv_iload_n hx hb dX8_way_1 rfl (lv_at hl 1 rfl) ?_
  obtain ⟨r1, er1, h⟩ := cal_e h
  refine rCallI C hd (c_X8_isLine hE er1) kX8_262 0 rfl rfl rfl rfl hl.1 rfl (Nat.le_of_ble_eq_true rfl) ⟨(Nat.le_of_ble_eq_true rfl), (Nat.le_of_ble_eq_true rfl)⟩ ⟨Nat.le_refl _, Nat.le_refl _⟩ dX8_way_2 (fun H locs hd => ?_)
  refine lv_if_eq (tgt := 23) hx hb dX8_way_5 (by decide) (fun c2 => ?_) (fun c2 => ?_)
  · replace h := iteT c2 h
    refine lv_iconst (v := (-1 : Int32)) hx hb dX8_way_23 ic_m1 ?_
    exact rIretP C hr hd h dX8_way_24
  · replace h := iteF c2 h
    refine lv_iload_n hx hb dX8_way_8 rfl (lv_at hl 2 rfl) ?_
    refine lv_iconst (v := 0) hx hb dX8_way_9 ic_0 ?_
    refine lv_aload_n hx hb dX8_way_10 rfl (lv_at hl 0 rfl) ?_
    refine lv_iload_n hx hb dX8_way_11 rfl (lv_at hl 1 rfl) ?_
    obtain ⟨r3, er3, h⟩ := cal_e h
    refine rCallI C hd (c_X8_linesOf hE er3) kX8_359 0 rfl rfl rfl rfl hl.1 rfl (Nat.le_of_ble_eq_true rfl) ⟨(Nat.le_of_ble_eq_true rfl), (Nat.le_of_ble_eq_true rfl)⟩ ⟨Nat.le_refl _, Nat.le_refl _⟩ dX8_way_12 (fun H locs hd => ?_)
    refine lv_iconst (v := 1) hx hb dX8_way_15 ic_1 ?_
    refine lv_isub hx hb dX8_way_16 ?_
    obtain ⟨r4, er4, h⟩ := cal_e h
    refine rCallSI C hd (c_X8_in hE er4) kX8_194 rfl hl.1 rfl (Nat.le_of_ble_eq_true rfl) ⟨(Nat.le_of_ble_eq_true rfl), (Nat.le_of_ble_eq_true rfl)⟩ ⟨Nat.le_refl _, Nat.le_refl _⟩ dX8_way_17 (fun H locs hd => ?_)
    refine lv_if_ne (tgt := 25) hx hb dX8_way_20 (by decide) (fun c5 => ?_) (fun c5 => ?_)
    · replace h := iteF c5 h
      refine lv_iload_n hx hb dX8_way_25 rfl (lv_at hl 1 rfl) ?_
      refine lv_istore_n (lv' := [(3, .int x1), (0, .ref (ga g 40)), (1, .int x1), (2, .int x2)]) hx hb dX8_way_26 rfl hl (Nat.le_of_ble_eq_true rfl) rfl (fun ls hl => ?_)
      refine lv_iconst (v := 0) hx hb dX8_way_27 ic_0 ?_
      refine lv_istore (lv' := [(4, .int 0), (3, .int x1), (0, .ref (ga g 40)), (1, .int x1), (2, .int x2)]) hx hb dX8_way_28 hl (Nat.le_of_ble_eq_true rfl) rfl (fun ls hl => ?_)
      exact w_X8_way_30 C hr _ σ x2 x1 0 h _ _ _ hd (lv_sub hl [2, 4, 1, 0] rfl)
    · replace h := iteT c5 h
      refine lv_iconst (v := (-1 : Int32)) hx hb dX8_way_23 ic_m1 ?_
      exact rIretP C hr hd h dX8_way_24
noncomputable def f_X8_where_86 (F : Nat) (k_45 : St → Int32 → Int32 → Int32 → Int32 → Int32 → Int32 → Int32 → Option Int32) (σ : St) (x1 : Int32) (x2 : Int32) (x3 : Int32) (x4 : Int32) (x5 : Int32) (x6 : Int32) (x7 : Int32) : Option Int32 :=
  bnd (x7 + 1) (fun v1 => k_45 σ x1 x2 x3 x4 x5 x6 v1)
set_option maxRecDepth 100000 in
set_option maxHeartbeats 4000000 in
theorem w_X8_where_86 {F : Nat} {r' : Int32}  (C : Cx g p s m args meth c cX8_where 8 RX8) (hr : meth.sig.returnType = some .int)
    {k_45 : St → Int32 → Int32 → Int32 → Int32 → Int32 → Int32 → Int32 → Option Int32} (hk_45 : (∀ (σ : St) (x1 : Int32) (x2 : Int32) (x3 : Int32) (x4 : Int32) (x5 : Int32) (x6 : Int32) (x7 : Int32), k_45 σ x1 x2 x3 x4 x5 x6 x7 = some r' → ∀ (H : Heap) (locs : List Loc) (ls : Array Slot), Dy g (wM g σ ++ X) s H locs → lv_has ls 8 [(0, .ref (ga g 40)), (1, .int x1), (2, .int x2), (3, .int x3), (4, .int x4), (5, .int x5), (6, .int x6), (7, .int x7)] → W p l e (rmD 4) s m args below meth c H locs 0 0 (QI g below args s (wM g σ ++ X) r') (F0 m 45 ls []))) :
    (∀ (σ : St) (x1 : Int32) (x2 : Int32) (x3 : Int32) (x4 : Int32) (x5 : Int32) (x6 : Int32) (x7 : Int32), f_X8_where_86 F k_45 σ x1 x2 x3 x4 x5 x6 x7 = some r' → ∀ (H : Heap) (locs : List Loc) (ls : Array Slot), Dy g (wM g σ ++ X) s H locs → lv_has ls 8 [(0, .ref (ga g 40)), (1, .int x1), (2, .int x2), (3, .int x3), (4, .int x4), (5, .int x5), (6, .int x6), (7, .int x7)] → W p l e (rmD 4) s m args below meth c H locs 0 0 (QI g below args s (wM g σ ++ X) r') (F0 m 86 ls [])) := by
  have hx := C.1
  have hb := C.2.1
  have hE := C.2.2.2.2.2.2.2.2
  intro σ x1 x2 x3 x4 x5 x6 x7 h H locs ls hd hl
  rw [f_X8_where_86] at h
  obtain ⟨v1, ev1, h⟩ := bnd_e h
  refine lv_iinc (v := v1) (lv' := [(7, .int v1), (0, .ref (ga g 40)), (1, .int x1), (2, .int x2), (3, .int x3), (4, .int x4), (5, .int x5), (6, .int x6)]) hx hb dX8_where_86 hl (k := 7) rfl ((ii_1 _).trans ev1.symm) (Nat.le_of_ble_eq_true rfl) rfl (fun ls hl => ?_)
  refine lv_goto (tgt := 45) hx hb dX8_where_89 (by decide) ?_
  exact hk_45 σ x1 x2 x3 x4 x5 x6 v1 h _ _ _ hd (lv_sub hl [1, 2, 3, 4, 5, 6, 7, 0] rfl)
noncomputable def f_X8_where_83 (F : Nat) (k_45 : St → Int32 → Int32 → Int32 → Int32 → Int32 → Int32 → Int32 → Option Int32) (σ : St) (x1 : Int32) (x2 : Int32) (x3 : Int32) (x4 : Int32) (x5 : Int32) (x6 : Int32) (x7 : Int32) : Option Int32 :=
  bnd (x3 + 1) (fun v1 => f_X8_where_86 F k_45 σ x1 x2 v1 x4 x5 x6 x7)
set_option maxRecDepth 100000 in
set_option maxHeartbeats 4000000 in
theorem w_X8_where_83 {F : Nat} {r' : Int32}  (C : Cx g p s m args meth c cX8_where 8 RX8) (hr : meth.sig.returnType = some .int)
    {k_45 : St → Int32 → Int32 → Int32 → Int32 → Int32 → Int32 → Int32 → Option Int32} (hk_45 : (∀ (σ : St) (x1 : Int32) (x2 : Int32) (x3 : Int32) (x4 : Int32) (x5 : Int32) (x6 : Int32) (x7 : Int32), k_45 σ x1 x2 x3 x4 x5 x6 x7 = some r' → ∀ (H : Heap) (locs : List Loc) (ls : Array Slot), Dy g (wM g σ ++ X) s H locs → lv_has ls 8 [(0, .ref (ga g 40)), (1, .int x1), (2, .int x2), (3, .int x3), (4, .int x4), (5, .int x5), (6, .int x6), (7, .int x7)] → W p l e (rmD 4) s m args below meth c H locs 0 0 (QI g below args s (wM g σ ++ X) r') (F0 m 45 ls []))) :
    (∀ (σ : St) (x1 : Int32) (x2 : Int32) (x3 : Int32) (x4 : Int32) (x5 : Int32) (x6 : Int32) (x7 : Int32), f_X8_where_83 F k_45 σ x1 x2 x3 x4 x5 x6 x7 = some r' → ∀ (H : Heap) (locs : List Loc) (ls : Array Slot), Dy g (wM g σ ++ X) s H locs → lv_has ls 8 [(0, .ref (ga g 40)), (1, .int x1), (2, .int x2), (3, .int x3), (4, .int x4), (5, .int x5), (6, .int x6), (7, .int x7)] → W p l e (rmD 4) s m args below meth c H locs 0 0 (QI g below args s (wM g σ ++ X) r') (F0 m 83 ls [])) := by
  have hx := C.1
  have hb := C.2.1
  have hE := C.2.2.2.2.2.2.2.2
  intro σ x1 x2 x3 x4 x5 x6 x7 h H locs ls hd hl
  rw [f_X8_where_83] at h
  obtain ⟨v1, ev1, h⟩ := bnd_e h
  refine lv_iinc (v := v1) (lv' := [(3, .int v1), (0, .ref (ga g 40)), (1, .int x1), (2, .int x2), (4, .int x4), (5, .int x5), (6, .int x6), (7, .int x7)]) hx hb dX8_where_83 hl (k := 3) rfl ((ii_1 _).trans ev1.symm) (Nat.le_of_ble_eq_true rfl) rfl (fun ls hl => ?_)
  exact w_X8_where_86 C hr hk_45 σ x1 x2 v1 x4 x5 x6 x7 h _ _ _ hd (lv_sub hl [1, 2, 3, 0, 4, 5, 6, 7] rfl)
noncomputable def f_X8_where_45 (F : Nat) (k_24 : St → Int32 → Int32 → Int32 → Int32 → Int32 → Int32 → Option Int32) : Nat → St → Int32 → Int32 → Int32 → Int32 → Int32 → Int32 → Int32 → Option Int32
  | 0, _, _, _, _, _, _, _, _ => none
  | n + 1, σ, x1, x2, x3, x4, x5, x6, x7 => cal (f_X8_placeOf F σ x6) (fun r1 => if r1 < x7 then (bnd (x6 + 1) (fun v3 => k_24 σ x1 x2 x3 x4 x5 v3)) else (cal (f_X8_isMark F σ x6 x7 x1) (fun r4 => if r4 = 0 then (f_X8_where_86 F (f_X8_where_45 F k_24 n) σ x1 x2 x3 x4 x5 x6 x7) else (if x3 = 0 then (f_X8_where_83 F (f_X8_where_45 F k_24 n) σ x1 x2 x3 x6 x7 x6 x7) else (f_X8_where_83 F (f_X8_where_45 F k_24 n) σ x1 x2 x3 x4 x5 x6 x7)))))
set_option maxRecDepth 100000 in
set_option maxHeartbeats 4000000 in
theorem w_X8_where_45 {F : Nat} {r' : Int32}  (C : Cx g p s m args meth c cX8_where 8 RX8) (hr : meth.sig.returnType = some .int)
    {k_24 : St → Int32 → Int32 → Int32 → Int32 → Int32 → Int32 → Option Int32} (hk_24 : (∀ (σ : St) (x1 : Int32) (x2 : Int32) (x3 : Int32) (x4 : Int32) (x5 : Int32) (x6 : Int32), k_24 σ x1 x2 x3 x4 x5 x6 = some r' → ∀ (H : Heap) (locs : List Loc) (ls : Array Slot), Dy g (wM g σ ++ X) s H locs → lv_has ls 8 [(0, .ref (ga g 40)), (1, .int x1), (2, .int x2), (3, .int x3), (4, .int x4), (5, .int x5), (6, .int x6)] → W p l e (rmD 4) s m args below meth c H locs 0 0 (QI g below args s (wM g σ ++ X) r') (F0 m 24 ls []))) :
    (∀ (n : Nat) (σ : St) (x1 : Int32) (x2 : Int32) (x3 : Int32) (x4 : Int32) (x5 : Int32) (x6 : Int32) (x7 : Int32), f_X8_where_45 F k_24 n σ x1 x2 x3 x4 x5 x6 x7 = some r' → ∀ (H : Heap) (locs : List Loc) (ls : Array Slot), Dy g (wM g σ ++ X) s H locs → lv_has ls 8 [(0, .ref (ga g 40)), (1, .int x1), (2, .int x2), (3, .int x3), (4, .int x4), (5, .int x5), (6, .int x6), (7, .int x7)] → W p l e (rmD 4) s m args below meth c H locs 0 0 (QI g below args s (wM g σ ++ X) r') (F0 m 45 ls [])) := by
  have hx := C.1
  have hb := C.2.1
  have hE := C.2.2.2.2.2.2.2.2
  intro n
  induction n with
  | zero =>
    intro σ x1 x2 x3 x4 x5 x6 x7 h
    cases h
  | succ n ih =>
    intro σ x1 x2 x3 x4 x5 x6 x7 h H locs ls hd hl
    rw [f_X8_where_45] at h
    refine lv_iload hx hb dX8_where_45 (lv_at hl 7 rfl) ?_
    refine lv_aload_n hx hb dX8_where_47 rfl (lv_at hl 0 rfl) ?_
    refine lv_iload hx hb dX8_where_48 (lv_at hl 6 rfl) ?_
    obtain ⟨r1, er1, h⟩ := cal_e h
    refine rCallI C hd (c_X8_placeOf hE er1) kX8_217 0 rfl rfl rfl rfl hl.1 rfl (Nat.le_of_ble_eq_true rfl) ⟨(Nat.le_of_ble_eq_true rfl), (Nat.le_of_ble_eq_true rfl)⟩ ⟨Nat.le_refl _, Nat.le_refl _⟩ dX8_where_50 (fun H locs hd => ?_)
    refine lv_icmp_gt (tgt := 92) hx hb dX8_where_53 (by decide) (fun c2 => ?_) (fun c2 => ?_)
    · replace h := iteT c2 h
      obtain ⟨v3, ev3, h⟩ := bnd_e h
      refine lv_iinc (v := v3) (lv' := [(6, .int v3), (0, .ref (ga g 40)), (1, .int x1), (2, .int x2), (3, .int x3), (4, .int x4), (5, .int x5), (7, .int x7)]) hx hb dX8_where_92 hl (k := 6) rfl ((ii_1 _).trans ev3.symm) (Nat.le_of_ble_eq_true rfl) rfl (fun ls hl => ?_)
      refine lv_goto (tgt := 24) hx hb dX8_where_95 (by decide) ?_
      exact hk_24 σ x1 x2 x3 x4 x5 v3 h _ _ _ hd (lv_sub hl [1, 2, 3, 4, 5, 6, 0] rfl)
    · replace h := iteF c2 h
      refine lv_aload_n hx hb dX8_where_56 rfl (lv_at hl 0 rfl) ?_
      refine lv_iload hx hb dX8_where_57 (lv_at hl 6 rfl) ?_
      refine lv_iload hx hb dX8_where_59 (lv_at hl 7 rfl) ?_
      refine lv_iload_n hx hb dX8_where_61 rfl (lv_at hl 1 rfl) ?_
      obtain ⟨r4, er4, h⟩ := cal_e h
      refine rCallI C hd (c_X8_isMark hE er4) kX8_365 0 rfl rfl rfl rfl hl.1 rfl (Nat.le_of_ble_eq_true rfl) ⟨(Nat.le_of_ble_eq_true rfl), (Nat.le_of_ble_eq_true rfl)⟩ ⟨Nat.le_refl _, Nat.le_refl _⟩ dX8_where_62 (fun H locs hd => ?_)
      refine lv_if_ne (tgt := 71) hx hb dX8_where_65 (by decide) (fun c5 => ?_) (fun c5 => ?_)
      · replace h := iteF c5 h
        refine lv_iload_n hx hb dX8_where_71 rfl (lv_at hl 3 rfl) ?_
        refine lv_if_ne (tgt := 83) hx hb dX8_where_72 (by decide) (fun c6 => ?_) (fun c6 => ?_)
        · replace h := iteF c6 h
          exact w_X8_where_83 C hr ih σ x1 x2 x3 x4 x5 x6 x7 h _ _ _ hd (lv_sub hl [0, 1, 2, 3, 4, 5, 6, 7] rfl)
        · replace h := iteT c6 h
          refine lv_iload hx hb dX8_where_75 (lv_at hl 6 rfl) ?_
          refine lv_istore (lv' := [(4, .int x6), (0, .ref (ga g 40)), (1, .int x1), (2, .int x2), (3, .int x3), (5, .int x5), (6, .int x6), (7, .int x7)]) hx hb dX8_where_77 hl (Nat.le_of_ble_eq_true rfl) rfl (fun ls hl => ?_)
          refine lv_iload hx hb dX8_where_79 (lv_at hl 7 rfl) ?_
          refine lv_istore (lv' := [(5, .int x7), (4, .int x6), (0, .ref (ga g 40)), (1, .int x1), (2, .int x2), (3, .int x3), (6, .int x6), (7, .int x7)]) hx hb dX8_where_81 hl (Nat.le_of_ble_eq_true rfl) rfl (fun ls hl => ?_)
          exact w_X8_where_83 C hr ih σ x1 x2 x3 x6 x7 x6 x7 h _ _ _ hd (lv_sub hl [2, 3, 4, 5, 1, 0, 6, 7] rfl)
      · replace h := iteT c5 h
        refine lv_goto (tgt := 86) hx hb dX8_where_68 (by decide) ?_
        exact w_X8_where_86 C hr ih σ x1 x2 x3 x4 x5 x6 x7 h _ _ _ hd (lv_sub hl [0, 1, 2, 3, 4, 5, 6, 7] rfl)
noncomputable def f_X8_where_24 (F : Nat) : Nat → St → Int32 → Int32 → Int32 → Int32 → Int32 → Int32 → Option Int32
  | 0, _, _, _, _, _, _, _ => none
  | n + 1, σ, x1, x2, x3, x4, x5, x6 => if (σ.2.1 19 2) ≤ x6 then (if x2 = 0 then (some x3) else (if x2 = 1 then (some x4) else (some x5))) else (cal (f_X8_forkOf F σ x6) (fun r4 => bnd (r4 + 1) (fun v5 => f_X8_where_45 F (f_X8_where_24 F n) F σ x1 x2 x3 x4 x5 x6 v5)))
set_option maxRecDepth 100000 in
set_option maxHeartbeats 4000000 in
theorem w_X8_where_24 {F : Nat} {r' : Int32}  (C : Cx g p s m args meth c cX8_where 8 RX8) (hr : meth.sig.returnType = some .int) :
    (∀ (n : Nat) (σ : St) (x1 : Int32) (x2 : Int32) (x3 : Int32) (x4 : Int32) (x5 : Int32) (x6 : Int32), f_X8_where_24 F n σ x1 x2 x3 x4 x5 x6 = some r' → ∀ (H : Heap) (locs : List Loc) (ls : Array Slot), Dy g (wM g σ ++ X) s H locs → lv_has ls 8 [(0, .ref (ga g 40)), (1, .int x1), (2, .int x2), (3, .int x3), (4, .int x4), (5, .int x5), (6, .int x6)] → W p l e (rmD 4) s m args below meth c H locs 0 0 (QI g below args s (wM g σ ++ X) r') (F0 m 24 ls [])) := by
  have hx := C.1
  have hb := C.2.1
  have hE := C.2.2.2.2.2.2.2.2
  intro n
  induction n with
  | zero =>
    intro σ x1 x2 x3 x4 x5 x6 h
    cases h
  | succ n ih =>
    intro σ x1 x2 x3 x4 x5 x6 h H locs ls hd hl
    rw [f_X8_where_24] at h
    refine lv_iload hx hb dX8_where_24 (lv_at hl 6 rfl) ?_
    refine lv_aload_n hx hb dX8_where_26 rfl (lv_at hl 0 rfl) ?_
    refine gX8_73 C hd dX8_where_27 ?_
    refine lv_iconst (v := 2) hx hb dX8_where_30 ic_2 ?_
    refine ldc_wM_19 C hd cl_2 (inb_i (by decide +kernel)) dX8_where_31 ?_
    refine lv_icmp_ge (tgt := 98) hx hb dX8_where_32 (by decide) (fun c1 => ?_) (fun c1 => ?_)
    · replace h := iteT c1 h
      refine lv_iload_n hx hb dX8_where_98 rfl (lv_at hl 2 rfl) ?_
      refine lv_if_ne (tgt := 106) hx hb dX8_where_99 (by decide) (fun c2 => ?_) (fun c2 => ?_)
      · replace h := iteF c2 h
        refine lv_iload_n hx hb dX8_where_106 rfl (lv_at hl 2 rfl) ?_
        refine lv_iconst (v := 1) hx hb dX8_where_107 ic_1 ?_
        refine lv_icmp_ne (tgt := 116) hx hb dX8_where_108 (by decide) (fun c3 => ?_) (fun c3 => ?_)
        · replace h := iteF c3 h
          refine lv_iload hx hb dX8_where_116 (lv_at hl 5 rfl) ?_
          exact rIretP C hr hd h dX8_where_118
        · replace h := iteT c3 h
          refine lv_iload hx hb dX8_where_111 (lv_at hl 4 rfl) ?_
          refine lv_goto (tgt := 118) hx hb dX8_where_113 (by decide) ?_
          exact rIretP C hr hd h dX8_where_118
      · replace h := iteT c2 h
        refine lv_iload_n hx hb dX8_where_102 rfl (lv_at hl 3 rfl) ?_
        refine lv_goto (tgt := 118) hx hb dX8_where_103 (by decide) ?_
        exact rIretP C hr hd h dX8_where_118
    · replace h := iteF c1 h
      refine lv_aload_n hx hb dX8_where_35 rfl (lv_at hl 0 rfl) ?_
      refine lv_iload hx hb dX8_where_36 (lv_at hl 6 rfl) ?_
      obtain ⟨r4, er4, h⟩ := cal_e h
      refine rCallI C hd (c_X8_forkOf hE er4) kX8_265 0 rfl rfl rfl rfl hl.1 rfl (Nat.le_of_ble_eq_true rfl) ⟨(Nat.le_of_ble_eq_true rfl), (Nat.le_of_ble_eq_true rfl)⟩ ⟨Nat.le_refl _, Nat.le_refl _⟩ dX8_where_38 (fun H locs hd => ?_)
      refine lv_iconst (v := 1) hx hb dX8_where_41 ic_1 ?_
      refine lv_iadd hx hb dX8_where_42 ?_
      obtain ⟨v5, ev5, h⟩ := bnd_e h
      refine rTop ev5 ?_
      refine lv_istore (lv' := [(7, .int v5), (0, .ref (ga g 40)), (1, .int x1), (2, .int x2), (3, .int x3), (4, .int x4), (5, .int x5), (6, .int x6)]) hx hb dX8_where_43 hl (Nat.le_of_ble_eq_true rfl) rfl (fun ls hl => ?_)
      exact w_X8_where_45 C hr ih _ σ x1 x2 x3 x4 x5 x6 v5 h _ _ _ hd (lv_sub hl [1, 2, 3, 4, 5, 6, 7, 0] rfl)
noncomputable def f_X8_where (F : Nat) (σ : St) (x1 : Int32) (x2 : Int32) : Option Int32 :=
  cal (f_X8_in F σ x2 0 2) (fun r1 => if r1 = 0 then (some (-1 : Int32)) else (f_X8_where_24 F F σ x1 x2 0 (-2 : Int32) (-2 : Int32) 0))
set_option maxRecDepth 100000 in
set_option maxHeartbeats 4000000 in
theorem c_X8_where {l : Launch} {g : Gp} {X : va_W} (hE : E0 g) {F : Nat} {r' : Int32} {σ : St} {x1 : Int32} {x2 : Int32} (h : f_X8_where F σ x1 x2 = some r') : Ci l g yX8_where cX8_where 8 (some .int) 4 [.ref (ga g 40), .int x1, .int x2] (wM g σ ++ X) r' (wM g σ ++ X) := by
  refine rHead hE (by decide +kernel) (Nat.le_of_ble_eq_true rfl) (fun p e s m below meth c C hr _ hd ls hl => ?_)
  have hx := C.1
  have hb := C.2.1
  have hl : lv_has ls 8 [(0, .ref (ga g 40)), (1, .int x1), (2, .int x2)] := hl
  generalize ([.ref (ga g 40), .int x1, .int x2] : List Value).toArray = args at C ⊢
  have C : Cx g p s m args meth c cX8_where 8 RX8 := C
  rw [f_X8_where] at h
  refine lv_iload_n hx hb dX8_where_0 rfl (lv_at hl 2 rfl) ?_
  refine lv_iconst (v := 0) hx hb dX8_where_1 ic_0 ?_
  refine lv_iconst (v := 2) hx hb dX8_where_2 ic_2 ?_
  obtain ⟨r1, er1, h⟩ := cal_e h
  refine rCallSI C hd (c_X8_in hE er1) kX8_194 rfl hl.1 rfl (Nat.le_of_ble_eq_true rfl) ⟨(Nat.le_of_ble_eq_true rfl), (Nat.le_of_ble_eq_true rfl)⟩ ⟨Nat.le_refl _, Nat.le_refl _⟩ dX8_where_3 (fun H locs hd => ?_)
  refine lv_if_ne (tgt := 11) hx hb dX8_where_6 (by decide) (fun c2 => ?_) (fun c2 => ?_)
  · replace h := iteF c2 h
    refine lv_iconst (v := 0) hx hb dX8_where_11 ic_0 ?_
    refine lv_istore_n (lv' := [(3, .int 0), (0, .ref (ga g 40)), (1, .int x1), (2, .int x2)]) hx hb dX8_where_12 rfl hl (Nat.le_of_ble_eq_true rfl) rfl (fun ls hl => ?_)
    refine lv_bipush (v := (-2 : Int32)) hx hb dX8_where_13 bi_m2 ?_
    refine lv_istore (lv' := [(4, .int (-2 : Int32)), (3, .int 0), (0, .ref (ga g 40)), (1, .int x1), (2, .int x2)]) hx hb dX8_where_15 hl (Nat.le_of_ble_eq_true rfl) rfl (fun ls hl => ?_)
    refine lv_bipush (v := (-2 : Int32)) hx hb dX8_where_17 bi_m2 ?_
    refine lv_istore (lv' := [(5, .int (-2 : Int32)), (4, .int (-2 : Int32)), (3, .int 0), (0, .ref (ga g 40)), (1, .int x1), (2, .int x2)]) hx hb dX8_where_19 hl (Nat.le_of_ble_eq_true rfl) rfl (fun ls hl => ?_)
    refine lv_iconst (v := 0) hx hb dX8_where_21 ic_0 ?_
    refine lv_istore (lv' := [(6, .int 0), (5, .int (-2 : Int32)), (4, .int (-2 : Int32)), (3, .int 0), (0, .ref (ga g 40)), (1, .int x1), (2, .int x2)]) hx hb dX8_where_22 hl (Nat.le_of_ble_eq_true rfl) rfl (fun ls hl => ?_)
    exact w_X8_where_24 C hr _ σ x1 x2 0 (-2 : Int32) (-2 : Int32) 0 h _ _ _ hd (lv_sub hl [4, 5, 6, 3, 2, 1, 0] rfl)
  · replace h := iteT c2 h
    refine lv_iconst (v := (-1 : Int32)) hx hb dX8_where_9 ic_m1 ?_
    exact rIretP C hr hd h dX8_where_10
noncomputable def f_X8_window_81 (F : Nat) (k_41 : St → Int32 → Int32 → Int32 → Int32 → Int32 → Int32 → Int32 → Option (Int32 × St)) (σ : St) (x1 : Int32) (x2 : Int32) (x3 : Int32) (x4 : Int32) (x5 : Int32) (x6 : Int32) (x7 : Int32) : Option (Int32 × St) :=
  bnd (x7 + 1) (fun v1 => k_41 σ x1 x2 x3 x4 x5 x6 v1)
set_option maxRecDepth 100000 in
set_option maxHeartbeats 4000000 in
theorem w_X8_window_81 {F : Nat} {r' : Int32} {σ' : St}  (C : Cx g p s m args meth c cX8_window 8 RX8) (hr : meth.sig.returnType = some .int)
    {k_41 : St → Int32 → Int32 → Int32 → Int32 → Int32 → Int32 → Int32 → Option (Int32 × St)} (hk_41 : (∀ (σ : St) (x1 : Int32) (x2 : Int32) (x3 : Int32) (x4 : Int32) (x5 : Int32) (x6 : Int32) (x7 : Int32), k_41 σ x1 x2 x3 x4 x5 x6 x7 = some (r', σ') → ∀ (H : Heap) (locs : List Loc) (ls : Array Slot), Dy g (wM g σ ++ X) s H locs → lv_has ls 8 [(0, .ref (ga g 40)), (1, .int x1), (2, .int x2), (3, .int x3), (4, .int x4), (5, .int x5), (6, .int x6), (7, .int x7)] → W p l e (rmD 6) s m args below meth c H locs 0 0 (QI g below args s (wM g σ' ++ X) r') (F0 m 41 ls []))) :
    (∀ (σ : St) (x1 : Int32) (x2 : Int32) (x3 : Int32) (x4 : Int32) (x5 : Int32) (x6 : Int32) (x7 : Int32), f_X8_window_81 F k_41 σ x1 x2 x3 x4 x5 x6 x7 = some (r', σ') → ∀ (H : Heap) (locs : List Loc) (ls : Array Slot), Dy g (wM g σ ++ X) s H locs → lv_has ls 8 [(0, .ref (ga g 40)), (1, .int x1), (2, .int x2), (3, .int x3), (4, .int x4), (5, .int x5), (6, .int x6), (7, .int x7)] → W p l e (rmD 6) s m args below meth c H locs 0 0 (QI g below args s (wM g σ' ++ X) r') (F0 m 81 ls [])) := by
  have hx := C.1
  have hb := C.2.1
  have hE := C.2.2.2.2.2.2.2.2
  intro σ x1 x2 x3 x4 x5 x6 x7 h H locs ls hd hl
  rw [f_X8_window_81] at h
  obtain ⟨v1, ev1, h⟩ := bnd_e h
  refine lv_iinc (v := v1) (lv' := [(7, .int v1), (0, .ref (ga g 40)), (1, .int x1), (2, .int x2), (3, .int x3), (4, .int x4), (5, .int x5), (6, .int x6)]) hx hb dX8_window_81 hl (k := 7) rfl ((ii_1 _).trans ev1.symm) (Nat.le_of_ble_eq_true rfl) rfl (fun ls hl => ?_)
  refine lv_goto (tgt := 41) hx hb dX8_window_84 (by decide) ?_
  exact hk_41 σ x1 x2 x3 x4 x5 x6 v1 h _ _ _ hd (lv_sub hl [1, 2, 3, 4, 5, 6, 7, 0] rfl)
noncomputable def f_X8_window_74 (F : Nat) (k_41 : St → Int32 → Int32 → Int32 → Int32 → Int32 → Int32 → Int32 → Option (Int32 × St)) (σ : St) (x1 : Int32) (x2 : Int32) (x3 : Int32) (x4 : Int32) (x5 : Int32) (x7 : Int32) : Option (Int32 × St) :=
  bnd (x4 + 1) (fun v1 => f_X8_window_81 F k_41 σ x1 x2 x3 v1 x5 x7 x7)
set_option maxRecDepth 100000 in
set_option maxHeartbeats 4000000 in
theorem w_X8_window_74 {F : Nat} {r' : Int32} {σ' : St}  (C : Cx g p s m args meth c cX8_window 8 RX8) (hr : meth.sig.returnType = some .int)
    {k_41 : St → Int32 → Int32 → Int32 → Int32 → Int32 → Int32 → Int32 → Option (Int32 × St)} (hk_41 : (∀ (σ : St) (x1 : Int32) (x2 : Int32) (x3 : Int32) (x4 : Int32) (x5 : Int32) (x6 : Int32) (x7 : Int32), k_41 σ x1 x2 x3 x4 x5 x6 x7 = some (r', σ') → ∀ (H : Heap) (locs : List Loc) (ls : Array Slot), Dy g (wM g σ ++ X) s H locs → lv_has ls 8 [(0, .ref (ga g 40)), (1, .int x1), (2, .int x2), (3, .int x3), (4, .int x4), (5, .int x5), (6, .int x6), (7, .int x7)] → W p l e (rmD 6) s m args below meth c H locs 0 0 (QI g below args s (wM g σ' ++ X) r') (F0 m 41 ls []))) :
    (∀ (σ : St) (x1 : Int32) (x2 : Int32) (x3 : Int32) (x4 : Int32) (x5 : Int32) (x7 : Int32), f_X8_window_74 F k_41 σ x1 x2 x3 x4 x5 x7 = some (r', σ') → ∀ (H : Heap) (locs : List Loc) (ls : Array Slot), Dy g (wM g σ ++ X) s H locs → lv_has ls 8 [(0, .ref (ga g 40)), (1, .int x1), (2, .int x2), (3, .int x3), (4, .int x4), (5, .int x5), (7, .int x7)] → W p l e (rmD 6) s m args below meth c H locs 0 0 (QI g below args s (wM g σ' ++ X) r') (F0 m 74 ls [])) := by
  have hx := C.1
  have hb := C.2.1
  have hE := C.2.2.2.2.2.2.2.2
  intro σ x1 x2 x3 x4 x5 x7 h H locs ls hd hl
  rw [f_X8_window_74] at h
  refine lv_iload hx hb dX8_window_74 (lv_at hl 6 rfl) ?_
  refine lv_istore (lv' := [(6, .int x7), (0, .ref (ga g 40)), (1, .int x1), (2, .int x2), (3, .int x3), (4, .int x4), (5, .int x5), (7, .int x7)]) hx hb dX8_window_76 hl (Nat.le_of_ble_eq_true rfl) rfl (fun ls hl => ?_)
  obtain ⟨v1, ev1, h⟩ := bnd_e h
  refine lv_iinc (v := v1) (lv' := [(4, .int v1), (6, .int x7), (0, .ref (ga g 40)), (1, .int x1), (2, .int x2), (3, .int x3), (5, .int x5), (7, .int x7)]) hx hb dX8_window_78 hl (k := 5) rfl ((ii_1 _).trans ev1.symm) (Nat.le_of_ble_eq_true rfl) rfl (fun ls hl => ?_)
  exact w_X8_window_81 C hr hk_41 σ x1 x2 x3 v1 x5 x7 x7 h _ _ _ hd (lv_sub hl [2, 3, 4, 5, 0, 6, 1, 7] rfl)
noncomputable def f_X8_window_41 (F : Nat) : Nat → St → Int32 → Int32 → Int32 → Int32 → Int32 → Int32 → Int32 → Option (Int32 × St)
  | 0, _, _, _, _, _, _, _, _ => none
  | n + 1, σ, x1, x2, x3, x4, x5, x6, x7 => cal (f_X8_placeOf F σ x2) (fun r1 => if r1 < x7 then (if x3 = 0 then (some (x4, σ)) else (if x3 = 1 then (some (x5, σ)) else (some (x6, σ)))) else (cal2 (f_X8_comesOut_ F σ x1 x2 x7) (fun r5 t6 => if r5 = 0 then (if x4 = 0 then (f_X8_window_74 F (f_X8_window_41 F n) t6 x1 x2 x3 x4 x7 x7) else (f_X8_window_74 F (f_X8_window_41 F n) t6 x1 x2 x3 x4 x5 x7)) else (f_X8_window_81 F (f_X8_window_41 F n) t6 x1 x2 x3 x4 x5 x6 x7))))
set_option maxRecDepth 100000 in
set_option maxHeartbeats 4000000 in
theorem w_X8_window_41 {F : Nat} {r' : Int32} {σ' : St}  (C : Cx g p s m args meth c cX8_window 8 RX8) (hr : meth.sig.returnType = some .int) :
    (∀ (n : Nat) (σ : St) (x1 : Int32) (x2 : Int32) (x3 : Int32) (x4 : Int32) (x5 : Int32) (x6 : Int32) (x7 : Int32), f_X8_window_41 F n σ x1 x2 x3 x4 x5 x6 x7 = some (r', σ') → ∀ (H : Heap) (locs : List Loc) (ls : Array Slot), Dy g (wM g σ ++ X) s H locs → lv_has ls 8 [(0, .ref (ga g 40)), (1, .int x1), (2, .int x2), (3, .int x3), (4, .int x4), (5, .int x5), (6, .int x6), (7, .int x7)] → W p l e (rmD 6) s m args below meth c H locs 0 0 (QI g below args s (wM g σ' ++ X) r') (F0 m 41 ls [])) := by
  have hx := C.1
  have hb := C.2.1
  have hE := C.2.2.2.2.2.2.2.2
  intro n
  induction n with
  | zero =>
    intro σ x1 x2 x3 x4 x5 x6 x7 h
    cases h
  | succ n ih =>
    intro σ x1 x2 x3 x4 x5 x6 x7 h H locs ls hd hl
    rw [f_X8_window_41] at h
    refine lv_iload hx hb dX8_window_41 (lv_at hl 7 rfl) ?_
    refine lv_aload_n hx hb dX8_window_43 rfl (lv_at hl 0 rfl) ?_
    refine lv_iload_n hx hb dX8_window_44 rfl (lv_at hl 2 rfl) ?_
    obtain ⟨r1, er1, h⟩ := cal_e h
    refine rCallI C hd (c_X8_placeOf hE er1) kX8_217 0 rfl rfl rfl rfl hl.1 rfl (Nat.le_of_ble_eq_true rfl) ⟨(Nat.le_of_ble_eq_true rfl), (Nat.le_of_ble_eq_true rfl)⟩ ⟨Nat.le_refl _, Nat.le_refl _⟩ dX8_window_45 (fun H locs hd => ?_)
    refine lv_icmp_gt (tgt := 87) hx hb dX8_window_48 (by decide) (fun c2 => ?_) (fun c2 => ?_)
    · replace h := iteT c2 h
      refine lv_iload_n hx hb dX8_window_87 rfl (lv_at hl 3 rfl) ?_
      refine lv_if_ne (tgt := 96) hx hb dX8_window_88 (by decide) (fun c3 => ?_) (fun c3 => ?_)
      · replace h := iteF c3 h
        refine lv_iload_n hx hb dX8_window_96 rfl (lv_at hl 3 rfl) ?_
        refine lv_iconst (v := 1) hx hb dX8_window_97 ic_1 ?_
        refine lv_icmp_ne (tgt := 106) hx hb dX8_window_98 (by decide) (fun c4 => ?_) (fun c4 => ?_)
        · replace h := iteF c4 h
          refine lv_iload hx hb dX8_window_106 (lv_at hl 6 rfl) ?_
          exact rIretS (w := wM g) C hr hd h dX8_window_108
        · replace h := iteT c4 h
          refine lv_iload hx hb dX8_window_101 (lv_at hl 5 rfl) ?_
          refine lv_goto (tgt := 108) hx hb dX8_window_103 (by decide) ?_
          exact rIretS (w := wM g) C hr hd h dX8_window_108
      · replace h := iteT c3 h
        refine lv_iload hx hb dX8_window_91 (lv_at hl 4 rfl) ?_
        refine lv_goto (tgt := 108) hx hb dX8_window_93 (by decide) ?_
        exact rIretS (w := wM g) C hr hd h dX8_window_108
    · replace h := iteF c2 h
      refine lv_aload_n hx hb dX8_window_51 rfl (lv_at hl 0 rfl) ?_
      refine lv_iload_n hx hb dX8_window_52 rfl (lv_at hl 1 rfl) ?_
      refine lv_iload_n hx hb dX8_window_53 rfl (lv_at hl 2 rfl) ?_
      refine lv_iload hx hb dX8_window_54 (lv_at hl 7 rfl) ?_
      obtain ⟨r5, t6, et6, h⟩ := cal2_e h
      refine rCallI C hd (c_X8_comesOut_ hE et6) kX8_350 0 rfl rfl rfl rfl hl.1 rfl (Nat.le_of_ble_eq_true rfl) ⟨(Nat.le_of_ble_eq_true rfl), (Nat.le_of_ble_eq_true rfl)⟩ ⟨Nat.le_refl _, Nat.le_refl _⟩ dX8_window_56 (fun H locs hd => ?_)
      refine lv_if_eq (tgt := 65) hx hb dX8_window_59 (by decide) (fun c7 => ?_) (fun c7 => ?_)
      · replace h := iteT c7 h
        refine lv_iload hx hb dX8_window_65 (lv_at hl 4 rfl) ?_
        refine lv_if_ne (tgt := 74) hx hb dX8_window_67 (by decide) (fun c8 => ?_) (fun c8 => ?_)
        · replace h := iteF c8 h
          exact w_X8_window_74 C hr ih t6 x1 x2 x3 x4 x5 x7 h _ _ _ hd (lv_sub hl [0, 1, 2, 3, 4, 5, 7] rfl)
        · replace h := iteT c8 h
          refine lv_iload hx hb dX8_window_70 (lv_at hl 7 rfl) ?_
          refine lv_istore (lv' := [(5, .int x7), (0, .ref (ga g 40)), (1, .int x1), (2, .int x2), (3, .int x3), (4, .int x4), (6, .int x6), (7, .int x7)]) hx hb dX8_window_72 hl (Nat.le_of_ble_eq_true rfl) rfl (fun ls hl => ?_)
          exact w_X8_window_74 C hr ih t6 x1 x2 x3 x4 x7 x7 h _ _ _ hd (lv_sub hl [1, 2, 3, 4, 5, 0, 7] rfl)
      · replace h := iteF c7 h
        refine lv_goto (tgt := 81) hx hb dX8_window_62 (by decide) ?_
        exact w_X8_window_81 C hr ih t6 x1 x2 x3 x4 x5 x6 x7 h _ _ _ hd (lv_sub hl [0, 1, 2, 3, 4, 5, 6, 7] rfl)
noncomputable def f_X8_window (F : Nat) (σ : St) (x1 : Int32) (x2 : Int32) (x3 : Int32) : Option (Int32 × St) :=
  cal (f_X8_isCopy F σ x1) (fun r1 => if r1 = 0 then (some ((-1 : Int32), σ)) else (cal (f_X8_isLine F σ x2) (fun r3 => if r3 = 0 then (some ((-1 : Int32), σ)) else (cal (f_X8_in F σ x3 0 2) (fun r5 => if r5 = 0 then (some ((-1 : Int32), σ)) else (f_X8_window_41 F F σ x1 x2 x3 0 (-2 : Int32) (-2 : Int32) 0))))))
set_option maxRecDepth 100000 in
set_option maxHeartbeats 4000000 in
theorem c_X8_window {l : Launch} {g : Gp} {X : va_W} (hE : E0 g) {F : Nat} {r' : Int32} {σ' : St} {σ : St} {x1 : Int32} {x2 : Int32} {x3 : Int32} (h : f_X8_window F σ x1 x2 x3 = some (r', σ')) : Ci l g yX8_window cX8_window 8 (some .int) 6 [.ref (ga g 40), .int x1, .int x2, .int x3] (wM g σ ++ X) r' (wM g σ' ++ X) := by
  refine rHead hE (by decide +kernel) (Nat.le_of_ble_eq_true rfl) (fun p e s m below meth c C hr _ hd ls hl => ?_)
  have hx := C.1
  have hb := C.2.1
  have hl : lv_has ls 8 [(0, .ref (ga g 40)), (1, .int x1), (2, .int x2), (3, .int x3)] := hl
  generalize ([.ref (ga g 40), .int x1, .int x2, .int x3] : List Value).toArray = args at C ⊢
  have C : Cx g p s m args meth c cX8_window 8 RX8 := C
  rw [f_X8_window] at h
  refine lv_aload_n hx hb dX8_window_0 rfl (lv_at hl 0 rfl) ?_
  refine lv_iload_n hx hb dX8_window_1 rfl (lv_at hl 1 rfl) ?_
  obtain ⟨r1, er1, h⟩ := cal_e h
  refine rCallI C hd (c_X8_isCopy hE er1) kX8_301 0 rfl rfl rfl rfl hl.1 rfl (Nat.le_of_ble_eq_true rfl) ⟨(Nat.le_of_ble_eq_true rfl), (Nat.le_of_ble_eq_true rfl)⟩ ⟨Nat.le_refl _, Nat.le_refl _⟩ dX8_window_2 (fun H locs hd => ?_)
  refine lv_if_eq (tgt := 25) hx hb dX8_window_5 (by decide) (fun c2 => ?_) (fun c2 => ?_)
  · replace h := iteT c2 h
    refine lv_iconst (v := (-1 : Int32)) hx hb dX8_window_25 ic_m1 ?_
    exact rIretS (w := wM g) C hr hd h dX8_window_26
  · replace h := iteF c2 h
    refine lv_aload_n hx hb dX8_window_8 rfl (lv_at hl 0 rfl) ?_
    refine lv_iload_n hx hb dX8_window_9 rfl (lv_at hl 2 rfl) ?_
    obtain ⟨r3, er3, h⟩ := cal_e h
    refine rCallI C hd (c_X8_isLine hE er3) kX8_262 0 rfl rfl rfl rfl hl.1 rfl (Nat.le_of_ble_eq_true rfl) ⟨(Nat.le_of_ble_eq_true rfl), (Nat.le_of_ble_eq_true rfl)⟩ ⟨Nat.le_refl _, Nat.le_refl _⟩ dX8_window_10 (fun H locs hd => ?_)
    refine lv_if_eq (tgt := 25) hx hb dX8_window_13 (by decide) (fun c4 => ?_) (fun c4 => ?_)
    · replace h := iteT c4 h
      refine lv_iconst (v := (-1 : Int32)) hx hb dX8_window_25 ic_m1 ?_
      exact rIretS (w := wM g) C hr hd h dX8_window_26
    · replace h := iteF c4 h
      refine lv_iload_n hx hb dX8_window_16 rfl (lv_at hl 3 rfl) ?_
      refine lv_iconst (v := 0) hx hb dX8_window_17 ic_0 ?_
      refine lv_iconst (v := 2) hx hb dX8_window_18 ic_2 ?_
      obtain ⟨r5, er5, h⟩ := cal_e h
      refine rCallSI C hd (c_X8_in hE er5) kX8_194 rfl hl.1 rfl (Nat.le_of_ble_eq_true rfl) ⟨(Nat.le_of_ble_eq_true rfl), (Nat.le_of_ble_eq_true rfl)⟩ ⟨Nat.le_refl _, Nat.le_refl _⟩ dX8_window_19 (fun H locs hd => ?_)
      refine lv_if_ne (tgt := 27) hx hb dX8_window_22 (by decide) (fun c6 => ?_) (fun c6 => ?_)
      · replace h := iteF c6 h
        refine lv_iconst (v := 0) hx hb dX8_window_27 ic_0 ?_
        refine lv_istore (lv' := [(4, .int 0), (0, .ref (ga g 40)), (1, .int x1), (2, .int x2), (3, .int x3)]) hx hb dX8_window_28 hl (Nat.le_of_ble_eq_true rfl) rfl (fun ls hl => ?_)
        refine lv_bipush (v := (-2 : Int32)) hx hb dX8_window_30 bi_m2 ?_
        refine lv_istore (lv' := [(5, .int (-2 : Int32)), (4, .int 0), (0, .ref (ga g 40)), (1, .int x1), (2, .int x2), (3, .int x3)]) hx hb dX8_window_32 hl (Nat.le_of_ble_eq_true rfl) rfl (fun ls hl => ?_)
        refine lv_bipush (v := (-2 : Int32)) hx hb dX8_window_34 bi_m2 ?_
        refine lv_istore (lv' := [(6, .int (-2 : Int32)), (5, .int (-2 : Int32)), (4, .int 0), (0, .ref (ga g 40)), (1, .int x1), (2, .int x2), (3, .int x3)]) hx hb dX8_window_36 hl (Nat.le_of_ble_eq_true rfl) rfl (fun ls hl => ?_)
        refine lv_iconst (v := 0) hx hb dX8_window_38 ic_0 ?_
        refine lv_istore (lv' := [(7, .int 0), (6, .int (-2 : Int32)), (5, .int (-2 : Int32)), (4, .int 0), (0, .ref (ga g 40)), (1, .int x1), (2, .int x2), (3, .int x3)]) hx hb dX8_window_39 hl (Nat.le_of_ble_eq_true rfl) rfl (fun ls hl => ?_)
        exact w_X8_window_41 C hr _ σ x1 x2 x3 0 (-2 : Int32) (-2 : Int32) 0 h _ _ _ hd (lv_sub hl [4, 5, 6, 7, 3, 2, 1, 0] rfl)
      · replace h := iteT c6 h
        refine lv_iconst (v := (-1 : Int32)) hx hb dX8_window_25 ic_m1 ?_
        exact rIretS (w := wM g) C hr hd h dX8_window_26
noncomputable def f_X8_work_63 (F : Nat) (k_21 : St → Int32 → Int32 → Int32 → Int32 → Int32 → Option (Int32 × St)) (σ : St) (x1 : Int32) (x2 : Int32) (x3 : Int32) (x4 : Int32) (x5 : Int32) : Option (Int32 × St) :=
  bnd (x5 + 1) (fun v1 => k_21 σ x1 x2 x3 x4 v1)
set_option maxRecDepth 100000 in
set_option maxHeartbeats 4000000 in
theorem w_X8_work_63 {F : Nat} {r' : Int32} {σ' : St}  (C : Cx g p s m args meth c cX8_work 7 RX8) (hr : meth.sig.returnType = some .int)
    {k_21 : St → Int32 → Int32 → Int32 → Int32 → Int32 → Option (Int32 × St)} (hk_21 : (∀ (σ : St) (x1 : Int32) (x2 : Int32) (x3 : Int32) (x4 : Int32) (x5 : Int32), k_21 σ x1 x2 x3 x4 x5 = some (r', σ') → ∀ (H : Heap) (locs : List Loc) (ls : Array Slot), Dy g (wM g σ ++ X) s H locs → lv_has ls 7 [(0, .ref (ga g 40)), (1, .int x1), (2, .int x2), (3, .int x3), (4, .int x4), (5, .int x5)] → W p l e (rmD 6) s m args below meth c H locs 0 0 (QI g below args s (wM g σ' ++ X) r') (F0 m 21 ls []))) :
    (∀ (σ : St) (x1 : Int32) (x2 : Int32) (x3 : Int32) (x4 : Int32) (x5 : Int32), f_X8_work_63 F k_21 σ x1 x2 x3 x4 x5 = some (r', σ') → ∀ (H : Heap) (locs : List Loc) (ls : Array Slot), Dy g (wM g σ ++ X) s H locs → lv_has ls 7 [(0, .ref (ga g 40)), (1, .int x1), (2, .int x2), (3, .int x3), (4, .int x4), (5, .int x5)] → W p l e (rmD 6) s m args below meth c H locs 0 0 (QI g below args s (wM g σ' ++ X) r') (F0 m 63 ls [])) := by
  have hx := C.1
  have hb := C.2.1
  have hE := C.2.2.2.2.2.2.2.2
  intro σ x1 x2 x3 x4 x5 h H locs ls hd hl
  rw [f_X8_work_63] at h
  obtain ⟨v1, ev1, h⟩ := bnd_e h
  refine lv_iinc (v := v1) (lv' := [(5, .int v1), (0, .ref (ga g 40)), (1, .int x1), (2, .int x2), (3, .int x3), (4, .int x4)]) hx hb dX8_work_63 hl (k := 5) rfl ((ii_1 _).trans ev1.symm) (Nat.le_of_ble_eq_true rfl) rfl (fun ls hl => ?_)
  refine lv_goto (tgt := 21) hx hb dX8_work_66 (by decide) ?_
  exact hk_21 σ x1 x2 x3 x4 v1 h _ _ _ hd (lv_sub hl [1, 2, 3, 4, 5, 0] rfl)
noncomputable def f_X8_work_21 (F : Nat) : Nat → St → Int32 → Int32 → Int32 → Int32 → Int32 → Option (Int32 × St)
  | 0, _, _, _, _, _, _ => none
  | n + 1, σ, x1, x2, x3, x4, x5 => if x3 < x5 then (some (x4, σ)) else (cal (f_X8_changedBy F σ x2 x5) (fun r2 => if r2 < 0 then (f_X8_work_63 F (f_X8_work_21 F n) σ x1 x2 x3 x4 x5) else (cal (f_X8_takenAt F σ x1 r2) (fun r4 => if inb (r4 + 2) 7164 = true then if x5 ≤ (σ.2.1 19 (r4 + 2).toNatClampNeg) then (f_X8_work_63 F (f_X8_work_21 F n) σ x1 x2 x3 x4 x5) else (bnd (x4 + 1) (fun v7 => f_X8_work_63 F (f_X8_work_21 F n) σ x1 x2 x3 v7 x5)) else none))))
set_option maxRecDepth 100000 in
set_option maxHeartbeats 4000000 in
theorem w_X8_work_21 {F : Nat} {r' : Int32} {σ' : St}  (C : Cx g p s m args meth c cX8_work 7 RX8) (hr : meth.sig.returnType = some .int) :
    (∀ (n : Nat) (σ : St) (x1 : Int32) (x2 : Int32) (x3 : Int32) (x4 : Int32) (x5 : Int32), f_X8_work_21 F n σ x1 x2 x3 x4 x5 = some (r', σ') → ∀ (H : Heap) (locs : List Loc) (ls : Array Slot), Dy g (wM g σ ++ X) s H locs → lv_has ls 7 [(0, .ref (ga g 40)), (1, .int x1), (2, .int x2), (3, .int x3), (4, .int x4), (5, .int x5)] → W p l e (rmD 6) s m args below meth c H locs 0 0 (QI g below args s (wM g σ' ++ X) r') (F0 m 21 ls [])) := by
  have hx := C.1
  have hb := C.2.1
  have hE := C.2.2.2.2.2.2.2.2
  intro n
  induction n with
  | zero =>
    intro σ x1 x2 x3 x4 x5 h
    cases h
  | succ n ih =>
    intro σ x1 x2 x3 x4 x5 h H locs ls hd hl
    rw [f_X8_work_21] at h
    refine lv_iload hx hb dX8_work_21 (lv_at hl 5 rfl) ?_
    refine lv_iload_n hx hb dX8_work_23 rfl (lv_at hl 3 rfl) ?_
    refine lv_icmp_gt (tgt := 69) hx hb dX8_work_24 (by decide) (fun c1 => ?_) (fun c1 => ?_)
    · replace h := iteT c1 h
      refine lv_iload hx hb dX8_work_69 (lv_at hl 4 rfl) ?_
      exact rIretS (w := wM g) C hr hd h dX8_work_71
    · replace h := iteF c1 h
      refine lv_aload_n hx hb dX8_work_27 rfl (lv_at hl 0 rfl) ?_
      refine lv_iload_n hx hb dX8_work_28 rfl (lv_at hl 2 rfl) ?_
      refine lv_iload hx hb dX8_work_29 (lv_at hl 5 rfl) ?_
      obtain ⟨r2, er2, h⟩ := cal_e h
      refine rCallI C hd (c_X8_changedBy hE er2) kX8_283 0 rfl rfl rfl rfl hl.1 rfl (Nat.le_of_ble_eq_true rfl) ⟨(Nat.le_of_ble_eq_true rfl), (Nat.le_of_ble_eq_true rfl)⟩ ⟨Nat.le_refl _, Nat.le_refl _⟩ dX8_work_31 (fun H locs hd => ?_)
      refine lv_istore (lv' := [(6, .int r2), (0, .ref (ga g 40)), (1, .int x1), (2, .int x2), (3, .int x3), (4, .int x4), (5, .int x5)]) hx hb dX8_work_34 hl (Nat.le_of_ble_eq_true rfl) rfl (fun ls hl => ?_)
      refine lv_iload hx hb dX8_work_36 (lv_at hl 0 rfl) ?_
      refine lv_if_lt (tgt := 63) hx hb dX8_work_38 (by decide) (fun c3 => ?_) (fun c3 => ?_)
      · replace h := iteT c3 h
        exact w_X8_work_63 C hr ih σ x1 x2 x3 x4 x5 h _ _ _ hd (lv_sub hl [1, 2, 3, 4, 5, 6] rfl)
      · replace h := iteF c3 h
        refine lv_iload hx hb dX8_work_41 (lv_at hl 6 rfl) ?_
        refine lv_aload_n hx hb dX8_work_43 rfl (lv_at hl 1 rfl) ?_
        refine gX8_73 C hd dX8_work_44 ?_
        refine lv_aload_n hx hb dX8_work_47 rfl (lv_at hl 1 rfl) ?_
        refine lv_iload_n hx hb dX8_work_48 rfl (lv_at hl 2 rfl) ?_
        refine lv_iload hx hb dX8_work_49 (lv_at hl 0 rfl) ?_
        obtain ⟨r4, er4, h⟩ := cal_e h
        refine rCallI C hd (c_X8_takenAt hE er4) kX8_289 0 rfl rfl rfl rfl hl.1 rfl (Nat.le_of_ble_eq_true rfl) ⟨(Nat.le_of_ble_eq_true rfl), (Nat.le_of_ble_eq_true rfl)⟩ ⟨Nat.le_refl _, Nat.le_refl _⟩ dX8_work_51 (fun H locs hd => ?_)
        refine lv_iconst (v := 2) hx hb dX8_work_54 ic_2 ?_
        refine lv_iadd hx hb dX8_work_55 ?_
        obtain ⟨n5, h⟩ := chk h
        refine ld_wM_19 C hd (inb_i n5) dX8_work_56 ?_
        refine lv_icmp_le (tgt := 63) hx hb dX8_work_57 (by decide) (fun c6 => ?_) (fun c6 => ?_)
        · replace h := iteT c6 h
          exact w_X8_work_63 C hr ih σ x1 x2 x3 x4 x5 h _ _ _ hd (lv_sub hl [1, 2, 3, 4, 5, 6] rfl)
        · replace h := iteF c6 h
          obtain ⟨v7, ev7, h⟩ := bnd_e h
          refine lv_iinc (v := v7) (lv' := [(4, .int v7), (6, .int r2), (0, .ref (ga g 40)), (1, .int x1), (2, .int x2), (3, .int x3), (5, .int x5)]) hx hb dX8_work_60 hl (k := 5) rfl ((ii_1 _).trans ev7.symm) (Nat.le_of_ble_eq_true rfl) rfl (fun ls hl => ?_)
          exact w_X8_work_63 C hr ih σ x1 x2 x3 v7 x5 h _ _ _ hd (lv_sub hl [2, 3, 4, 5, 0, 6] rfl)
noncomputable def f_X8_work (F : Nat) (σ : St) (x1 : Int32) (x2 : Int32) (x3 : Int32) : Option (Int32 × St) :=
  cal2 (f_X8_comesOut_ F σ x1 x2 x3) (fun r1 t2 => cal (f_X8_isNeeding F t2 r1) (fun r3 => if r3 = 0 then (some ((-1 : Int32), t2)) else (f_X8_work_21 F F t2 x1 x2 x3 0 1)))
set_option maxRecDepth 100000 in
set_option maxHeartbeats 4000000 in
theorem c_X8_work {l : Launch} {g : Gp} {X : va_W} (hE : E0 g) {F : Nat} {r' : Int32} {σ' : St} {σ : St} {x1 : Int32} {x2 : Int32} {x3 : Int32} (h : f_X8_work F σ x1 x2 x3 = some (r', σ')) : Ci l g yX8_work cX8_work 7 (some .int) 6 [.ref (ga g 40), .int x1, .int x2, .int x3] (wM g σ ++ X) r' (wM g σ' ++ X) := by
  refine rHead hE (by decide +kernel) (Nat.le_of_ble_eq_true rfl) (fun p e s m below meth c C hr _ hd ls hl => ?_)
  have hx := C.1
  have hb := C.2.1
  have hl : lv_has ls 7 [(0, .ref (ga g 40)), (1, .int x1), (2, .int x2), (3, .int x3)] := hl
  generalize ([.ref (ga g 40), .int x1, .int x2, .int x3] : List Value).toArray = args at C ⊢
  have C : Cx g p s m args meth c cX8_work 7 RX8 := C
  rw [f_X8_work] at h
  refine lv_aload_n hx hb dX8_work_0 rfl (lv_at hl 0 rfl) ?_
  refine lv_iload_n hx hb dX8_work_1 rfl (lv_at hl 1 rfl) ?_
  refine lv_iload_n hx hb dX8_work_2 rfl (lv_at hl 2 rfl) ?_
  refine lv_iload_n hx hb dX8_work_3 rfl (lv_at hl 3 rfl) ?_
  obtain ⟨r1, t2, et2, h⟩ := cal2_e h
  refine rCallI C hd (c_X8_comesOut_ hE et2) kX8_350 0 rfl rfl rfl rfl hl.1 rfl (Nat.le_of_ble_eq_true rfl) ⟨(Nat.le_of_ble_eq_true rfl), (Nat.le_of_ble_eq_true rfl)⟩ ⟨Nat.le_refl _, Nat.le_refl _⟩ dX8_work_4 (fun H locs hd => ?_)
  obtain ⟨r3, er3, h⟩ := cal_e h
  refine rCallSI C hd (c_X8_isNeeding hE er3) kX8_390 rfl hl.1 rfl (Nat.le_of_ble_eq_true rfl) ⟨(Nat.le_of_ble_eq_true rfl), (Nat.le_of_ble_eq_true rfl)⟩ ⟨Nat.le_refl _, Nat.le_refl _⟩ dX8_work_7 (fun H locs hd => ?_)
  refine lv_if_ne (tgt := 15) hx hb dX8_work_10 (by decide) (fun c4 => ?_) (fun c4 => ?_)
  · replace h := iteF c4 h
    refine lv_iconst (v := 0) hx hb dX8_work_15 ic_0 ?_
    refine lv_istore (lv' := [(4, .int 0), (0, .ref (ga g 40)), (1, .int x1), (2, .int x2), (3, .int x3)]) hx hb dX8_work_16 hl (Nat.le_of_ble_eq_true rfl) rfl (fun ls hl => ?_)
    refine lv_iconst (v := 1) hx hb dX8_work_18 ic_1 ?_
    refine lv_istore (lv' := [(5, .int 1), (4, .int 0), (0, .ref (ga g 40)), (1, .int x1), (2, .int x2), (3, .int x3)]) hx hb dX8_work_19 hl (Nat.le_of_ble_eq_true rfl) rfl (fun ls hl => ?_)
    exact w_X8_work_21 C hr _ t2 x1 x2 x3 0 1 h _ _ _ hd (lv_sub hl [2, 3, 4, 5, 1, 0] rfl)
  · replace h := iteT c4 h
    refine lv_iconst (v := (-1 : Int32)) hx hb dX8_work_13 ic_m1 ?_
    exact rIretS (w := wM g) C hr hd h dX8_work_14
noncomputable def f_X8_would (F : Nat) (σ : St) (x1 : Int32) (x2 : Int32) (x3 : Int32) : Option (Int32 × St) :=
  cal2 (f_X8_comesOut_ F σ x1 x2 x3) (fun r1 t2 => some (r1, t2))
set_option maxRecDepth 100000 in
set_option maxHeartbeats 4000000 in
theorem c_X8_would {l : Launch} {g : Gp} {X : va_W} (hE : E0 g) {F : Nat} {r' : Int32} {σ' : St} {σ : St} {x1 : Int32} {x2 : Int32} {x3 : Int32} (h : f_X8_would F σ x1 x2 x3 = some (r', σ')) : Ci l g yX8_would cX8_would 4 (some .int) 6 [.ref (ga g 40), .int x1, .int x2, .int x3] (wM g σ ++ X) r' (wM g σ' ++ X) := by
  refine rHead hE (by decide +kernel) (Nat.le_of_ble_eq_true rfl) (fun p e s m below meth c C hr _ hd ls hl => ?_)
  have hx := C.1
  have hb := C.2.1
  have hl : lv_has ls 4 [(0, .ref (ga g 40)), (1, .int x1), (2, .int x2), (3, .int x3)] := hl
  generalize ([.ref (ga g 40), .int x1, .int x2, .int x3] : List Value).toArray = args at C ⊢
  have C : Cx g p s m args meth c cX8_would 4 RX8 := C
  rw [f_X8_would] at h
  refine lv_aload_n hx hb dX8_would_0 rfl (lv_at hl 0 rfl) ?_
  refine lv_iload_n hx hb dX8_would_1 rfl (lv_at hl 1 rfl) ?_
  refine lv_iload_n hx hb dX8_would_2 rfl (lv_at hl 2 rfl) ?_
  refine lv_iload_n hx hb dX8_would_3 rfl (lv_at hl 3 rfl) ?_
  obtain ⟨r1, t2, et2, h⟩ := cal2_e h
  refine rCallI C hd (c_X8_comesOut_ hE et2) kX8_350 0 rfl rfl rfl rfl hl.1 rfl (Nat.le_of_ble_eq_true rfl) ⟨(Nat.le_of_ble_eq_true rfl), (Nat.le_of_ble_eq_true rfl)⟩ ⟨Nat.le_refl _, Nat.le_refl _⟩ dX8_would_4 (fun H locs hd => ?_)
  exact rIretS (w := wM g) C hr hd h dX8_would_7
end S
